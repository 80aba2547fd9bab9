section LFBB
variable {l : Launch} {E : EE}
theorem c_X12_isSo (hl : l.stackTraces = false) {σ : SG} {what_0 : Int} {r : Bool}  (H : fR_isSo σ what_0 = some r) : en_S l E M_X12_isSo 2 0 0 [vr 277, vi what_0] σ (pS (some (zv r)) σ) := by
  unfold fR_isSo at H
  refine z_mk (lv := [some (vr 277), some (vi what_0), none, none, none, none, none]) m_X12_isSo rfl hl (Nat.le_of_ble_eq_true rfl) rfl ?_
  refine z_aload_n (M := M_X12_isSo) dX12_isSo_0 rfl ?_
  refine z_iconst (M := M_X12_isSo) dX12_isSo_1 ?_
  obtain ⟨x_2, hc_1, H⟩ := bd_e H
  refine z_callV (M := M_X12_isSo) (M' := M_X12_dimension) (as := [vi 0]) (rest := []) rfl rfl dX12_isSo_2 m_X12_dimension t_3605 t_3607 s_306 (c_X12_dimension hl  hc_1) rfl rfl ly_277 rfl (Nat.le_of_ble_eq_true rfl) (Nat.le_of_ble_eq_true rfl) (Nat.le_of_ble_eq_true rfl) (Nat.le_of_ble_eq_true rfl) ?_
  refine z_st (st' := [vi x_2]) rfl ?_
  refine z_istore_n (M := M_X12_isSo) (lv' := [some (vr 277), some (vi what_0), some (vi x_2), none, none, none, none]) dX12_isSo_5 (Nat.le_of_ble_eq_true rfl) rfl rfl ?_
  refine z_aload_n (M := M_X12_isSo) dX12_isSo_6 rfl ?_
  refine z_iconst (M := M_X12_isSo) dX12_isSo_7 ?_
  obtain ⟨x_4, hc_3, H⟩ := bd_e H
  refine z_callV (M := M_X12_isSo) (M' := M_X12_dimension) (as := [vi 1]) (rest := []) rfl rfl dX12_isSo_8 m_X12_dimension t_3605 t_3607 s_306 (c_X12_dimension hl  hc_3) rfl rfl ly_277 rfl (Nat.le_of_ble_eq_true rfl) (Nat.le_of_ble_eq_true rfl) (Nat.le_of_ble_eq_true rfl) (Nat.le_of_ble_eq_true rfl) ?_
  refine z_st (st' := [vi x_4]) rfl ?_
  refine z_istore_n (M := M_X12_isSo) (lv' := [some (vr 277), some (vi what_0), some (vi x_2), some (vi x_4), none, none, none]) dX12_isSo_11 (Nat.le_of_ble_eq_true rfl) rfl rfl ?_
  obtain ⟨v_307, he_308, hk_309⟩ := bd_e H
  have J_310 : ∀ x_22, v_307 = x_22 → YY l E M_X12_isSo 2 0 0 (pS (some (zv r)) σ) 49 [some (vr 277), some (vi what_0), some (vi x_2), some (vi x_4), none, none, none] [zv x_22] σ 0 0 := by
    intro x_22 e
    have H := hk_309
    rw [e] at H
    refine z_zstore (M := M_X12_isSo) (lv' := [some (vr 277), some (vi what_0), some (vi x_2), some (vi x_4), some (zv x_22), none, none]) dX12_isSo_49 (Nat.le_of_ble_eq_true rfl) rfl rfl ?_
    obtain ⟨v_303, he_304, hk_305⟩ := bd_e H
    have J_306 : ∀ x_32, v_303 = x_32 → YY l E M_X12_isSo 2 0 0 (pS (some (zv r)) σ) 72 [some (vr 277), some (vi what_0), some (vi x_2), some (vi x_4), some (zv x_22), none, none] [zv x_32] σ 0 0 := by
      intro x_32 e
      have H := hk_305
      rw [e] at H
      refine z_zstore (M := M_X12_isSo) (lv' := [some (vr 277), some (vi what_0), some (vi x_2), some (vi x_4), some (zv x_22), some (zv x_32), none]) dX12_isSo_72 (Nat.le_of_ble_eq_true rfl) rfl rfl ?_
      obtain ⟨v_299, he_300, hk_301⟩ := bd_e H
      have J_302 : ∀ x_42, v_299 = x_42 → YY l E M_X12_isSo 2 0 0 (pS (some (zv r)) σ) 97 [some (vr 277), some (vi what_0), some (vi x_2), some (vi x_4), some (zv x_22), some (zv x_32), none] [zv x_42] σ 0 0 := by
        intro x_42 e
        have H := hk_301
        rw [e] at H
        refine z_zstore (M := M_X12_isSo) (lv' := [some (vr 277), some (vi what_0), some (vi x_2), some (vi x_4), some (zv x_22), some (zv x_32), some (zv x_42)]) dX12_isSo_97 (Nat.le_of_ble_eq_true rfl) rfl rfl ?_
        refine z_iload_n (M := M_X12_isSo) dX12_isSo_99 rfl ?_
        rcases if_e H with ⟨h_43, H⟩ | ⟨h_43, H⟩
        · refine z_tabIn (M := M_X12_isSo) (tgt := 148) (off := 48) dX12_isSo_100 h_43 (by decide) (by decide) rfl (by decide) ?_
          obtain ⟨v_66, he_67, hk_68⟩ := bd_e H
          have J_69 : ∀ x_65, v_66 = x_65 → YY l E M_X12_isSo 2 0 0 (pS (some (zv r)) σ) 181 [some (vr 277), some (vi what_0), some (vi x_2), some (vi x_4), some (zv x_22), some (zv x_32), some (zv x_42)] [zv x_65] σ 0 0 := by
            intro x_65 e
            have H := hk_68
            rw [e] at H
            cases H
            exact z_zret (M := M_X12_isSo) dX12_isSo_181 rfl (Nat.le_of_ble_eq_true rfl) (Nat.le_of_ble_eq_true rfl) ⟨rfl, rfl⟩
          have H := he_67
          refine z_iload_n (M := M_X12_isSo) dX12_isSo_148 rfl ?_
          refine z_iconst (M := M_X12_isSo) dX12_isSo_149 ?_
          rcases if_e H with ⟨h_44, H⟩ | ⟨h_44, H⟩
          · refine z_icmp_ne_f (M := M_X12_isSo) (tgt := 158) dX12_isSo_150 (by decide) rfl (by decide +kernel) h_44 ?_
            refine z_iload_n (M := M_X12_isSo) dX12_isSo_153 rfl ?_
            refine z_iconst (M := M_X12_isSo) dX12_isSo_154 ?_
            rcases if_e H with ⟨h_45, H⟩ | ⟨h_45, H⟩
            · refine z_icmp_eq_t (M := M_X12_isSo) (tgt := 176) dX12_isSo_155 (by decide) rfl (by decide +kernel) h_45 ?_
              refine z_zconst (M := M_X12_isSo) (b := true) dX12_isSo_176 rfl ?_
              refine z_goto (M := M_X12_isSo) (tgt := 181) dX12_isSo_177 (by decide) ?_
              exact J_69 _ (Option.some.inj H).symm
            · refine z_icmp_eq_f (M := M_X12_isSo) (tgt := 176) dX12_isSo_155 (by decide) rfl (by decide +kernel) h_45 ?_
              refine z_aload_n (M := M_X12_isSo) dX12_isSo_158 rfl ?_
              refine z_iconst (M := M_X12_isSo) dX12_isSo_159 ?_
              obtain ⟨x_48, hc_47, H⟩ := bd_e H
              refine z_callV (M := M_X12_isSo) (M' := M_X12_m) (as := [vi 0]) (rest := []) rfl rfl dX12_isSo_160 m_X12_m t_3609 t_3611 s_307 (c_X12_m hl  hc_47) rfl rfl ly_277 rfl (Nat.le_of_ble_eq_true rfl) (Nat.le_of_ble_eq_true rfl) (Nat.le_of_ble_eq_true rfl) (Nat.le_of_ble_eq_true rfl) ?_
              refine z_st (st' := [zv x_48]) rfl ?_
              rcases if_e H with ⟨h_49, H⟩ | ⟨h_49, H⟩
              · refine z_zeq_f (M := M_X12_isSo) (tgt := 180) dX12_isSo_163 (by decide) h_49 ?_
                refine z_zload (M := M_X12_isSo) dX12_isSo_166 rfl ?_
                rcases if_e H with ⟨h_50, H⟩ | ⟨h_50, H⟩
                · refine z_zeq_f (M := M_X12_isSo) (tgt := 180) dX12_isSo_168 (by decide) h_50 ?_
                  refine z_zload (M := M_X12_isSo) dX12_isSo_171 rfl ?_
                  rcases if_e H with ⟨h_51, H⟩ | ⟨h_51, H⟩
                  · refine z_zeq_f (M := M_X12_isSo) (tgt := 180) dX12_isSo_173 (by decide) h_51 ?_
                    refine z_zconst (M := M_X12_isSo) (b := true) dX12_isSo_176 rfl ?_
                    refine z_goto (M := M_X12_isSo) (tgt := 181) dX12_isSo_177 (by decide) ?_
                    exact J_69 _ (Option.some.inj H).symm
                  · refine z_zeq_t (M := M_X12_isSo) (tgt := 180) dX12_isSo_173 (by decide) h_51 ?_
                    refine z_zconst (M := M_X12_isSo) (b := false) dX12_isSo_180 rfl ?_
                    exact J_69 _ (Option.some.inj H).symm
                · refine z_zeq_t (M := M_X12_isSo) (tgt := 180) dX12_isSo_168 (by decide) h_50 ?_
                  refine z_zconst (M := M_X12_isSo) (b := false) dX12_isSo_180 rfl ?_
                  exact J_69 _ (Option.some.inj H).symm
              · refine z_zeq_t (M := M_X12_isSo) (tgt := 180) dX12_isSo_163 (by decide) h_49 ?_
                refine z_zconst (M := M_X12_isSo) (b := false) dX12_isSo_180 rfl ?_
                exact J_69 _ (Option.some.inj H).symm
          · refine z_icmp_ne_t (M := M_X12_isSo) (tgt := 158) dX12_isSo_150 (by decide) rfl (by decide +kernel) h_44 ?_
            refine z_aload_n (M := M_X12_isSo) dX12_isSo_158 rfl ?_
            refine z_iconst (M := M_X12_isSo) dX12_isSo_159 ?_
            obtain ⟨x_57, hc_56, H⟩ := bd_e H
            refine z_callV (M := M_X12_isSo) (M' := M_X12_m) (as := [vi 0]) (rest := []) rfl rfl dX12_isSo_160 m_X12_m t_3609 t_3611 s_307 (c_X12_m hl  hc_56) rfl rfl ly_277 rfl (Nat.le_of_ble_eq_true rfl) (Nat.le_of_ble_eq_true rfl) (Nat.le_of_ble_eq_true rfl) (Nat.le_of_ble_eq_true rfl) ?_
            refine z_st (st' := [zv x_57]) rfl ?_
            rcases if_e H with ⟨h_58, H⟩ | ⟨h_58, H⟩
            · refine z_zeq_f (M := M_X12_isSo) (tgt := 180) dX12_isSo_163 (by decide) h_58 ?_
              refine z_zload (M := M_X12_isSo) dX12_isSo_166 rfl ?_
              rcases if_e H with ⟨h_59, H⟩ | ⟨h_59, H⟩
              · refine z_zeq_f (M := M_X12_isSo) (tgt := 180) dX12_isSo_168 (by decide) h_59 ?_
                refine z_zload (M := M_X12_isSo) dX12_isSo_171 rfl ?_
                rcases if_e H with ⟨h_60, H⟩ | ⟨h_60, H⟩
                · refine z_zeq_f (M := M_X12_isSo) (tgt := 180) dX12_isSo_173 (by decide) h_60 ?_
                  refine z_zconst (M := M_X12_isSo) (b := true) dX12_isSo_176 rfl ?_
                  refine z_goto (M := M_X12_isSo) (tgt := 181) dX12_isSo_177 (by decide) ?_
                  exact J_69 _ (Option.some.inj H).symm
                · refine z_zeq_t (M := M_X12_isSo) (tgt := 180) dX12_isSo_173 (by decide) h_60 ?_
                  refine z_zconst (M := M_X12_isSo) (b := false) dX12_isSo_180 rfl ?_
                  exact J_69 _ (Option.some.inj H).symm
              · refine z_zeq_t (M := M_X12_isSo) (tgt := 180) dX12_isSo_168 (by decide) h_59 ?_
                refine z_zconst (M := M_X12_isSo) (b := false) dX12_isSo_180 rfl ?_
                exact J_69 _ (Option.some.inj H).symm
            · refine z_zeq_t (M := M_X12_isSo) (tgt := 180) dX12_isSo_163 (by decide) h_58 ?_
              refine z_zconst (M := M_X12_isSo) (b := false) dX12_isSo_180 rfl ?_
              exact J_69 _ (Option.some.inj H).symm
        · rcases if_e H with ⟨h_70, H⟩ | ⟨h_70, H⟩
          · refine z_tabIn (M := M_X12_isSo) (tgt := 182) (off := 82) dX12_isSo_100 h_70 (by decide) (by decide) rfl (by decide) ?_
            have J_71 : YY l E M_X12_isSo 2 0 0 (pS (some (zv r)) σ) 192 [some (vr 277), some (vi what_0), some (vi x_2), some (vi x_4), some (zv x_22), some (zv x_32), some (zv x_42)] [zv (decide (¬ (x_22 = true)))] σ 0 0 := by
              cases H
              exact z_zret (M := M_X12_isSo) dX12_isSo_192 rfl (Nat.le_of_ble_eq_true rfl) (Nat.le_of_ble_eq_true rfl) ⟨rfl, rfl⟩
            refine z_zload (M := M_X12_isSo) dX12_isSo_182 rfl ?_
            by_cases h_72 : x_22 = true
            · refine z_zne_t (M := M_X12_isSo) (tgt := 191) dX12_isSo_184 (by decide) h_72 ?_
              refine z_iconst (M := M_X12_isSo) dX12_isSo_191 ?_
              exact z_st (by rw [zv_f (p := ¬ (x_22 = true)) (not_not_intro h_72)]) J_71
            · refine z_zne_f (M := M_X12_isSo) (tgt := 191) dX12_isSo_184 (by decide) h_72 ?_
              refine z_iconst (M := M_X12_isSo) dX12_isSo_187 ?_
              refine z_goto (M := M_X12_isSo) (tgt := 192) dX12_isSo_188 (by decide) ?_
              exact z_st (by rw [zv_t (p := ¬ (x_22 = true)) h_72]) J_71
          · rcases if_e H with ⟨h_73, H⟩ | ⟨h_73, H⟩
            · refine z_tabIn (M := M_X12_isSo) (tgt := 193) (off := 93) dX12_isSo_100 h_73 (by decide) (by decide) rfl (by decide) ?_
              obtain ⟨v_82, he_83, hk_84⟩ := bd_e H
              have J_85 : ∀ x_81, v_82 = x_81 → YY l E M_X12_isSo 2 0 0 (pS (some (zv r)) σ) 211 [some (vr 277), some (vi what_0), some (vi x_2), some (vi x_4), some (zv x_22), some (zv x_32), some (zv x_42)] [zv x_81] σ 0 0 := by
                intro x_81 e
                have H := hk_84
                rw [e] at H
                cases H
                exact z_zret (M := M_X12_isSo) dX12_isSo_211 rfl (Nat.le_of_ble_eq_true rfl) (Nat.le_of_ble_eq_true rfl) ⟨rfl, rfl⟩
              have H := he_83
              refine z_aload_n (M := M_X12_isSo) dX12_isSo_193 rfl ?_
              refine z_iconst (M := M_X12_isSo) dX12_isSo_194 ?_
              obtain ⟨x_75, hc_74, H⟩ := bd_e H
              refine z_callV (M := M_X12_isSo) (M' := M_X12_m) (as := [vi 0]) (rest := []) rfl rfl dX12_isSo_195 m_X12_m t_3609 t_3611 s_307 (c_X12_m hl  hc_74) rfl rfl ly_277 rfl (Nat.le_of_ble_eq_true rfl) (Nat.le_of_ble_eq_true rfl) (Nat.le_of_ble_eq_true rfl) (Nat.le_of_ble_eq_true rfl) ?_
              refine z_st (st' := [zv x_75]) rfl ?_
              rcases if_e H with ⟨h_76, H⟩ | ⟨h_76, H⟩
              · refine z_zne_t (M := M_X12_isSo) (tgt := 210) dX12_isSo_198 (by decide) h_76 ?_
                refine z_zconst (M := M_X12_isSo) (b := false) dX12_isSo_210 rfl ?_
                exact J_85 _ (Option.some.inj H).symm
              · refine z_zne_f (M := M_X12_isSo) (tgt := 210) dX12_isSo_198 (by decide) h_76 ?_
                refine z_zload (M := M_X12_isSo) dX12_isSo_201 rfl ?_
                rcases if_e H with ⟨h_78, H⟩ | ⟨h_78, H⟩
                · refine z_zeq_f (M := M_X12_isSo) (tgt := 210) dX12_isSo_203 (by decide) h_78 ?_
                  refine z_zconst (M := M_X12_isSo) (b := true) dX12_isSo_206 rfl ?_
                  refine z_goto (M := M_X12_isSo) (tgt := 211) dX12_isSo_207 (by decide) ?_
                  exact J_85 _ (Option.some.inj H).symm
                · refine z_zeq_t (M := M_X12_isSo) (tgt := 210) dX12_isSo_203 (by decide) h_78 ?_
                  refine z_zconst (M := M_X12_isSo) (b := false) dX12_isSo_210 rfl ?_
                  exact J_85 _ (Option.some.inj H).symm
            · rcases if_e H with ⟨h_86, H⟩ | ⟨h_86, H⟩
              · refine z_tabIn (M := M_X12_isSo) (tgt := 212) (off := 112) dX12_isSo_100 h_86 (by decide) (by decide) rfl (by decide) ?_
                obtain ⟨v_239, he_240, hk_241⟩ := bd_e H
                have J_242 : ∀ x_238, v_239 = x_238 → YY l E M_X12_isSo 2 0 0 (pS (some (zv r)) σ) 290 [some (vr 277), some (vi what_0), some (vi x_2), some (vi x_4), some (zv x_22), some (zv x_32), some (zv x_42)] [zv x_238] σ 0 0 := by
                  intro x_238 e
                  have H := hk_241
                  rw [e] at H
                  cases H
                  exact z_zret (M := M_X12_isSo) dX12_isSo_290 rfl (Nat.le_of_ble_eq_true rfl) (Nat.le_of_ble_eq_true rfl) ⟨rfl, rfl⟩
                have H := he_240
                refine z_iload_n (M := M_X12_isSo) dX12_isSo_212 rfl ?_
                refine z_iload_n (M := M_X12_isSo) dX12_isSo_213 rfl ?_
                rcases if_e H with ⟨h_161, H⟩ | ⟨h_161, H⟩
                · refine z_icmp_ge_f (M := M_X12_isSo) (tgt := 241) dX12_isSo_214 (by decide) rfl rfl h_161 ?_
                  obtain ⟨v_173, he_174, hk_175⟩ := bd_e H
                  have J_176 : ∀ x_171, v_173 = x_171 → YY l E M_X12_isSo 2 0 0 (pS (some (zv r)) σ) 290 [some (vr 277), some (vi what_0), some (vi x_2), some (vi x_4), some (zv x_22), some (zv x_32), some (zv x_42)] [zv x_171] σ 0 0 := by
                    intro x_171 e
                    have H := hk_175
                    rw [e] at H
                    exact J_242 _ (Option.some.inj H).symm
                  have H := he_174
                  refine z_aload_n (M := M_X12_isSo) dX12_isSo_217 rfl ?_
                  refine z_iconst (M := M_X12_isSo) dX12_isSo_218 ?_
                  obtain ⟨x_163, hc_162, H⟩ := bd_e H
                  refine z_callV (M := M_X12_isSo) (M' := M_X12_m) (as := [vi 0]) (rest := []) rfl rfl dX12_isSo_219 m_X12_m t_3609 t_3611 s_307 (c_X12_m hl  hc_162) rfl rfl ly_277 rfl (Nat.le_of_ble_eq_true rfl) (Nat.le_of_ble_eq_true rfl) (Nat.le_of_ble_eq_true rfl) (Nat.le_of_ble_eq_true rfl) ?_
                  refine z_st (st' := [zv x_163]) rfl ?_
                  rcases if_e H with ⟨h_164, H⟩ | ⟨h_164, H⟩
                  · refine z_zeq_f (M := M_X12_isSo) (tgt := 237) dX12_isSo_222 (by decide) h_164 ?_
                    refine z_aload_n (M := M_X12_isSo) dX12_isSo_225 rfl ?_
                    refine z_iconst (M := M_X12_isSo) dX12_isSo_226 ?_
                    obtain ⟨x_166, hc_165, H⟩ := bd_e H
                    refine z_callV (M := M_X12_isSo) (M' := M_X12_m) (as := [vi 2]) (rest := []) rfl rfl dX12_isSo_227 m_X12_m t_3609 t_3611 s_307 (c_X12_m hl  hc_165) rfl rfl ly_277 rfl (Nat.le_of_ble_eq_true rfl) (Nat.le_of_ble_eq_true rfl) (Nat.le_of_ble_eq_true rfl) (Nat.le_of_ble_eq_true rfl) ?_
                    refine z_st (st' := [zv x_166]) rfl ?_
                    rcases if_e H with ⟨h_167, H⟩ | ⟨h_167, H⟩
                    · refine z_zeq_f (M := M_X12_isSo) (tgt := 237) dX12_isSo_230 (by decide) h_167 ?_
                      refine z_zconst (M := M_X12_isSo) (b := true) dX12_isSo_233 rfl ?_
                      refine z_goto (M := M_X12_isSo) (tgt := 290) dX12_isSo_234 (by decide) ?_
                      exact J_176 _ (Option.some.inj H).symm
                    · refine z_zeq_t (M := M_X12_isSo) (tgt := 237) dX12_isSo_230 (by decide) h_167 ?_
                      refine z_zconst (M := M_X12_isSo) (b := false) dX12_isSo_237 rfl ?_
                      refine z_goto (M := M_X12_isSo) (tgt := 290) dX12_isSo_238 (by decide) ?_
                      exact J_176 _ (Option.some.inj H).symm
                  · refine z_zeq_t (M := M_X12_isSo) (tgt := 237) dX12_isSo_222 (by decide) h_164 ?_
                    refine z_zconst (M := M_X12_isSo) (b := false) dX12_isSo_237 rfl ?_
                    refine z_goto (M := M_X12_isSo) (tgt := 290) dX12_isSo_238 (by decide) ?_
                    exact J_176 _ (Option.some.inj H).symm
                · refine z_icmp_ge_t (M := M_X12_isSo) (tgt := 241) dX12_isSo_214 (by decide) rfl rfl (Int.not_lt.mp h_161) ?_
                  obtain ⟨v_234, he_235, hk_236⟩ := bd_e H
                  have J_237 : ∀ x_232, v_234 = x_232 → YY l E M_X12_isSo 2 0 0 (pS (some (zv r)) σ) 290 [some (vr 277), some (vi what_0), some (vi x_2), some (vi x_4), some (zv x_22), some (zv x_32), some (zv x_42)] [zv x_232] σ 0 0 := by
                    intro x_232 e
                    have H := hk_236
                    rw [e] at H
                    exact J_242 _ (Option.some.inj H).symm
                  have H := he_235
                  refine z_iload_n (M := M_X12_isSo) dX12_isSo_241 rfl ?_
                  refine z_iload_n (M := M_X12_isSo) dX12_isSo_242 rfl ?_
                  rcases if_e H with ⟨h_203, H⟩ | ⟨h_203, H⟩
                  · refine z_icmp_le_f (M := M_X12_isSo) (tgt := 271) dX12_isSo_243 (by decide) rfl rfl h_203 ?_
                    obtain ⟨v_215, he_216, hk_217⟩ := bd_e H
                    have J_218 : ∀ x_213, v_215 = x_213 → YY l E M_X12_isSo 2 0 0 (pS (some (zv r)) σ) 290 [some (vr 277), some (vi what_0), some (vi x_2), some (vi x_4), some (zv x_22), some (zv x_32), some (zv x_42)] [zv x_213] σ 0 0 := by
                      intro x_213 e
                      have H := hk_217
                      rw [e] at H
                      exact J_237 _ (Option.some.inj H).symm
                    have H := he_216
                    refine z_aload_n (M := M_X12_isSo) dX12_isSo_246 rfl ?_
                    refine z_iconst (M := M_X12_isSo) dX12_isSo_247 ?_
                    obtain ⟨x_205, hc_204, H⟩ := bd_e H
                    refine z_callV (M := M_X12_isSo) (M' := M_X12_m) (as := [vi 0]) (rest := []) rfl rfl dX12_isSo_248 m_X12_m t_3609 t_3611 s_307 (c_X12_m hl  hc_204) rfl rfl ly_277 rfl (Nat.le_of_ble_eq_true rfl) (Nat.le_of_ble_eq_true rfl) (Nat.le_of_ble_eq_true rfl) (Nat.le_of_ble_eq_true rfl) ?_
                    refine z_st (st' := [zv x_205]) rfl ?_
                    rcases if_e H with ⟨h_206, H⟩ | ⟨h_206, H⟩
                    · refine z_zeq_f (M := M_X12_isSo) (tgt := 267) dX12_isSo_251 (by decide) h_206 ?_
                      refine z_aload_n (M := M_X12_isSo) dX12_isSo_254 rfl ?_
                      refine z_bipush (M := M_X12_isSo) dX12_isSo_255 (by decide +kernel) ?_
                      obtain ⟨x_208, hc_207, H⟩ := bd_e H
                      refine z_callV (M := M_X12_isSo) (M' := M_X12_m) (as := [vi 6]) (rest := []) rfl rfl dX12_isSo_257 m_X12_m t_3609 t_3611 s_307 (c_X12_m hl  hc_207) rfl rfl ly_277 rfl (Nat.le_of_ble_eq_true rfl) (Nat.le_of_ble_eq_true rfl) (Nat.le_of_ble_eq_true rfl) (Nat.le_of_ble_eq_true rfl) ?_
                      refine z_st (st' := [zv x_208]) rfl ?_
                      rcases if_e H with ⟨h_209, H⟩ | ⟨h_209, H⟩
                      · refine z_zeq_f (M := M_X12_isSo) (tgt := 267) dX12_isSo_260 (by decide) h_209 ?_
                        refine z_zconst (M := M_X12_isSo) (b := true) dX12_isSo_263 rfl ?_
                        refine z_goto (M := M_X12_isSo) (tgt := 290) dX12_isSo_264 (by decide) ?_
                        exact J_218 _ (Option.some.inj H).symm
                      · refine z_zeq_t (M := M_X12_isSo) (tgt := 267) dX12_isSo_260 (by decide) h_209 ?_
                        refine z_zconst (M := M_X12_isSo) (b := false) dX12_isSo_267 rfl ?_
                        refine z_goto (M := M_X12_isSo) (tgt := 290) dX12_isSo_268 (by decide) ?_
                        exact J_218 _ (Option.some.inj H).symm
                    · refine z_zeq_t (M := M_X12_isSo) (tgt := 267) dX12_isSo_251 (by decide) h_206 ?_
                      refine z_zconst (M := M_X12_isSo) (b := false) dX12_isSo_267 rfl ?_
                      refine z_goto (M := M_X12_isSo) (tgt := 290) dX12_isSo_268 (by decide) ?_
                      exact J_218 _ (Option.some.inj H).symm
                  · refine z_icmp_le_t (M := M_X12_isSo) (tgt := 271) dX12_isSo_243 (by decide) rfl rfl (Int.not_lt.mp h_203) ?_
                    obtain ⟨v_228, he_229, hk_230⟩ := bd_e H
                    have J_231 : ∀ x_226, v_228 = x_226 → YY l E M_X12_isSo 2 0 0 (pS (some (zv r)) σ) 290 [some (vr 277), some (vi what_0), some (vi x_2), some (vi x_4), some (zv x_22), some (zv x_32), some (zv x_42)] [zv x_226] σ 0 0 := by
                      intro x_226 e
                      have H := hk_230
                      rw [e] at H
                      exact J_237 _ (Option.some.inj H).symm
                    have H := he_229
                    refine z_iload_n (M := M_X12_isSo) dX12_isSo_271 rfl ?_
                    refine z_iconst (M := M_X12_isSo) dX12_isSo_272 ?_
                    rcases if_e H with ⟨h_219, H⟩ | ⟨h_219, H⟩
                    · refine z_icmp_ne_f (M := M_X12_isSo) (tgt := 289) dX12_isSo_273 (by decide) rfl (by decide +kernel) h_219 ?_
                      refine z_aload_n (M := M_X12_isSo) dX12_isSo_276 rfl ?_
                      refine z_getR (M := M_X12_isSo) (ci := 15) (C := RX12) (T := TX12) (Nf := 135) (ty := tyX12) cl15 dX12_isSo_277 ly_277 107 (by decide) t_2498 rfl ?_
                      refine z_iconst (M := M_X12_isSo) dX12_isSo_280 ?_
                      obtain ⟨x_220, x_220_e, hi_221, H⟩ := rd_e H
                      refine z_iald (M := M_X12_isSo) dX12_isSo_281 ly_343 rfl (by decide +kernel) rfl hi_221 x_220_e ?_
                      rcases if_e H with ⟨h_222, H⟩ | ⟨h_222, H⟩
                      · refine z_if_ne_f (M := M_X12_isSo) (tgt := 289) dX12_isSo_282 (by decide) rfl h_222 ?_
                        refine z_zconst (M := M_X12_isSo) (b := true) dX12_isSo_285 rfl ?_
                        refine z_goto (M := M_X12_isSo) (tgt := 290) dX12_isSo_286 (by decide) ?_
                        exact J_231 _ (Option.some.inj H).symm
                      · refine z_if_ne_t (M := M_X12_isSo) (tgt := 289) dX12_isSo_282 (by decide) rfl h_222 ?_
                        refine z_zconst (M := M_X12_isSo) (b := false) dX12_isSo_289 rfl ?_
                        exact J_231 _ (Option.some.inj H).symm
                    · refine z_icmp_ne_t (M := M_X12_isSo) (tgt := 289) dX12_isSo_273 (by decide) rfl (by decide +kernel) h_219 ?_
                      refine z_zconst (M := M_X12_isSo) (b := false) dX12_isSo_289 rfl ?_
                      exact J_231 _ (Option.some.inj H).symm
              · rcases if_e H with ⟨h_243, H⟩ | ⟨h_243, H⟩
                · refine z_tabIn (M := M_X12_isSo) (tgt := 291) (off := 191) dX12_isSo_100 h_243 (by decide) (by decide) rfl (by decide) ?_
                  obtain ⟨v_252, he_253, hk_254⟩ := bd_e H
                  have J_255 : ∀ x_251, v_252 = x_251 → YY l E M_X12_isSo 2 0 0 (pS (some (zv r)) σ) 309 [some (vr 277), some (vi what_0), some (vi x_2), some (vi x_4), some (zv x_22), some (zv x_32), some (zv x_42)] [zv x_251] σ 0 0 := by
                    intro x_251 e
                    have H := hk_254
                    rw [e] at H
                    cases H
                    exact z_zret (M := M_X12_isSo) dX12_isSo_309 rfl (Nat.le_of_ble_eq_true rfl) (Nat.le_of_ble_eq_true rfl) ⟨rfl, rfl⟩
                  have H := he_253
                  refine z_aload_n (M := M_X12_isSo) dX12_isSo_291 rfl ?_
                  refine z_iconst (M := M_X12_isSo) dX12_isSo_292 ?_
                  obtain ⟨x_245, hc_244, H⟩ := bd_e H
                  refine z_callV (M := M_X12_isSo) (M' := M_X12_m) (as := [vi 0]) (rest := []) rfl rfl dX12_isSo_293 m_X12_m t_3609 t_3611 s_307 (c_X12_m hl  hc_244) rfl rfl ly_277 rfl (Nat.le_of_ble_eq_true rfl) (Nat.le_of_ble_eq_true rfl) (Nat.le_of_ble_eq_true rfl) (Nat.le_of_ble_eq_true rfl) ?_
                  refine z_st (st' := [zv x_245]) rfl ?_
                  rcases if_e H with ⟨h_246, H⟩ | ⟨h_246, H⟩
                  · refine z_zeq_f (M := M_X12_isSo) (tgt := 308) dX12_isSo_296 (by decide) h_246 ?_
                    refine z_zload (M := M_X12_isSo) dX12_isSo_299 rfl ?_
                    rcases if_e H with ⟨h_247, H⟩ | ⟨h_247, H⟩
                    · refine z_zeq_f (M := M_X12_isSo) (tgt := 308) dX12_isSo_301 (by decide) h_247 ?_
                      refine z_zconst (M := M_X12_isSo) (b := true) dX12_isSo_304 rfl ?_
                      refine z_goto (M := M_X12_isSo) (tgt := 309) dX12_isSo_305 (by decide) ?_
                      exact J_255 _ (Option.some.inj H).symm
                    · refine z_zeq_t (M := M_X12_isSo) (tgt := 308) dX12_isSo_301 (by decide) h_247 ?_
                      refine z_zconst (M := M_X12_isSo) (b := false) dX12_isSo_308 rfl ?_
                      exact J_255 _ (Option.some.inj H).symm
                  · refine z_zeq_t (M := M_X12_isSo) (tgt := 308) dX12_isSo_296 (by decide) h_246 ?_
                    refine z_zconst (M := M_X12_isSo) (b := false) dX12_isSo_308 rfl ?_
                    exact J_255 _ (Option.some.inj H).symm
                · rcases if_e H with ⟨h_256, H⟩ | ⟨h_256, H⟩
                  · refine z_tabIn (M := M_X12_isSo) (tgt := 310) (off := 210) dX12_isSo_100 h_256 (by decide) (by decide) rfl (by decide) ?_
                    obtain ⟨v_265, he_266, hk_267⟩ := bd_e H
                    have J_268 : ∀ x_264, v_265 = x_264 → YY l E M_X12_isSo 2 0 0 (pS (some (zv r)) σ) 328 [some (vr 277), some (vi what_0), some (vi x_2), some (vi x_4), some (zv x_22), some (zv x_32), some (zv x_42)] [zv x_264] σ 0 0 := by
                      intro x_264 e
                      have H := hk_267
                      rw [e] at H
                      cases H
                      exact z_zret (M := M_X12_isSo) dX12_isSo_328 rfl (Nat.le_of_ble_eq_true rfl) (Nat.le_of_ble_eq_true rfl) ⟨rfl, rfl⟩
                    have H := he_266
                    refine z_aload_n (M := M_X12_isSo) dX12_isSo_310 rfl ?_
                    refine z_iconst (M := M_X12_isSo) dX12_isSo_311 ?_
                    obtain ⟨x_258, hc_257, H⟩ := bd_e H
                    refine z_callV (M := M_X12_isSo) (M' := M_X12_m) (as := [vi 0]) (rest := []) rfl rfl dX12_isSo_312 m_X12_m t_3609 t_3611 s_307 (c_X12_m hl  hc_257) rfl rfl ly_277 rfl (Nat.le_of_ble_eq_true rfl) (Nat.le_of_ble_eq_true rfl) (Nat.le_of_ble_eq_true rfl) (Nat.le_of_ble_eq_true rfl) ?_
                    refine z_st (st' := [zv x_258]) rfl ?_
                    rcases if_e H with ⟨h_259, H⟩ | ⟨h_259, H⟩
                    · refine z_zeq_f (M := M_X12_isSo) (tgt := 327) dX12_isSo_315 (by decide) h_259 ?_
                      refine z_zload (M := M_X12_isSo) dX12_isSo_318 rfl ?_
                      rcases if_e H with ⟨h_260, H⟩ | ⟨h_260, H⟩
                      · refine z_zeq_f (M := M_X12_isSo) (tgt := 327) dX12_isSo_320 (by decide) h_260 ?_
                        refine z_zconst (M := M_X12_isSo) (b := true) dX12_isSo_323 rfl ?_
                        refine z_goto (M := M_X12_isSo) (tgt := 328) dX12_isSo_324 (by decide) ?_
                        exact J_268 _ (Option.some.inj H).symm
                      · refine z_zeq_t (M := M_X12_isSo) (tgt := 327) dX12_isSo_320 (by decide) h_260 ?_
                        refine z_zconst (M := M_X12_isSo) (b := false) dX12_isSo_327 rfl ?_
                        exact J_268 _ (Option.some.inj H).symm
                    · refine z_zeq_t (M := M_X12_isSo) (tgt := 327) dX12_isSo_315 (by decide) h_259 ?_
                      refine z_zconst (M := M_X12_isSo) (b := false) dX12_isSo_327 rfl ?_
                      exact J_268 _ (Option.some.inj H).symm
                  · rcases if_e H with ⟨h_269, H⟩ | ⟨h_269, H⟩
                    · refine z_tabIn (M := M_X12_isSo) (tgt := 329) (off := 229) dX12_isSo_100 h_269 (by decide) (by decide) rfl (by decide) ?_
                      obtain ⟨v_288, he_289, hk_290⟩ := bd_e H
                      have J_291 : ∀ x_287, v_288 = x_287 → YY l E M_X12_isSo 2 0 0 (pS (some (zv r)) σ) 371 [some (vr 277), some (vi what_0), some (vi x_2), some (vi x_4), some (zv x_22), some (zv x_32), some (zv x_42)] [zv x_287] σ 0 0 := by
                        intro x_287 e
                        have H := hk_290
                        rw [e] at H
                        cases H
                        exact z_zret (M := M_X12_isSo) dX12_isSo_371 rfl (Nat.le_of_ble_eq_true rfl) (Nat.le_of_ble_eq_true rfl) ⟨rfl, rfl⟩
                      have H := he_289
                      refine z_iload_n (M := M_X12_isSo) dX12_isSo_329 rfl ?_
                      refine z_iload_n (M := M_X12_isSo) dX12_isSo_330 rfl ?_
                      rcases if_e H with ⟨h_270, H⟩ | ⟨h_270, H⟩
                      · refine z_icmp_ne_f (M := M_X12_isSo) (tgt := 370) dX12_isSo_331 (by decide) rfl rfl h_270 ?_
                        refine z_iload_n (M := M_X12_isSo) dX12_isSo_334 rfl ?_
                        refine z_iconst (M := M_X12_isSo) dX12_isSo_335 ?_
                        rcases if_e H with ⟨h_271, H⟩ | ⟨h_271, H⟩
                        · refine z_icmp_eq_f (M := M_X12_isSo) (tgt := 370) dX12_isSo_336 (by decide) rfl (by decide +kernel) h_271 ?_
                          refine z_aload_n (M := M_X12_isSo) dX12_isSo_339 rfl ?_
                          refine z_getR (M := M_X12_isSo) (ci := 15) (C := RX12) (T := TX12) (Nf := 135) (ty := tyX12) cl15 dX12_isSo_340 ly_277 107 (by decide) t_2498 rfl ?_
                          refine z_iconst (M := M_X12_isSo) dX12_isSo_343 ?_
                          obtain ⟨x_272, x_272_e, hi_273, H⟩ := rd_e H
                          refine z_iald (M := M_X12_isSo) dX12_isSo_344 ly_343 rfl (by decide +kernel) rfl hi_273 x_272_e ?_
                          refine z_iload_n (M := M_X12_isSo) dX12_isSo_345 rfl ?_
                          rcases if_e H with ⟨h_274, H⟩ | ⟨h_274, H⟩
                          · refine z_icmp_ne_f (M := M_X12_isSo) (tgt := 370) dX12_isSo_346 (by decide) rfl rfl h_274 ?_
                            refine z_aload_n (M := M_X12_isSo) dX12_isSo_349 rfl ?_
                            refine z_iconst (M := M_X12_isSo) dX12_isSo_350 ?_
                            obtain ⟨x_276, hc_275, H⟩ := bd_e H
                            refine z_callV (M := M_X12_isSo) (M' := M_X12_m) (as := [vi 2]) (rest := []) rfl rfl dX12_isSo_351 m_X12_m t_3609 t_3611 s_307 (c_X12_m hl  hc_275) rfl rfl ly_277 rfl (Nat.le_of_ble_eq_true rfl) (Nat.le_of_ble_eq_true rfl) (Nat.le_of_ble_eq_true rfl) (Nat.le_of_ble_eq_true rfl) ?_
                            refine z_st (st' := [zv x_276]) rfl ?_
                            rcases if_e H with ⟨h_277, H⟩ | ⟨h_277, H⟩
                            · refine z_zeq_f (M := M_X12_isSo) (tgt := 370) dX12_isSo_354 (by decide) h_277 ?_
                              refine z_aload_n (M := M_X12_isSo) dX12_isSo_357 rfl ?_
                              refine z_bipush (M := M_X12_isSo) dX12_isSo_358 (by decide +kernel) ?_
                              obtain ⟨x_279, hc_278, H⟩ := bd_e H
                              refine z_callV (M := M_X12_isSo) (M' := M_X12_m) (as := [vi 6]) (rest := []) rfl rfl dX12_isSo_360 m_X12_m t_3609 t_3611 s_307 (c_X12_m hl  hc_278) rfl rfl ly_277 rfl (Nat.le_of_ble_eq_true rfl) (Nat.le_of_ble_eq_true rfl) (Nat.le_of_ble_eq_true rfl) (Nat.le_of_ble_eq_true rfl) ?_
                              refine z_st (st' := [zv x_279]) rfl ?_
                              rcases if_e H with ⟨h_280, H⟩ | ⟨h_280, H⟩
                              · refine z_zeq_f (M := M_X12_isSo) (tgt := 370) dX12_isSo_363 (by decide) h_280 ?_
                                refine z_zconst (M := M_X12_isSo) (b := true) dX12_isSo_366 rfl ?_
                                refine z_goto (M := M_X12_isSo) (tgt := 371) dX12_isSo_367 (by decide) ?_
                                exact J_291 _ (Option.some.inj H).symm
                              · refine z_zeq_t (M := M_X12_isSo) (tgt := 370) dX12_isSo_363 (by decide) h_280 ?_
                                refine z_zconst (M := M_X12_isSo) (b := false) dX12_isSo_370 rfl ?_
                                exact J_291 _ (Option.some.inj H).symm
                            · refine z_zeq_t (M := M_X12_isSo) (tgt := 370) dX12_isSo_354 (by decide) h_277 ?_
                              refine z_zconst (M := M_X12_isSo) (b := false) dX12_isSo_370 rfl ?_
                              exact J_291 _ (Option.some.inj H).symm
                          · refine z_icmp_ne_t (M := M_X12_isSo) (tgt := 370) dX12_isSo_346 (by decide) rfl rfl h_274 ?_
                            refine z_zconst (M := M_X12_isSo) (b := false) dX12_isSo_370 rfl ?_
                            exact J_291 _ (Option.some.inj H).symm
                        · refine z_icmp_eq_t (M := M_X12_isSo) (tgt := 370) dX12_isSo_336 (by decide) rfl (by decide +kernel) (Decidable.not_not.mp h_271) ?_
                          refine z_zconst (M := M_X12_isSo) (b := false) dX12_isSo_370 rfl ?_
                          exact J_291 _ (Option.some.inj H).symm
                      · refine z_icmp_ne_t (M := M_X12_isSo) (tgt := 370) dX12_isSo_331 (by decide) rfl rfl h_270 ?_
                        refine z_zconst (M := M_X12_isSo) (b := false) dX12_isSo_370 rfl ?_
                        exact J_291 _ (Option.some.inj H).symm
                    · rcases if_e H with ⟨h_292, H⟩ | ⟨h_292, H⟩
                      · refine z_tabIn (M := M_X12_isSo) (tgt := 372) (off := 272) dX12_isSo_100 h_292 (by decide) (by decide) rfl (by decide) ?_
                        have J_293 : YY l E M_X12_isSo 2 0 0 (pS (some (zv r)) σ) 387 [some (vr 277), some (vi what_0), some (vi x_2), some (vi x_4), some (zv x_22), some (zv x_32), some (zv x_42)] [zv (decide ((x_22 = true) ∧ (x_32 = true)))] σ 0 0 := by
                          cases H
                          exact z_zret (M := M_X12_isSo) dX12_isSo_387 rfl (Nat.le_of_ble_eq_true rfl) (Nat.le_of_ble_eq_true rfl) ⟨rfl, rfl⟩
                        refine z_zload (M := M_X12_isSo) dX12_isSo_372 rfl ?_
                        by_cases h_294 : x_22 = true
                        · refine z_zeq_f (M := M_X12_isSo) (tgt := 386) dX12_isSo_374 (by decide) h_294 ?_
                          refine z_zload (M := M_X12_isSo) dX12_isSo_377 rfl ?_
                          by_cases h_295 : x_32 = true
                          · refine z_zeq_f (M := M_X12_isSo) (tgt := 386) dX12_isSo_379 (by decide) h_295 ?_
                            refine z_iconst (M := M_X12_isSo) dX12_isSo_382 ?_
                            refine z_goto (M := M_X12_isSo) (tgt := 387) dX12_isSo_383 (by decide) ?_
                            exact z_st (by rw [zv_t (p := (x_22 = true) ∧ (x_32 = true)) ⟨h_294, h_295⟩]) J_293
                          · refine z_zeq_t (M := M_X12_isSo) (tgt := 386) dX12_isSo_379 (by decide) h_295 ?_
                            refine z_iconst (M := M_X12_isSo) dX12_isSo_386 ?_
                            exact z_st (by rw [zv_f (p := (x_22 = true) ∧ (x_32 = true)) (fun q => h_295 q.2)]) J_293
                        · refine z_zeq_t (M := M_X12_isSo) (tgt := 386) dX12_isSo_374 (by decide) h_294 ?_
                          refine z_iconst (M := M_X12_isSo) dX12_isSo_386 ?_
                          exact z_st (by rw [zv_f (p := (x_22 = true) ∧ (x_32 = true)) (fun q => h_294 q.1)]) J_293
                      · refine z_tabOut (M := M_X12_isSo) (tgt := 388) dX12_isSo_100 rfl (by omega) (by decide) ?_
                        have J_296 : YY l E M_X12_isSo 2 0 0 (pS (some (zv r)) σ) 403 [some (vr 277), some (vi what_0), some (vi x_2), some (vi x_4), some (zv x_22), some (zv x_32), some (zv x_42)] [zv (decide ((x_22 = true) ∧ (x_42 = true)))] σ 0 0 := by
                          cases H
                          exact z_zret (M := M_X12_isSo) dX12_isSo_403 rfl (Nat.le_of_ble_eq_true rfl) (Nat.le_of_ble_eq_true rfl) ⟨rfl, rfl⟩
                        refine z_zload (M := M_X12_isSo) dX12_isSo_388 rfl ?_
                        by_cases h_297 : x_22 = true
                        · refine z_zeq_f (M := M_X12_isSo) (tgt := 402) dX12_isSo_390 (by decide) h_297 ?_
                          refine z_zload (M := M_X12_isSo) dX12_isSo_393 rfl ?_
                          by_cases h_298 : x_42 = true
                          · refine z_zeq_f (M := M_X12_isSo) (tgt := 402) dX12_isSo_395 (by decide) h_298 ?_
                            refine z_iconst (M := M_X12_isSo) dX12_isSo_398 ?_
                            refine z_goto (M := M_X12_isSo) (tgt := 403) dX12_isSo_399 (by decide) ?_
                            exact z_st (by rw [zv_t (p := (x_22 = true) ∧ (x_42 = true)) ⟨h_297, h_298⟩]) J_296
                          · refine z_zeq_t (M := M_X12_isSo) (tgt := 402) dX12_isSo_395 (by decide) h_298 ?_
                            refine z_iconst (M := M_X12_isSo) dX12_isSo_402 ?_
                            exact z_st (by rw [zv_f (p := (x_22 = true) ∧ (x_42 = true)) (fun q => h_298 q.2)]) J_296
                        · refine z_zeq_t (M := M_X12_isSo) (tgt := 402) dX12_isSo_390 (by decide) h_297 ?_
                          refine z_iconst (M := M_X12_isSo) dX12_isSo_402 ?_
                          exact z_st (by rw [zv_f (p := (x_22 = true) ∧ (x_42 = true)) (fun q => h_297 q.1)]) J_296
      have H := he_300
      refine z_aload_n (M := M_X12_isSo) dX12_isSo_74 rfl ?_
      refine z_bipush (M := M_X12_isSo) dX12_isSo_75 (by decide +kernel) ?_
      obtain ⟨x_34, hc_33, H⟩ := bd_e H
      refine z_callV (M := M_X12_isSo) (M' := M_X12_m) (as := [vi 6]) (rest := []) rfl rfl dX12_isSo_77 m_X12_m t_3609 t_3611 s_307 (c_X12_m hl  hc_33) rfl rfl ly_277 rfl (Nat.le_of_ble_eq_true rfl) (Nat.le_of_ble_eq_true rfl) (Nat.le_of_ble_eq_true rfl) (Nat.le_of_ble_eq_true rfl) ?_
      refine z_st (st' := [zv x_34]) rfl ?_
      rcases if_e H with ⟨h_35, H⟩ | ⟨h_35, H⟩
      · refine z_zne_t (M := M_X12_isSo) (tgt := 96) dX12_isSo_80 (by decide) h_35 ?_
        refine z_zconst (M := M_X12_isSo) (b := false) dX12_isSo_96 rfl ?_
        exact J_302 _ (Option.some.inj H).symm
      · refine z_zne_f (M := M_X12_isSo) (tgt := 96) dX12_isSo_80 (by decide) h_35 ?_
        refine z_aload_n (M := M_X12_isSo) dX12_isSo_83 rfl ?_
        refine z_bipush (M := M_X12_isSo) dX12_isSo_84 (by decide +kernel) ?_
        obtain ⟨x_38, hc_37, H⟩ := bd_e H
        refine z_callV (M := M_X12_isSo) (M' := M_X12_m) (as := [vi 7]) (rest := []) rfl rfl dX12_isSo_86 m_X12_m t_3609 t_3611 s_307 (c_X12_m hl  hc_37) rfl rfl ly_277 rfl (Nat.le_of_ble_eq_true rfl) (Nat.le_of_ble_eq_true rfl) (Nat.le_of_ble_eq_true rfl) (Nat.le_of_ble_eq_true rfl) ?_
        refine z_st (st' := [zv x_38]) rfl ?_
        rcases if_e H with ⟨h_39, H⟩ | ⟨h_39, H⟩
        · refine z_zne_t (M := M_X12_isSo) (tgt := 96) dX12_isSo_89 (by decide) h_39 ?_
          refine z_zconst (M := M_X12_isSo) (b := false) dX12_isSo_96 rfl ?_
          exact J_302 _ (Option.some.inj H).symm
        · refine z_zne_f (M := M_X12_isSo) (tgt := 96) dX12_isSo_89 (by decide) h_39 ?_
          refine z_zconst (M := M_X12_isSo) (b := true) dX12_isSo_92 rfl ?_
          refine z_goto (M := M_X12_isSo) (tgt := 97) dX12_isSo_93 (by decide) ?_
          exact J_302 _ (Option.some.inj H).symm
    have H := he_304
    refine z_aload_n (M := M_X12_isSo) dX12_isSo_51 rfl ?_
    refine z_iconst (M := M_X12_isSo) dX12_isSo_52 ?_
    obtain ⟨x_24, hc_23, H⟩ := bd_e H
    refine z_callV (M := M_X12_isSo) (M' := M_X12_m) (as := [vi 2]) (rest := []) rfl rfl dX12_isSo_53 m_X12_m t_3609 t_3611 s_307 (c_X12_m hl  hc_23) rfl rfl ly_277 rfl (Nat.le_of_ble_eq_true rfl) (Nat.le_of_ble_eq_true rfl) (Nat.le_of_ble_eq_true rfl) (Nat.le_of_ble_eq_true rfl) ?_
    refine z_st (st' := [zv x_24]) rfl ?_
    rcases if_e H with ⟨h_25, H⟩ | ⟨h_25, H⟩
    · refine z_zne_t (M := M_X12_isSo) (tgt := 71) dX12_isSo_56 (by decide) h_25 ?_
      refine z_zconst (M := M_X12_isSo) (b := false) dX12_isSo_71 rfl ?_
      exact J_306 _ (Option.some.inj H).symm
    · refine z_zne_f (M := M_X12_isSo) (tgt := 71) dX12_isSo_56 (by decide) h_25 ?_
      refine z_aload_n (M := M_X12_isSo) dX12_isSo_59 rfl ?_
      refine z_iconst (M := M_X12_isSo) dX12_isSo_60 ?_
      obtain ⟨x_28, hc_27, H⟩ := bd_e H
      refine z_callV (M := M_X12_isSo) (M' := M_X12_m) (as := [vi 5]) (rest := []) rfl rfl dX12_isSo_61 m_X12_m t_3609 t_3611 s_307 (c_X12_m hl  hc_27) rfl rfl ly_277 rfl (Nat.le_of_ble_eq_true rfl) (Nat.le_of_ble_eq_true rfl) (Nat.le_of_ble_eq_true rfl) (Nat.le_of_ble_eq_true rfl) ?_
      refine z_st (st' := [zv x_28]) rfl ?_
      rcases if_e H with ⟨h_29, H⟩ | ⟨h_29, H⟩
      · refine z_zne_t (M := M_X12_isSo) (tgt := 71) dX12_isSo_64 (by decide) h_29 ?_
        refine z_zconst (M := M_X12_isSo) (b := false) dX12_isSo_71 rfl ?_
        exact J_306 _ (Option.some.inj H).symm
      · refine z_zne_f (M := M_X12_isSo) (tgt := 71) dX12_isSo_64 (by decide) h_29 ?_
        refine z_zconst (M := M_X12_isSo) (b := true) dX12_isSo_67 rfl ?_
        refine z_goto (M := M_X12_isSo) (tgt := 72) dX12_isSo_68 (by decide) ?_
        exact J_306 _ (Option.some.inj H).symm
  have H := he_308
  refine z_aload_n (M := M_X12_isSo) dX12_isSo_12 rfl ?_
  refine z_iconst (M := M_X12_isSo) dX12_isSo_13 ?_
  obtain ⟨x_6, hc_5, H⟩ := bd_e H
  refine z_callV (M := M_X12_isSo) (M' := M_X12_m) (as := [vi 0]) (rest := []) rfl rfl dX12_isSo_14 m_X12_m t_3609 t_3611 s_307 (c_X12_m hl  hc_5) rfl rfl ly_277 rfl (Nat.le_of_ble_eq_true rfl) (Nat.le_of_ble_eq_true rfl) (Nat.le_of_ble_eq_true rfl) (Nat.le_of_ble_eq_true rfl) ?_
  refine z_st (st' := [zv x_6]) rfl ?_
  rcases if_e H with ⟨h_7, H⟩ | ⟨h_7, H⟩
  · refine z_zne_t (M := M_X12_isSo) (tgt := 44) dX12_isSo_17 (by decide) h_7 ?_
    refine z_zconst (M := M_X12_isSo) (b := true) dX12_isSo_44 rfl ?_
    refine z_goto (M := M_X12_isSo) (tgt := 49) dX12_isSo_45 (by decide) ?_
    exact J_310 _ (Option.some.inj H).symm
  · refine z_zne_f (M := M_X12_isSo) (tgt := 44) dX12_isSo_17 (by decide) h_7 ?_
    refine z_aload_n (M := M_X12_isSo) dX12_isSo_20 rfl ?_
    refine z_iconst (M := M_X12_isSo) dX12_isSo_21 ?_
    obtain ⟨x_10, hc_9, H⟩ := bd_e H
    refine z_callV (M := M_X12_isSo) (M' := M_X12_m) (as := [vi 1]) (rest := []) rfl rfl dX12_isSo_22 m_X12_m t_3609 t_3611 s_307 (c_X12_m hl  hc_9) rfl rfl ly_277 rfl (Nat.le_of_ble_eq_true rfl) (Nat.le_of_ble_eq_true rfl) (Nat.le_of_ble_eq_true rfl) (Nat.le_of_ble_eq_true rfl) ?_
    refine z_st (st' := [zv x_10]) rfl ?_
    rcases if_e H with ⟨h_11, H⟩ | ⟨h_11, H⟩
    · refine z_zne_t (M := M_X12_isSo) (tgt := 44) dX12_isSo_25 (by decide) h_11 ?_
      refine z_zconst (M := M_X12_isSo) (b := true) dX12_isSo_44 rfl ?_
      refine z_goto (M := M_X12_isSo) (tgt := 49) dX12_isSo_45 (by decide) ?_
      exact J_310 _ (Option.some.inj H).symm
    · refine z_zne_f (M := M_X12_isSo) (tgt := 44) dX12_isSo_25 (by decide) h_11 ?_
      refine z_aload_n (M := M_X12_isSo) dX12_isSo_28 rfl ?_
      refine z_iconst (M := M_X12_isSo) dX12_isSo_29 ?_
      obtain ⟨x_14, hc_13, H⟩ := bd_e H
      refine z_callV (M := M_X12_isSo) (M' := M_X12_m) (as := [vi 3]) (rest := []) rfl rfl dX12_isSo_30 m_X12_m t_3609 t_3611 s_307 (c_X12_m hl  hc_13) rfl rfl ly_277 rfl (Nat.le_of_ble_eq_true rfl) (Nat.le_of_ble_eq_true rfl) (Nat.le_of_ble_eq_true rfl) (Nat.le_of_ble_eq_true rfl) ?_
      refine z_st (st' := [zv x_14]) rfl ?_
      rcases if_e H with ⟨h_15, H⟩ | ⟨h_15, H⟩
      · refine z_zne_t (M := M_X12_isSo) (tgt := 44) dX12_isSo_33 (by decide) h_15 ?_
        refine z_zconst (M := M_X12_isSo) (b := true) dX12_isSo_44 rfl ?_
        refine z_goto (M := M_X12_isSo) (tgt := 49) dX12_isSo_45 (by decide) ?_
        exact J_310 _ (Option.some.inj H).symm
      · refine z_zne_f (M := M_X12_isSo) (tgt := 44) dX12_isSo_33 (by decide) h_15 ?_
        refine z_aload_n (M := M_X12_isSo) dX12_isSo_36 rfl ?_
        refine z_iconst (M := M_X12_isSo) dX12_isSo_37 ?_
        obtain ⟨x_18, hc_17, H⟩ := bd_e H
        refine z_callV (M := M_X12_isSo) (M' := M_X12_m) (as := [vi 4]) (rest := []) rfl rfl dX12_isSo_38 m_X12_m t_3609 t_3611 s_307 (c_X12_m hl  hc_17) rfl rfl ly_277 rfl (Nat.le_of_ble_eq_true rfl) (Nat.le_of_ble_eq_true rfl) (Nat.le_of_ble_eq_true rfl) (Nat.le_of_ble_eq_true rfl) ?_
        refine z_st (st' := [zv x_18]) rfl ?_
        rcases if_e H with ⟨h_19, H⟩ | ⟨h_19, H⟩
        · refine z_zeq_f (M := M_X12_isSo) (tgt := 48) dX12_isSo_41 (by decide) h_19 ?_
          refine z_zconst (M := M_X12_isSo) (b := true) dX12_isSo_44 rfl ?_
          refine z_goto (M := M_X12_isSo) (tgt := 49) dX12_isSo_45 (by decide) ?_
          exact J_310 _ (Option.some.inj H).symm
        · refine z_zeq_t (M := M_X12_isSo) (tgt := 48) dX12_isSo_41 (by decide) h_19 ?_
          refine z_zconst (M := M_X12_isSo) (b := false) dX12_isSo_48 rfl ?_
          exact J_310 _ (Option.some.inj H).symm
theorem c_X12_is (hl : l.stackTraces = false) {σ : SG} {what_0 : Int} {slot_0 : Int} {other_0 : Int} {r : Bool} {σ' : SG}  (H : fR_is σ what_0 slot_0 other_0 = some (r, σ')) : en_S l E M_X12_is 11 0 0 [vr 277, vi what_0, vi slot_0, vi other_0] σ (pS (some (zv r)) σ') := by
  unfold fR_is at H
  refine z_mk (lv := [some (vr 277), some (vi what_0), some (vi slot_0), some (vi other_0)]) m_X12_is rfl hl (Nat.le_of_ble_eq_true rfl) rfl ?_
  refine z_aload_n (M := M_X12_is) dX12_is_0 rfl ?_
  refine z_iconst (M := M_X12_is) dX12_is_1 ?_
  obtain ⟨σ_1, σ_1_e, H⟩ := wf_e H
  refine z_putI (M := M_X12_is) (ci := 15) (C := RX12) (T := TX12) (Nf := 135) (ty := tyX12) cl15 dX12_is_2 ly_277 0 (by decide) t_2391 rfl rfl rfl rfl σ_1_e ?_
  refine z_aload_n (M := M_X12_is) dX12_is_5 rfl ?_
  have J_30 : YY l E M_X12_is 11 0 0 (pS (some (zv r)) σ') 25 [some (vr 277), some (vi what_0), some (vi slot_0), some (vi other_0)] [zv (decide ((¬ ((fR_isSlot slot_0) = true)) ∨ (¬ ((fR_isSlot other_0) = true)))), vr 277] σ_1 0 0 := by
    refine z_iconst (M := M_X12_is) dX12_is_25 ?_
    obtain ⟨⟨x_33, σ_32⟩, hc_31, H⟩ := bd_e H
    refine z_callV (M := M_X12_is) (M' := M_X12_fails) (as := [zv (decide ((¬ ((fR_isSlot slot_0) = true)) ∨ (¬ ((fR_isSlot other_0) = true)))), vi 1]) (rest := []) rfl rfl dX12_is_26 m_X12_fails t_2805 t_2807 s_157 (c_X12_fails hl  hc_31) rfl rfl ly_277 rfl (Nat.le_of_ble_eq_true rfl) (Nat.le_of_ble_eq_true rfl) (Nat.le_of_ble_eq_true rfl) (Nat.le_of_ble_eq_true rfl) ?_
    refine z_st (st' := [zv x_33]) rfl ?_
    rcases if_e H with ⟨h_34, H⟩ | ⟨h_34, H⟩
    · refine z_zne_t (M := M_X12_is) (tgt := 61) dX12_is_29 (by decide) h_34 ?_
      refine z_zconst (M := M_X12_is) (b := false) dX12_is_61 rfl ?_
      cases H
      exact z_zret (M := M_X12_is) dX12_is_62 rfl (Nat.le_of_ble_eq_true rfl) (Nat.le_of_ble_eq_true rfl) ⟨rfl, rfl⟩
    · refine z_zne_f (M := M_X12_is) (tgt := 61) dX12_is_29 (by decide) h_34 ?_
      refine z_aload_n (M := M_X12_is) dX12_is_32 rfl ?_
      obtain ⟨v_126, he_127, hk_128⟩ := bd_e H
      have J_129 : ∀ x_44, v_126 = x_44 → YY l E M_X12_is 11 0 0 (pS (some (zv r)) σ') 54 [some (vr 277), some (vi what_0), some (vi slot_0), some (vi other_0)] [zv x_44, vr 277] σ_32 0 0 := by
        intro x_44 e
        have H := hk_128
        rw [e] at H
        refine z_iconst (M := M_X12_is) dX12_is_54 ?_
        obtain ⟨⟨x_47, σ_46⟩, hc_45, H⟩ := bd_e H
        refine z_callV (M := M_X12_is) (M' := M_X12_fails) (as := [zv x_44, vi 2]) (rest := []) rfl rfl dX12_is_55 m_X12_fails t_2805 t_2807 s_157 (c_X12_fails hl  hc_45) rfl rfl ly_277 rfl (Nat.le_of_ble_eq_true rfl) (Nat.le_of_ble_eq_true rfl) (Nat.le_of_ble_eq_true rfl) (Nat.le_of_ble_eq_true rfl) ?_
        refine z_st (st' := [zv x_47]) rfl ?_
        rcases if_e H with ⟨h_48, H⟩ | ⟨h_48, H⟩
        · refine z_zeq_f (M := M_X12_is) (tgt := 63) dX12_is_58 (by decide) h_48 ?_
          refine z_zconst (M := M_X12_is) (b := false) dX12_is_61 rfl ?_
          cases H
          exact z_zret (M := M_X12_is) dX12_is_62 rfl (Nat.le_of_ble_eq_true rfl) (Nat.le_of_ble_eq_true rfl) ⟨rfl, rfl⟩
        · refine z_zeq_t (M := M_X12_is) (tgt := 63) dX12_is_58 (by decide) h_48 ?_
          refine z_aload_n (M := M_X12_is) dX12_is_63 rfl ?_
          obtain ⟨v_122, he_123, hk_124⟩ := bd_e H
          have J_125 : ∀ x_99, v_122 = x_99 → YY l E M_X12_is 11 0 0 (pS (some (zv r)) σ') 97 [some (vr 277), some (vi what_0), some (vi slot_0), some (vi other_0)] [zv x_99, vr 277] σ_46 0 0 := by
            intro x_99 e
            have H := hk_124
            rw [e] at H
            refine z_iconst (M := M_X12_is) dX12_is_97 ?_
            obtain ⟨⟨x_102, σ_101⟩, hc_100, H⟩ := bd_e H
            refine z_callV (M := M_X12_is) (M' := M_X12_fails) (as := [zv x_99, vi 3]) (rest := []) rfl rfl dX12_is_98 m_X12_fails t_2805 t_2807 s_157 (c_X12_fails hl  hc_100) rfl rfl ly_277 rfl (Nat.le_of_ble_eq_true rfl) (Nat.le_of_ble_eq_true rfl) (Nat.le_of_ble_eq_true rfl) (Nat.le_of_ble_eq_true rfl) ?_
            refine z_st (st' := [zv x_102]) rfl ?_
            rcases if_e H with ⟨h_103, H⟩ | ⟨h_103, H⟩
            · refine z_zne_t (M := M_X12_is) (tgt := 126) dX12_is_101 (by decide) h_103 ?_
              refine z_zconst (M := M_X12_is) (b := false) dX12_is_126 rfl ?_
              cases H
              exact z_zret (M := M_X12_is) dX12_is_127 rfl (Nat.le_of_ble_eq_true rfl) (Nat.le_of_ble_eq_true rfl) ⟨rfl, rfl⟩
            · refine z_zne_f (M := M_X12_is) (tgt := 126) dX12_is_101 (by decide) h_103 ?_
              refine z_aload_n (M := M_X12_is) dX12_is_104 rfl ?_
              obtain ⟨v_118, he_119, hk_120⟩ := bd_e H
              have J_121 : ∀ x_110 σ_111, v_118 = (x_110, σ_111) → YY l E M_X12_is 11 0 0 (pS (some (zv r)) σ') 119 [some (vr 277), some (vi what_0), some (vi slot_0), some (vi other_0)] [zv x_110, vr 277] σ_111 0 0 := by
                intro x_110 σ_111 e
                have H := hk_120
                rw [e] at H
                refine z_iconst (M := M_X12_is) dX12_is_119 ?_
                obtain ⟨⟨x_114, σ_113⟩, hc_112, H⟩ := bd_e H
                refine z_callV (M := M_X12_is) (M' := M_X12_fails) (as := [zv x_110, vi 4]) (rest := []) rfl rfl dX12_is_120 m_X12_fails t_2805 t_2807 s_157 (c_X12_fails hl  hc_112) rfl rfl ly_277 rfl (Nat.le_of_ble_eq_true rfl) (Nat.le_of_ble_eq_true rfl) (Nat.le_of_ble_eq_true rfl) (Nat.le_of_ble_eq_true rfl) ?_
                refine z_st (st' := [zv x_114]) rfl ?_
                rcases if_e H with ⟨h_115, H⟩ | ⟨h_115, H⟩
                · refine z_zeq_f (M := M_X12_is) (tgt := 128) dX12_is_123 (by decide) h_115 ?_
                  refine z_zconst (M := M_X12_is) (b := false) dX12_is_126 rfl ?_
                  cases H
                  exact z_zret (M := M_X12_is) dX12_is_127 rfl (Nat.le_of_ble_eq_true rfl) (Nat.le_of_ble_eq_true rfl) ⟨rfl, rfl⟩
                · refine z_zeq_t (M := M_X12_is) (tgt := 128) dX12_is_123 (by decide) h_115 ?_
                  refine z_aload_n (M := M_X12_is) dX12_is_128 rfl ?_
                  refine z_iload_n (M := M_X12_is) dX12_is_129 rfl ?_
                  obtain ⟨x_117, hc_116, H⟩ := bd_e H
                  refine z_callV (M := M_X12_is) (M' := M_X12_isSo) (as := [vi what_0]) (rest := []) rfl rfl dX12_is_130 m_X12_isSo t_3601 t_3603 s_305 (c_X12_isSo hl  hc_116) rfl rfl ly_277 rfl (Nat.le_of_ble_eq_true rfl) (Nat.le_of_ble_eq_true rfl) (Nat.le_of_ble_eq_true rfl) (Nat.le_of_ble_eq_true rfl) ?_
                  refine z_st (st' := [zv x_117]) rfl ?_
                  cases H
                  exact z_zret (M := M_X12_is) dX12_is_133 rfl (Nat.le_of_ble_eq_true rfl) (Nat.le_of_ble_eq_true rfl) ⟨rfl, rfl⟩
              have H := he_119
              refine z_aload_n (M := M_X12_is) dX12_is_105 rfl ?_
              refine z_iload_n (M := M_X12_is) dX12_is_106 rfl ?_
              refine z_iload_n (M := M_X12_is) dX12_is_107 rfl ?_
              obtain ⟨⟨x_106, σ_105⟩, hc_104, H⟩ := bd_e H
              refine z_callV (M := M_X12_is) (M' := M_X12_relates) (as := [vi slot_0, vi other_0]) (rest := [vr 277]) rfl rfl dX12_is_108 m_X12_relates t_3494 t_3496 s_281 (c_X12_relates hl  hc_104) rfl rfl ly_277 rfl (Nat.le_of_ble_eq_true rfl) (Nat.le_of_ble_eq_true rfl) (Nat.le_of_ble_eq_true rfl) (Nat.le_of_ble_eq_true rfl) ?_
              refine z_st (st' := [zv x_106, vr 277]) rfl ?_
              rcases if_e H with ⟨h_107, H⟩ | ⟨h_107, H⟩
              · refine z_zne_t (M := M_X12_is) (tgt := 118) dX12_is_111 (by decide) h_107 ?_
                refine z_zconst (M := M_X12_is) (b := false) dX12_is_118 rfl ?_
                exact J_121 _ _ (Option.some.inj H).symm
              · refine z_zne_f (M := M_X12_is) (tgt := 118) dX12_is_111 (by decide) h_107 ?_
                refine z_zconst (M := M_X12_is) (b := true) dX12_is_114 rfl ?_
                refine z_goto (M := M_X12_is) (tgt := 119) dX12_is_115 (by decide) ?_
                exact J_121 _ _ (Option.some.inj H).symm
          have H := he_123
          refine z_iload_n (M := M_X12_is) dX12_is_64 rfl ?_
          refine z_i2l (M := M_X12_is) dX12_is_65 ?_
          refine z_lconst (M := M_X12_is) (m := 0) dX12_is_66 (by decide +kernel) ?_
          refine z_ldc2 (M := M_X12_is) (n := 8) dX12_is_67 t_3600 (by decide +kernel) ?_
          refine z_callS (M := M_X12_is) (M' := M_X12_in) (as := [vl (w32 what_0), vl 0, vl 8]) (rest := [vr 277]) rfl rfl dX12_is_70 m_X12_in t_2818 t_2819 (c_X12_in hl  rfl) rfl rfl (Nat.le_of_ble_eq_true rfl) (Nat.le_of_ble_eq_true rfl) (Nat.le_of_ble_eq_true rfl) (Nat.le_of_ble_eq_true rfl) ?_
          refine z_st (st' := [zv (fR_in (w32 what_0) 0 8), vr 277]) rfl ?_
          rcases if_e H with ⟨h_88, H⟩ | ⟨h_88, H⟩
          · refine z_zeq_f (M := M_X12_is) (tgt := 92) dX12_is_73 (by decide) h_88 ?_
            refine z_aload_n (M := M_X12_is) dX12_is_76 rfl ?_
            refine z_iload_n (M := M_X12_is) dX12_is_77 rfl ?_
            obtain ⟨x_90, hc_89, H⟩ := bd_e H
            refine z_callV (M := M_X12_is) (M' := M_X12_canRelate) (as := [vi slot_0]) (rest := [vr 277]) rfl rfl dX12_is_78 m_X12_canRelate t_3490 t_3492 s_280 (c_X12_canRelate hl  hc_89) rfl rfl ly_277 rfl (Nat.le_of_ble_eq_true rfl) (Nat.le_of_ble_eq_true rfl) (Nat.le_of_ble_eq_true rfl) (Nat.le_of_ble_eq_true rfl) ?_
            refine z_st (st' := [zv x_90, vr 277]) rfl ?_
            rcases if_e H with ⟨h_91, H⟩ | ⟨h_91, H⟩
            · refine z_zeq_f (M := M_X12_is) (tgt := 92) dX12_is_81 (by decide) h_91 ?_
              refine z_aload_n (M := M_X12_is) dX12_is_84 rfl ?_
              refine z_iload_n (M := M_X12_is) dX12_is_85 rfl ?_
              obtain ⟨x_93, hc_92, H⟩ := bd_e H
              refine z_callV (M := M_X12_is) (M' := M_X12_canRelate) (as := [vi other_0]) (rest := [vr 277]) rfl rfl dX12_is_86 m_X12_canRelate t_3490 t_3492 s_280 (c_X12_canRelate hl  hc_92) rfl rfl ly_277 rfl (Nat.le_of_ble_eq_true rfl) (Nat.le_of_ble_eq_true rfl) (Nat.le_of_ble_eq_true rfl) (Nat.le_of_ble_eq_true rfl) ?_
              refine z_st (st' := [zv x_93, vr 277]) rfl ?_
              rcases if_e H with ⟨h_94, H⟩ | ⟨h_94, H⟩
              · refine z_zne_t (M := M_X12_is) (tgt := 96) dX12_is_89 (by decide) h_94 ?_
                refine z_zconst (M := M_X12_is) (b := false) dX12_is_96 rfl ?_
                exact J_125 _ (Option.some.inj H).symm
              · refine z_zne_f (M := M_X12_is) (tgt := 96) dX12_is_89 (by decide) h_94 ?_
                refine z_zconst (M := M_X12_is) (b := true) dX12_is_92 rfl ?_
                refine z_goto (M := M_X12_is) (tgt := 97) dX12_is_93 (by decide) ?_
                exact J_125 _ (Option.some.inj H).symm
            · refine z_zeq_t (M := M_X12_is) (tgt := 92) dX12_is_81 (by decide) h_91 ?_
              refine z_zconst (M := M_X12_is) (b := true) dX12_is_92 rfl ?_
              refine z_goto (M := M_X12_is) (tgt := 97) dX12_is_93 (by decide) ?_
              exact J_125 _ (Option.some.inj H).symm
          · refine z_zeq_t (M := M_X12_is) (tgt := 92) dX12_is_73 (by decide) h_88 ?_
            refine z_zconst (M := M_X12_is) (b := true) dX12_is_92 rfl ?_
            refine z_goto (M := M_X12_is) (tgt := 97) dX12_is_93 (by decide) ?_
            exact J_125 _ (Option.some.inj H).symm
      have H := he_127
      refine z_aload_n (M := M_X12_is) dX12_is_33 rfl ?_
      refine z_iload_n (M := M_X12_is) dX12_is_34 rfl ?_
      obtain ⟨x_36, hc_35, H⟩ := bd_e H
      refine z_callV (M := M_X12_is) (M' := M_X12_has) (as := [vi slot_0]) (rest := [vr 277]) rfl rfl dX12_is_35 m_X12_has t_3033 t_3035 s_197 (c_X12_has hl  hc_35) rfl rfl ly_277 rfl (Nat.le_of_ble_eq_true rfl) (Nat.le_of_ble_eq_true rfl) (Nat.le_of_ble_eq_true rfl) (Nat.le_of_ble_eq_true rfl) ?_
      refine z_st (st' := [zv x_36, vr 277]) rfl ?_
      rcases if_e H with ⟨h_37, H⟩ | ⟨h_37, H⟩
      · refine z_zeq_f (M := M_X12_is) (tgt := 49) dX12_is_38 (by decide) h_37 ?_
        refine z_aload_n (M := M_X12_is) dX12_is_41 rfl ?_
        refine z_iload_n (M := M_X12_is) dX12_is_42 rfl ?_
        obtain ⟨x_39, hc_38, H⟩ := bd_e H
        refine z_callV (M := M_X12_is) (M' := M_X12_has) (as := [vi other_0]) (rest := [vr 277]) rfl rfl dX12_is_43 m_X12_has t_3033 t_3035 s_197 (c_X12_has hl  hc_38) rfl rfl ly_277 rfl (Nat.le_of_ble_eq_true rfl) (Nat.le_of_ble_eq_true rfl) (Nat.le_of_ble_eq_true rfl) (Nat.le_of_ble_eq_true rfl) ?_
        refine z_st (st' := [zv x_39, vr 277]) rfl ?_
        rcases if_e H with ⟨h_40, H⟩ | ⟨h_40, H⟩
        · refine z_zne_t (M := M_X12_is) (tgt := 53) dX12_is_46 (by decide) h_40 ?_
          refine z_zconst (M := M_X12_is) (b := false) dX12_is_53 rfl ?_
          exact J_129 _ (Option.some.inj H).symm
        · refine z_zne_f (M := M_X12_is) (tgt := 53) dX12_is_46 (by decide) h_40 ?_
          refine z_zconst (M := M_X12_is) (b := true) dX12_is_49 rfl ?_
          refine z_goto (M := M_X12_is) (tgt := 54) dX12_is_50 (by decide) ?_
          exact J_129 _ (Option.some.inj H).symm
      · refine z_zeq_t (M := M_X12_is) (tgt := 49) dX12_is_38 (by decide) h_37 ?_
        refine z_zconst (M := M_X12_is) (b := true) dX12_is_49 rfl ?_
        refine z_goto (M := M_X12_is) (tgt := 54) dX12_is_50 (by decide) ?_
        exact J_129 _ (Option.some.inj H).symm
  refine z_iload_n (M := M_X12_is) dX12_is_6 rfl ?_
  refine z_callS (M := M_X12_is) (M' := M_X12_isSlot) (as := [vi slot_0]) (rest := [vr 277]) rfl rfl dX12_is_7 m_X12_isSlot t_2841 t_2842 (c_X12_isSlot hl  rfl) rfl rfl (Nat.le_of_ble_eq_true rfl) (Nat.le_of_ble_eq_true rfl) (Nat.le_of_ble_eq_true rfl) (Nat.le_of_ble_eq_true rfl) ?_
  refine z_st (st' := [zv (fR_isSlot slot_0), vr 277]) rfl ?_
  by_cases h_130 : (fR_isSlot slot_0) = true
  · refine z_zeq_f (M := M_X12_is) (tgt := 20) dX12_is_10 (by decide) h_130 ?_
    refine z_iload_n (M := M_X12_is) dX12_is_13 rfl ?_
    refine z_callS (M := M_X12_is) (M' := M_X12_isSlot) (as := [vi other_0]) (rest := [vr 277]) rfl rfl dX12_is_14 m_X12_isSlot t_2841 t_2842 (c_X12_isSlot hl  rfl) rfl rfl (Nat.le_of_ble_eq_true rfl) (Nat.le_of_ble_eq_true rfl) (Nat.le_of_ble_eq_true rfl) (Nat.le_of_ble_eq_true rfl) ?_
    refine z_st (st' := [zv (fR_isSlot other_0), vr 277]) rfl ?_
    by_cases h_131 : (fR_isSlot other_0) = true
    · refine z_zne_t (M := M_X12_is) (tgt := 24) dX12_is_17 (by decide) h_131 ?_
      refine z_iconst (M := M_X12_is) dX12_is_24 ?_
      exact z_st (by rw [zv_f (p := (¬ ((fR_isSlot slot_0) = true)) ∨ (¬ ((fR_isSlot other_0) = true))) (fun q => q.elim (not_not_intro h_130) (not_not_intro h_131))]) J_30
    · refine z_zne_f (M := M_X12_is) (tgt := 24) dX12_is_17 (by decide) h_131 ?_
      refine z_iconst (M := M_X12_is) dX12_is_20 ?_
      refine z_goto (M := M_X12_is) (tgt := 25) dX12_is_21 (by decide) ?_
      exact z_st (by rw [zv_t (p := (¬ ((fR_isSlot slot_0) = true)) ∨ (¬ ((fR_isSlot other_0) = true))) (Or.inr h_131)]) J_30
  · refine z_zeq_t (M := M_X12_is) (tgt := 20) dX12_is_10 (by decide) h_130 ?_
    refine z_iconst (M := M_X12_is) dX12_is_20 ?_
    refine z_goto (M := M_X12_is) (tgt := 25) dX12_is_21 (by decide) ?_
    exact z_st (by rw [zv_t (p := (¬ ((fR_isSlot slot_0) = true)) ∨ (¬ ((fR_isSlot other_0) = true))) (Or.inl h_130)]) J_30
theorem c_X12_locate (hl : l.stackTraces = false) {σ : SG} {slot_0 : Int} {x_0 : Int} {y_0 : Int} {r : Int} {σ' : SG}  (H : fR_locate σ slot_0 x_0 y_0 = some (r, σ')) : en_S l E M_X12_locate 9 0 0 [vr 277, vi slot_0, vi x_0, vi y_0] σ (pS (some (vi r)) σ') := by
  unfold fR_locate at H
  refine z_mk (lv := [some (vr 277), some (vi slot_0), some (vi x_0), some (vi y_0)]) m_X12_locate rfl hl (Nat.le_of_ble_eq_true rfl) rfl ?_
  refine z_aload_n (M := M_X12_locate) dX12_locate_0 rfl ?_
  refine z_iconst (M := M_X12_locate) dX12_locate_1 ?_
  obtain ⟨σ_1, σ_1_e, H⟩ := wf_e H
  refine z_putI (M := M_X12_locate) (ci := 15) (C := RX12) (T := TX12) (Nf := 135) (ty := tyX12) cl15 dX12_locate_2 ly_277 0 (by decide) t_2391 rfl rfl rfl rfl σ_1_e ?_
  refine z_aload_n (M := M_X12_locate) dX12_locate_5 rfl ?_
  have J_25 : YY l E M_X12_locate 9 0 0 (pS (some (vi r)) σ') 18 [some (vr 277), some (vi slot_0), some (vi x_0), some (vi y_0)] [zv (decide (¬ ((fR_isSlot slot_0) = true))), vr 277] σ_1 0 0 := by
    refine z_iconst (M := M_X12_locate) dX12_locate_18 ?_
    obtain ⟨⟨x_28, σ_27⟩, hc_26, H⟩ := bd_e H
    refine z_callV (M := M_X12_locate) (M' := M_X12_fails) (as := [zv (decide (¬ ((fR_isSlot slot_0) = true))), vi 1]) (rest := []) rfl rfl dX12_locate_19 m_X12_fails t_2805 t_2807 s_157 (c_X12_fails hl  hc_26) rfl rfl ly_277 rfl (Nat.le_of_ble_eq_true rfl) (Nat.le_of_ble_eq_true rfl) (Nat.le_of_ble_eq_true rfl) (Nat.le_of_ble_eq_true rfl) ?_
    refine z_st (st' := [zv x_28]) rfl ?_
    rcases if_e H with ⟨h_29, H⟩ | ⟨h_29, H⟩
    · refine z_zne_t (M := M_X12_locate) (tgt := 46) dX12_locate_22 (by decide) h_29 ?_
      refine z_iconst (M := M_X12_locate) dX12_locate_46 ?_
      cases H
      exact z_iret (M := M_X12_locate) dX12_locate_47 rfl (Nat.le_of_ble_eq_true rfl) (Nat.le_of_ble_eq_true rfl) ⟨rfl, rfl⟩
    · refine z_zne_f (M := M_X12_locate) (tgt := 46) dX12_locate_22 (by decide) h_29 ?_
      refine z_aload_n (M := M_X12_locate) dX12_locate_25 rfl ?_
      obtain ⟨v_84, he_85, hk_86⟩ := bd_e H
      have J_87 : ∀ x_35, v_84 = x_35 → YY l E M_X12_locate 9 0 0 (pS (some (vi r)) σ') 39 [some (vr 277), some (vi slot_0), some (vi x_0), some (vi y_0)] [zv x_35, vr 277] σ_27 0 0 := by
        intro x_35 e
        have H := hk_86
        rw [e] at H
        refine z_iconst (M := M_X12_locate) dX12_locate_39 ?_
        obtain ⟨⟨x_38, σ_37⟩, hc_36, H⟩ := bd_e H
        refine z_callV (M := M_X12_locate) (M' := M_X12_fails) (as := [zv x_35, vi 2]) (rest := []) rfl rfl dX12_locate_40 m_X12_fails t_2805 t_2807 s_157 (c_X12_fails hl  hc_36) rfl rfl ly_277 rfl (Nat.le_of_ble_eq_true rfl) (Nat.le_of_ble_eq_true rfl) (Nat.le_of_ble_eq_true rfl) (Nat.le_of_ble_eq_true rfl) ?_
        refine z_st (st' := [zv x_38]) rfl ?_
        rcases if_e H with ⟨h_39, H⟩ | ⟨h_39, H⟩
        · refine z_zeq_f (M := M_X12_locate) (tgt := 48) dX12_locate_43 (by decide) h_39 ?_
          refine z_iconst (M := M_X12_locate) dX12_locate_46 ?_
          cases H
          exact z_iret (M := M_X12_locate) dX12_locate_47 rfl (Nat.le_of_ble_eq_true rfl) (Nat.le_of_ble_eq_true rfl) ⟨rfl, rfl⟩
        · refine z_zeq_t (M := M_X12_locate) (tgt := 48) dX12_locate_43 (by decide) h_39 ?_
          refine z_aload_n (M := M_X12_locate) dX12_locate_48 rfl ?_
          obtain ⟨v_80, he_81, hk_82⟩ := bd_e H
          have J_83 : ∀ x_49, v_80 = x_49 → YY l E M_X12_locate 9 0 0 (pS (some (vi r)) σ') 90 [some (vr 277), some (vi slot_0), some (vi x_0), some (vi y_0)] [zv x_49, vr 277] σ_37 0 0 := by
            intro x_49 e
            have H := hk_82
            rw [e] at H
            refine z_iconst (M := M_X12_locate) dX12_locate_90 ?_
            obtain ⟨⟨x_52, σ_51⟩, hc_50, H⟩ := bd_e H
            refine z_callV (M := M_X12_locate) (M' := M_X12_fails) (as := [zv x_49, vi 3]) (rest := []) rfl rfl dX12_locate_91 m_X12_fails t_2805 t_2807 s_157 (c_X12_fails hl  hc_50) rfl rfl ly_277 rfl (Nat.le_of_ble_eq_true rfl) (Nat.le_of_ble_eq_true rfl) (Nat.le_of_ble_eq_true rfl) (Nat.le_of_ble_eq_true rfl) ?_
            refine z_st (st' := [zv x_52]) rfl ?_
            rcases if_e H with ⟨h_53, H⟩ | ⟨h_53, H⟩
            · refine z_zeq_f (M := M_X12_locate) (tgt := 99) dX12_locate_94 (by decide) h_53 ?_
              refine z_iconst (M := M_X12_locate) dX12_locate_97 ?_
              cases H
              exact z_iret (M := M_X12_locate) dX12_locate_98 rfl (Nat.le_of_ble_eq_true rfl) (Nat.le_of_ble_eq_true rfl) ⟨rfl, rfl⟩
            · refine z_zeq_t (M := M_X12_locate) (tgt := 99) dX12_locate_94 (by decide) h_53 ?_
              refine z_aload_n (M := M_X12_locate) dX12_locate_99 rfl ?_
              refine z_iconst (M := M_X12_locate) dX12_locate_100 ?_
              obtain ⟨σ_54, σ_54_e, H⟩ := wf_e H
              refine z_putI (M := M_X12_locate) (ci := 15) (C := RX12) (T := TX12) (Nf := 135) (ty := tyX12) cl15 dX12_locate_101 ly_277 48 (by decide) t_2439 rfl rfl rfl rfl σ_54_e ?_
              refine z_aload_n (M := M_X12_locate) dX12_locate_104 rfl ?_
              refine z_iload_n (M := M_X12_locate) dX12_locate_105 rfl ?_
              refine z_iconst (M := M_X12_locate) dX12_locate_106 ?_
              obtain ⟨σ_56, hc_55, H⟩ := bd_e H
              refine z_callV (M := M_X12_locate) (M' := M_X12_gatherShape) (as := [vi slot_0, vi 0]) (rest := []) rfl rfl dX12_locate_107 m_X12_gatherShape t_3498 t_3500 s_282 (c_X12_gatherShape hl  hc_55) rfl rfl ly_277 rfl (Nat.le_of_ble_eq_true rfl) (Nat.le_of_ble_eq_true rfl) (Nat.le_of_ble_eq_true rfl) (Nat.le_of_ble_eq_true rfl) ?_
              refine z_st (st' := []) rfl ?_
              refine z_aload_n (M := M_X12_locate) dX12_locate_110 rfl ?_
              obtain ⟨v_76, he_77, hk_78⟩ := bd_e H
              have J_79 : ∀ x_66, v_76 = x_66 → YY l E M_X12_locate 9 0 0 (pS (some (vi r)) σ') 137 [some (vr 277), some (vi slot_0), some (vi x_0), some (vi y_0)] [zv x_66, vr 277] σ_56 0 0 := by
                intro x_66 e
                have H := hk_78
                rw [e] at H
                refine z_iconst (M := M_X12_locate) dX12_locate_137 ?_
                obtain ⟨⟨x_69, σ_68⟩, hc_67, H⟩ := bd_e H
                refine z_callV (M := M_X12_locate) (M' := M_X12_fails) (as := [zv x_66, vi 4]) (rest := []) rfl rfl dX12_locate_138 m_X12_fails t_2805 t_2807 s_157 (c_X12_fails hl  hc_67) rfl rfl ly_277 rfl (Nat.le_of_ble_eq_true rfl) (Nat.le_of_ble_eq_true rfl) (Nat.le_of_ble_eq_true rfl) (Nat.le_of_ble_eq_true rfl) ?_
                refine z_st (st' := [zv x_69]) rfl ?_
                rcases if_e H with ⟨h_70, H⟩ | ⟨h_70, H⟩
                · refine z_zeq_f (M := M_X12_locate) (tgt := 146) dX12_locate_141 (by decide) h_70 ?_
                  refine z_iconst (M := M_X12_locate) dX12_locate_144 ?_
                  cases H
                  exact z_iret (M := M_X12_locate) dX12_locate_145 rfl (Nat.le_of_ble_eq_true rfl) (Nat.le_of_ble_eq_true rfl) ⟨rfl, rfl⟩
                · refine z_zeq_t (M := M_X12_locate) (tgt := 146) dX12_locate_141 (by decide) h_70 ?_
                  refine z_aload_n (M := M_X12_locate) dX12_locate_146 rfl ?_
                  refine z_iload_n (M := M_X12_locate) dX12_locate_147 rfl ?_
                  refine z_i2l (M := M_X12_locate) dX12_locate_148 ?_
                  refine z_iload_n (M := M_X12_locate) dX12_locate_149 rfl ?_
                  refine z_i2l (M := M_X12_locate) dX12_locate_150 ?_
                  obtain ⟨σ_72, hc_71, H⟩ := bd_e H
                  refine z_callV (M := M_X12_locate) (M' := M_X12_wholePlace) (as := [vl (w32 x_0), vl (w32 y_0)]) (rest := []) rfl rfl dX12_locate_151 m_X12_wholePlace t_3592 t_3594 s_304 (c_X12_wholePlace hl  hc_71) rfl rfl ly_277 rfl (Nat.le_of_ble_eq_true rfl) (Nat.le_of_ble_eq_true rfl) (Nat.le_of_ble_eq_true rfl) (Nat.le_of_ble_eq_true rfl) ?_
                  refine z_st (st' := []) rfl ?_
                  refine z_aload_n (M := M_X12_locate) dX12_locate_154 rfl ?_
                  refine z_iconst (M := M_X12_locate) dX12_locate_155 ?_
                  refine z_zconst (M := M_X12_locate) (b := false) dX12_locate_156 rfl ?_
                  obtain ⟨⟨x_75, σ_74⟩, hc_73, H⟩ := bd_e H
                  refine z_callV (M := M_X12_locate) (M' := M_X12_where) (as := [vi 0, zv false]) (rest := []) rfl rfl dX12_locate_157 m_X12_where t_3540 t_3542 s_291 (c_X12_where hl  hc_73) rfl rfl ly_277 rfl (Nat.le_of_ble_eq_true rfl) (Nat.le_of_ble_eq_true rfl) (Nat.le_of_ble_eq_true rfl) (Nat.le_of_ble_eq_true rfl) ?_
                  refine z_st (st' := [vi x_75]) rfl ?_
                  cases H
                  exact z_iret (M := M_X12_locate) dX12_locate_160 rfl (Nat.le_of_ble_eq_true rfl) (Nat.le_of_ble_eq_true rfl) ⟨rfl, rfl⟩
              have H := he_77
              refine z_aload_n (M := M_X12_locate) dX12_locate_111 rfl ?_
              refine z_getR (M := M_X12_locate) (ci := 15) (C := RX12) (T := TX12) (Nf := 135) (ty := tyX12) cl15 dX12_locate_112 ly_277 101 (by decide) t_2492 rfl ?_
              refine z_iconst (M := M_X12_locate) dX12_locate_115 ?_
              obtain ⟨x_57, x_57_e, hi_58, H⟩ := rd_e H
              refine z_iald (M := M_X12_locate) dX12_locate_116 ly_337 rfl (by decide +kernel) rfl hi_58 x_57_e ?_
              rcases if_e H with ⟨h_59, H⟩ | ⟨h_59, H⟩
              · refine z_if_le_f (M := M_X12_locate) (tgt := 136) dX12_locate_117 (by decide) rfl h_59 ?_
                refine z_aload_n (M := M_X12_locate) dX12_locate_120 rfl ?_
                refine z_getR (M := M_X12_locate) (ci := 15) (C := RX12) (T := TX12) (Nf := 135) (ty := tyX12) cl15 dX12_locate_121 ly_277 102 (by decide) t_2493 rfl ?_
                refine z_iconst (M := M_X12_locate) dX12_locate_124 ?_
                obtain ⟨x_60, x_60_e, hi_61, H⟩ := rd_e H
                refine z_iald (M := M_X12_locate) dX12_locate_125 ly_338 rfl (by decide +kernel) rfl hi_61 x_60_e ?_
                refine z_sipush (M := M_X12_locate) dX12_locate_126 (by decide +kernel) ?_
                rcases if_e H with ⟨h_62, H⟩ | ⟨h_62, H⟩
                · refine z_icmp_le_f (M := M_X12_locate) (tgt := 136) dX12_locate_129 (by decide) rfl (by decide +kernel) h_62 ?_
                  refine z_zconst (M := M_X12_locate) (b := true) dX12_locate_132 rfl ?_
                  refine z_goto (M := M_X12_locate) (tgt := 137) dX12_locate_133 (by decide) ?_
                  exact J_79 _ (Option.some.inj H).symm
                · refine z_icmp_le_t (M := M_X12_locate) (tgt := 136) dX12_locate_129 (by decide) rfl (by decide +kernel) (Int.not_lt.mp h_62) ?_
                  refine z_zconst (M := M_X12_locate) (b := false) dX12_locate_136 rfl ?_
                  exact J_79 _ (Option.some.inj H).symm
              · refine z_if_le_t (M := M_X12_locate) (tgt := 136) dX12_locate_117 (by decide) rfl (Int.not_lt.mp h_59) ?_
                refine z_zconst (M := M_X12_locate) (b := false) dX12_locate_136 rfl ?_
                exact J_79 _ (Option.some.inj H).symm
          have H := he_81
          refine z_iload_n (M := M_X12_locate) dX12_locate_49 rfl ?_
          refine z_i2l (M := M_X12_locate) dX12_locate_50 ?_
          refine z_ldc2 (M := M_X12_locate) (n := (-500000000)) dX12_locate_51 t_3363 (by decide +kernel) ?_
          refine z_ldc2 (M := M_X12_locate) (n := 500000000) dX12_locate_54 t_3364 (by decide +kernel) ?_
          refine z_callS (M := M_X12_locate) (M' := M_X12_in) (as := [vl (w32 x_0), vl (-500000000), vl 500000000]) (rest := [vr 277]) rfl rfl dX12_locate_57 m_X12_in t_2818 t_2819 (c_X12_in hl  rfl) rfl rfl (Nat.le_of_ble_eq_true rfl) (Nat.le_of_ble_eq_true rfl) (Nat.le_of_ble_eq_true rfl) (Nat.le_of_ble_eq_true rfl) ?_
          refine z_st (st' := [zv (fR_in (w32 x_0) (-500000000) 500000000), vr 277]) rfl ?_
          rcases if_e H with ⟨h_40, H⟩ | ⟨h_40, H⟩
          · refine z_zeq_f (M := M_X12_locate) (tgt := 85) dX12_locate_60 (by decide) h_40 ?_
            refine z_iload_n (M := M_X12_locate) dX12_locate_63 rfl ?_
            refine z_i2l (M := M_X12_locate) dX12_locate_64 ?_
            refine z_ldc2 (M := M_X12_locate) (n := (-500000000)) dX12_locate_65 t_3363 (by decide +kernel) ?_
            refine z_ldc2 (M := M_X12_locate) (n := 500000000) dX12_locate_68 t_3364 (by decide +kernel) ?_
            refine z_callS (M := M_X12_locate) (M' := M_X12_in) (as := [vl (w32 y_0), vl (-500000000), vl 500000000]) (rest := [vr 277]) rfl rfl dX12_locate_71 m_X12_in t_2818 t_2819 (c_X12_in hl  rfl) rfl rfl (Nat.le_of_ble_eq_true rfl) (Nat.le_of_ble_eq_true rfl) (Nat.le_of_ble_eq_true rfl) (Nat.le_of_ble_eq_true rfl) ?_
            refine z_st (st' := [zv (fR_in (w32 y_0) (-500000000) 500000000), vr 277]) rfl ?_
            rcases if_e H with ⟨h_41, H⟩ | ⟨h_41, H⟩
            · refine z_zeq_f (M := M_X12_locate) (tgt := 85) dX12_locate_74 (by decide) h_41 ?_
              refine z_aload_n (M := M_X12_locate) dX12_locate_77 rfl ?_
              refine z_iload_n (M := M_X12_locate) dX12_locate_78 rfl ?_
              obtain ⟨x_43, hc_42, H⟩ := bd_e H
              refine z_callV (M := M_X12_locate) (M' := M_X12_canRelate) (as := [vi slot_0]) (rest := [vr 277]) rfl rfl dX12_locate_79 m_X12_canRelate t_3490 t_3492 s_280 (c_X12_canRelate hl  hc_42) rfl rfl ly_277 rfl (Nat.le_of_ble_eq_true rfl) (Nat.le_of_ble_eq_true rfl) (Nat.le_of_ble_eq_true rfl) (Nat.le_of_ble_eq_true rfl) ?_
              refine z_st (st' := [zv x_43, vr 277]) rfl ?_
              rcases if_e H with ⟨h_44, H⟩ | ⟨h_44, H⟩
              · refine z_zne_t (M := M_X12_locate) (tgt := 89) dX12_locate_82 (by decide) h_44 ?_
                refine z_zconst (M := M_X12_locate) (b := false) dX12_locate_89 rfl ?_
                exact J_83 _ (Option.some.inj H).symm
              · refine z_zne_f (M := M_X12_locate) (tgt := 89) dX12_locate_82 (by decide) h_44 ?_
                refine z_zconst (M := M_X12_locate) (b := true) dX12_locate_85 rfl ?_
                refine z_goto (M := M_X12_locate) (tgt := 90) dX12_locate_86 (by decide) ?_
                exact J_83 _ (Option.some.inj H).symm
            · refine z_zeq_t (M := M_X12_locate) (tgt := 85) dX12_locate_74 (by decide) h_41 ?_
              refine z_zconst (M := M_X12_locate) (b := true) dX12_locate_85 rfl ?_
              refine z_goto (M := M_X12_locate) (tgt := 90) dX12_locate_86 (by decide) ?_
              exact J_83 _ (Option.some.inj H).symm
          · refine z_zeq_t (M := M_X12_locate) (tgt := 85) dX12_locate_60 (by decide) h_40 ?_
            refine z_zconst (M := M_X12_locate) (b := true) dX12_locate_85 rfl ?_
            refine z_goto (M := M_X12_locate) (tgt := 90) dX12_locate_86 (by decide) ?_
            exact J_83 _ (Option.some.inj H).symm
      have H := he_85
      refine z_aload_n (M := M_X12_locate) dX12_locate_26 rfl ?_
      refine z_iload_n (M := M_X12_locate) dX12_locate_27 rfl ?_
      obtain ⟨x_31, hc_30, H⟩ := bd_e H
      refine z_callV (M := M_X12_locate) (M' := M_X12_has) (as := [vi slot_0]) (rest := [vr 277]) rfl rfl dX12_locate_28 m_X12_has t_3033 t_3035 s_197 (c_X12_has hl  hc_30) rfl rfl ly_277 rfl (Nat.le_of_ble_eq_true rfl) (Nat.le_of_ble_eq_true rfl) (Nat.le_of_ble_eq_true rfl) (Nat.le_of_ble_eq_true rfl) ?_
      refine z_st (st' := [zv x_31, vr 277]) rfl ?_
      rcases if_e H with ⟨h_32, H⟩ | ⟨h_32, H⟩
      · refine z_zne_t (M := M_X12_locate) (tgt := 38) dX12_locate_31 (by decide) h_32 ?_
        refine z_zconst (M := M_X12_locate) (b := false) dX12_locate_38 rfl ?_
        exact J_87 _ (Option.some.inj H).symm
      · refine z_zne_f (M := M_X12_locate) (tgt := 38) dX12_locate_31 (by decide) h_32 ?_
        refine z_zconst (M := M_X12_locate) (b := true) dX12_locate_34 rfl ?_
        refine z_goto (M := M_X12_locate) (tgt := 39) dX12_locate_35 (by decide) ?_
        exact J_87 _ (Option.some.inj H).symm
  refine z_iload_n (M := M_X12_locate) dX12_locate_6 rfl ?_
  refine z_callS (M := M_X12_locate) (M' := M_X12_isSlot) (as := [vi slot_0]) (rest := [vr 277]) rfl rfl dX12_locate_7 m_X12_isSlot t_2841 t_2842 (c_X12_isSlot hl  rfl) rfl rfl (Nat.le_of_ble_eq_true rfl) (Nat.le_of_ble_eq_true rfl) (Nat.le_of_ble_eq_true rfl) (Nat.le_of_ble_eq_true rfl) ?_
  refine z_st (st' := [zv (fR_isSlot slot_0), vr 277]) rfl ?_
  by_cases h_88 : (fR_isSlot slot_0) = true
  · refine z_zne_t (M := M_X12_locate) (tgt := 17) dX12_locate_10 (by decide) h_88 ?_
    refine z_iconst (M := M_X12_locate) dX12_locate_17 ?_
    exact z_st (by rw [zv_f (p := ¬ ((fR_isSlot slot_0) = true)) (not_not_intro h_88)]) J_25
  · refine z_zne_f (M := M_X12_locate) (tgt := 17) dX12_locate_10 (by decide) h_88 ?_
    refine z_iconst (M := M_X12_locate) dX12_locate_13 ?_
    refine z_goto (M := M_X12_locate) (tgt := 18) dX12_locate_14 (by decide) ?_
    exact z_st (by rw [zv_t (p := ¬ ((fR_isSlot slot_0) = true)) h_88]) J_25
theorem c_X12_gatherSpots (hl : l.stackTraces = false) {σ : SG} {slot_0 : Int} {r : Bool} {σ' : SG}  (H : fR_gatherSpots σ slot_0 = some (r, σ')) : en_S l E M_X12_gatherSpots 1 0 0 [vr 277, vi slot_0] σ (pS (some (zv r)) σ') := by
  unfold fR_gatherSpots at H
  refine z_mk (lv := [some (vr 277), some (vi slot_0), none, none, none]) m_X12_gatherSpots rfl hl (Nat.le_of_ble_eq_true rfl) rfl ?_
  refine z_aload_n (M := M_X12_gatherSpots) dX12_gatherSpots_0 rfl ?_
  refine z_iconst (M := M_X12_gatherSpots) dX12_gatherSpots_1 ?_
  obtain ⟨σ_1, σ_1_e, H⟩ := wf_e H
  refine z_putI (M := M_X12_gatherSpots) (ci := 15) (C := RX12) (T := TX12) (Nf := 135) (ty := tyX12) cl15 dX12_gatherSpots_2 ly_277 119 (by decide) t_2510 rfl rfl rfl rfl σ_1_e ?_
  refine z_sipush (M := M_X12_gatherSpots) dX12_gatherSpots_5 (by decide +kernel) ?_
  refine z_iload_n (M := M_X12_gatherSpots) dX12_gatherSpots_8 rfl ?_
  refine z_imul (M := M_X12_gatherSpots) dX12_gatherSpots_9 ?_
  refine z_istore_n (M := M_X12_gatherSpots) (lv' := [some (vr 277), some (vi slot_0), some (vi (2048 * slot_0)), none, none]) dX12_gatherSpots_10 (Nat.le_of_ble_eq_true rfl) rfl rfl ?_
  obtain ⟨rl_7, hw_4, hk_5, hk_6⟩ := bx_e H
  have J_69 : ∀ k_67 σ_68, rl_7 = (.inl (k_67, σ_68)) → YY l E M_X12_gatherSpots 1 0 0 (pS (some (zv r)) σ') 160 [some (vr 277), some (vi slot_0), some (vi k_67), none, none] [] σ_68 0 0 := by
    intro k_67 σ_68 e
    have H := hk_5 _ e
    refine z_zconst (M := M_X12_gatherSpots) (b := true) dX12_gatherSpots_160 rfl ?_
    cases H
    exact z_zret (M := M_X12_gatherSpots) dX12_gatherSpots_161 rfl (Nat.le_of_ble_eq_true rfl) (Nat.le_of_ble_eq_true rfl) ⟨rfl, rfl⟩
  refine whl_go hw_4 (fun (k_2, σ_3) => YY l E M_X12_gatherSpots 1 0 0 (pS (some (zv r)) σ') 11 [some (vr 277), some (vi slot_0), some (vi k_2), none, none] [] σ_3 0 0) ?_
  rintro ⟨k_2, σ_3⟩ o_8 H K_9 K_10
  refine z_iload_n (M := M_X12_gatherSpots) dX12_gatherSpots_11 rfl ?_
  refine z_sipush (M := M_X12_gatherSpots) dX12_gatherSpots_12 (by decide +kernel) ?_
  refine z_iload_n (M := M_X12_gatherSpots) dX12_gatherSpots_15 rfl ?_
  refine z_imul (M := M_X12_gatherSpots) dX12_gatherSpots_16 ?_
  refine z_aload_n (M := M_X12_gatherSpots) dX12_gatherSpots_17 rfl ?_
  refine z_getR (M := M_X12_gatherSpots) (ci := 15) (C := RX12) (T := TX12) (Nf := 135) (ty := tyX12) cl15 dX12_gatherSpots_18 ly_277 11 (by decide) t_2402 rfl ?_
  refine z_iload_n (M := M_X12_gatherSpots) dX12_gatherSpots_21 rfl ?_
  obtain ⟨x_11, x_11_e, hi_12, H⟩ := rd_e H
  refine z_iald (M := M_X12_gatherSpots) dX12_gatherSpots_22 ly_282 rfl rfl rfl hi_12 x_11_e ?_
  refine z_iadd (M := M_X12_gatherSpots) dX12_gatherSpots_23 ?_
  rcases if_e H with ⟨h_13, H⟩ | ⟨h_13, H⟩
  · refine z_icmp_ge_f (M := M_X12_gatherSpots) (tgt := 160) dX12_gatherSpots_24 (by decide) rfl rfl h_13 ?_
    refine z_zconst (M := M_X12_gatherSpots) (b := false) dX12_gatherSpots_27 rfl ?_
    refine z_zstore_n (M := M_X12_gatherSpots) (lv' := [some (vr 277), some (vi slot_0), some (vi k_2), some (zv false), none]) dX12_gatherSpots_28 (Nat.le_of_ble_eq_true rfl) rfl rfl ?_
    refine z_iconst (M := M_X12_gatherSpots) dX12_gatherSpots_29 ?_
    refine z_istore (M := M_X12_gatherSpots) (lv' := [some (vr 277), some (vi slot_0), some (vi k_2), some (zv false), some (vi 0)]) dX12_gatherSpots_30 (Nat.le_of_ble_eq_true rfl) rfl rfl ?_
    obtain ⟨rl_19, hw_16, hk_17⟩ := bd_e H
    have J_65 : ∀ known_50 s_51, rl_19 = (known_50, s_51) → YY l E M_X12_gatherSpots 1 0 0 (pS (some (zv r)) σ') 93 [some (vr 277), some (vi slot_0), some (vi k_2), some (zv known_50), some (vi s_51)] [] σ_3 0 0 := by
      intro known_50 s_51 e
      have H := hk_17
      rw [e] at H
      refine z_zload_n (M := M_X12_gatherSpots) dX12_gatherSpots_93 rfl ?_
      rcases if_e H with ⟨h_52, H⟩ | ⟨h_52, H⟩
      · refine z_zeq_f (M := M_X12_gatherSpots) (tgt := 100) dX12_gatherSpots_94 (by decide) h_52 ?_
        refine z_goto (M := M_X12_gatherSpots) (tgt := 154) dX12_gatherSpots_97 (by decide) ?_
        refine z_iinc (M := M_X12_gatherSpots) (lv' := [some (vr 277), some (vi slot_0), some (vi (k_2 + 1)), some (zv known_50), some (vi s_51)]) dX12_gatherSpots_154 rfl (Nat.le_of_ble_eq_true rfl) rfl rfl ?_
        refine z_goto (M := M_X12_gatherSpots) (tgt := 11) dX12_gatherSpots_157 (by decide) ?_
        refine z_le (lv' := [some (vr 277), some (vi slot_0), some (vi (k_2 + 1)), none, none]) ⟨Or.inr rfl, Or.inr rfl, Or.inr rfl, Or.inl rfl, Or.inl rfl, trivial⟩ ?_
        exact K_9 _ (Option.some.inj H).symm
      · refine z_zeq_t (M := M_X12_gatherSpots) (tgt := 100) dX12_gatherSpots_94 (by decide) h_52 ?_
        refine z_aload_n (M := M_X12_gatherSpots) dX12_gatherSpots_100 rfl ?_
        refine z_getI (M := M_X12_gatherSpots) (ci := 15) (C := RX12) (T := TX12) (Nf := 135) (ty := tyX12) cl15 dX12_gatherSpots_101 ly_277 119 (by decide) t_2510 rfl rfl ?_
        refine z_sipush (M := M_X12_gatherSpots) dX12_gatherSpots_104 (by decide +kernel) ?_
        rcases if_e H with ⟨h_54, H⟩ | ⟨h_54, H⟩
        · refine z_icmp_ne_f (M := M_X12_gatherSpots) (tgt := 112) dX12_gatherSpots_107 (by decide) rfl (by decide +kernel) h_54 ?_
          refine z_zconst (M := M_X12_gatherSpots) (b := false) dX12_gatherSpots_110 rfl ?_
          have H := congrArg some (hk_6 _ ((K_10 _ (Option.some.inj H).symm).symm))
          cases H
          exact z_zret (M := M_X12_gatherSpots) dX12_gatherSpots_111 rfl (Nat.le_of_ble_eq_true rfl) (Nat.le_of_ble_eq_true rfl) ⟨rfl, rfl⟩
        · refine z_icmp_ne_t (M := M_X12_gatherSpots) (tgt := 112) dX12_gatherSpots_107 (by decide) rfl (by decide +kernel) h_54 ?_
          refine z_aload_n (M := M_X12_gatherSpots) dX12_gatherSpots_112 rfl ?_
          refine z_getR (M := M_X12_gatherSpots) (ci := 15) (C := RX12) (T := TX12) (Nf := 135) (ty := tyX12) cl15 dX12_gatherSpots_113 ly_277 117 (by decide) t_2508 rfl ?_
          refine z_aload_n (M := M_X12_gatherSpots) dX12_gatherSpots_116 rfl ?_
          refine z_getI (M := M_X12_gatherSpots) (ci := 15) (C := RX12) (T := TX12) (Nf := 135) (ty := tyX12) cl15 dX12_gatherSpots_117 ly_277 119 (by decide) t_2510 rfl rfl ?_
          refine z_aload_n (M := M_X12_gatherSpots) dX12_gatherSpots_120 rfl ?_
          refine z_getR (M := M_X12_gatherSpots) (ci := 15) (C := RX12) (T := TX12) (Nf := 135) (ty := tyX12) cl15 dX12_gatherSpots_121 ly_277 12 (by decide) t_2403 rfl ?_
          refine z_iload_n (M := M_X12_gatherSpots) dX12_gatherSpots_124 rfl ?_
          obtain ⟨x_55, x_55_e, hi_56, H⟩ := rd_e H
          refine z_iald (M := M_X12_gatherSpots) dX12_gatherSpots_125 ly_283 rfl rfl rfl hi_56 x_55_e ?_
          refine z_i2l (M := M_X12_gatherSpots) dX12_gatherSpots_126 ?_
          obtain ⟨σ_57, σ_57_e, hi_58, H⟩ := wa_e H
          refine z_last (M := M_X12_gatherSpots) dX12_gatherSpots_127 ly_346 rfl rfl rfl hi_58 σ_57_e ?_
          refine z_aload_n (M := M_X12_gatherSpots) dX12_gatherSpots_128 rfl ?_
          refine z_getR (M := M_X12_gatherSpots) (ci := 15) (C := RX12) (T := TX12) (Nf := 135) (ty := tyX12) cl15 dX12_gatherSpots_129 ly_277 118 (by decide) t_2509 rfl ?_
          refine z_aload_n (M := M_X12_gatherSpots) dX12_gatherSpots_132 rfl ?_
          refine z_getI (M := M_X12_gatherSpots) (ci := 15) (C := RX12) (T := TX12) (Nf := 135) (ty := tyX12) cl15 dX12_gatherSpots_133 ly_277 119 (by decide) t_2510 rfl rfl ?_
          refine z_aload_n (M := M_X12_gatherSpots) dX12_gatherSpots_136 rfl ?_
          refine z_getR (M := M_X12_gatherSpots) (ci := 15) (C := RX12) (T := TX12) (Nf := 135) (ty := tyX12) cl15 dX12_gatherSpots_137 ly_277 13 (by decide) t_2404 rfl ?_
          refine z_iload_n (M := M_X12_gatherSpots) dX12_gatherSpots_140 rfl ?_
          obtain ⟨x_59, x_59_e, hi_60, H⟩ := rd_e H
          refine z_iald (M := M_X12_gatherSpots) dX12_gatherSpots_141 ly_284 rfl rfl rfl hi_60 x_59_e ?_
          refine z_i2l (M := M_X12_gatherSpots) dX12_gatherSpots_142 ?_
          obtain ⟨σ_61, σ_61_e, hi_62, H⟩ := wa_e H
          refine z_last (M := M_X12_gatherSpots) dX12_gatherSpots_143 ly_347 rfl rfl rfl hi_62 σ_61_e ?_
          refine z_aload_n (M := M_X12_gatherSpots) dX12_gatherSpots_144 rfl ?_
          refine z_dup (M := M_X12_gatherSpots) dX12_gatherSpots_145 rfl ?_
          refine z_getI (M := M_X12_gatherSpots) (ci := 15) (C := RX12) (T := TX12) (Nf := 135) (ty := tyX12) cl15 dX12_gatherSpots_146 ly_277 119 (by decide) t_2510 rfl rfl ?_
          refine z_iconst (M := M_X12_gatherSpots) dX12_gatherSpots_149 ?_
          refine z_iadd (M := M_X12_gatherSpots) dX12_gatherSpots_150 ?_
          obtain ⟨σ_63, σ_63_e, H⟩ := wf_e H
          refine z_putI (M := M_X12_gatherSpots) (ci := 15) (C := RX12) (T := TX12) (Nf := 135) (ty := tyX12) cl15 dX12_gatherSpots_151 ly_277 119 (by decide) t_2510 rfl rfl rfl rfl σ_63_e ?_
          refine z_iinc (M := M_X12_gatherSpots) (lv' := [some (vr 277), some (vi slot_0), some (vi (k_2 + 1)), some (zv known_50), some (vi s_51)]) dX12_gatherSpots_154 rfl (Nat.le_of_ble_eq_true rfl) rfl rfl ?_
          refine z_goto (M := M_X12_gatherSpots) (tgt := 11) dX12_gatherSpots_157 (by decide) ?_
          refine z_le (lv' := [some (vr 277), some (vi slot_0), some (vi (k_2 + 1)), none, none]) ⟨Or.inr rfl, Or.inr rfl, Or.inr rfl, Or.inl rfl, Or.inl rfl, trivial⟩ ?_
          exact K_9 _ (Option.some.inj H).symm
    refine whl_go hw_16 (fun (known_14, s_15) => YY l E M_X12_gatherSpots 1 0 0 (pS (some (zv r)) σ') 32 [some (vr 277), some (vi slot_0), some (vi k_2), some (zv known_14), some (vi s_15)] [] σ_3 0 0) ?_
    rintro ⟨known_14, s_15⟩ o_20 H K_21 K_22
    rcases if_e H with ⟨h_43, H⟩ | ⟨h_43, H⟩
    · have J_44 : YY l E M_X12_gatherSpots 1 0 0 (pS (some (zv r)) σ') 45 [some (vr 277), some (vi slot_0), some (vi k_2), some (zv known_14), some (vi s_15)] [] σ_3 0 0 := by
        obtain ⟨v_38, he_39, hk_40⟩ := bd_e H
        have J_41 : ∀ x_36, v_38 = x_36 → YY l E M_X12_gatherSpots 1 0 0 (pS (some (zv r)) σ') 86 [some (vr 277), some (vi slot_0), some (vi k_2), some (zv known_14), some (vi s_15)] [zv x_36] σ_3 0 0 := by
          intro x_36 e
          have H := hk_40
          rw [e] at H
          refine z_zstore_n (M := M_X12_gatherSpots) (lv' := [some (vr 277), some (vi slot_0), some (vi k_2), some (zv x_36), some (vi s_15)]) dX12_gatherSpots_86 (Nat.le_of_ble_eq_true rfl) rfl rfl ?_
          refine z_iinc (M := M_X12_gatherSpots) (lv' := [some (vr 277), some (vi slot_0), some (vi k_2), some (zv x_36), some (vi (s_15 + 1))]) dX12_gatherSpots_87 rfl (Nat.le_of_ble_eq_true rfl) rfl rfl ?_
          refine z_goto (M := M_X12_gatherSpots) (tgt := 32) dX12_gatherSpots_90 (by decide) ?_
          exact K_21 _ (Option.some.inj H).symm
        have H := he_39
        refine z_aload_n (M := M_X12_gatherSpots) dX12_gatherSpots_45 rfl ?_
        refine z_getR (M := M_X12_gatherSpots) (ci := 15) (C := RX12) (T := TX12) (Nf := 135) (ty := tyX12) cl15 dX12_gatherSpots_46 ly_277 117 (by decide) t_2508 rfl ?_
        refine z_iload (M := M_X12_gatherSpots) dX12_gatherSpots_49 rfl ?_
        obtain ⟨x_23, x_23_e, hi_24, H⟩ := rd_e H
        refine z_lald (M := M_X12_gatherSpots) dX12_gatherSpots_51 ly_346 rfl rfl rfl hi_24 x_23_e ?_
        refine z_aload_n (M := M_X12_gatherSpots) dX12_gatherSpots_52 rfl ?_
        refine z_getR (M := M_X12_gatherSpots) (ci := 15) (C := RX12) (T := TX12) (Nf := 135) (ty := tyX12) cl15 dX12_gatherSpots_53 ly_277 12 (by decide) t_2403 rfl ?_
        refine z_iload_n (M := M_X12_gatherSpots) dX12_gatherSpots_56 rfl ?_
        obtain ⟨x_25, x_25_e, hi_26, H⟩ := rd_e H
        refine z_iald (M := M_X12_gatherSpots) dX12_gatherSpots_57 ly_283 rfl rfl rfl hi_26 x_25_e ?_
        refine z_i2l (M := M_X12_gatherSpots) dX12_gatherSpots_58 ?_
        refine z_lcmp (M := M_X12_gatherSpots) dX12_gatherSpots_59 ?_
        rcases if_e H with ⟨h_27, H⟩ | ⟨h_27, H⟩
        · refine z_lif_ne_f (M := M_X12_gatherSpots) (tgt := 85) dX12_gatherSpots_60 (by decide) rfl rfl h_27 ?_
          refine z_aload_n (M := M_X12_gatherSpots) dX12_gatherSpots_63 rfl ?_
          refine z_getR (M := M_X12_gatherSpots) (ci := 15) (C := RX12) (T := TX12) (Nf := 135) (ty := tyX12) cl15 dX12_gatherSpots_64 ly_277 118 (by decide) t_2509 rfl ?_
          refine z_iload (M := M_X12_gatherSpots) dX12_gatherSpots_67 rfl ?_
          obtain ⟨x_28, x_28_e, hi_29, H⟩ := rd_e H
          refine z_lald (M := M_X12_gatherSpots) dX12_gatherSpots_69 ly_347 rfl rfl rfl hi_29 x_28_e ?_
          refine z_aload_n (M := M_X12_gatherSpots) dX12_gatherSpots_70 rfl ?_
          refine z_getR (M := M_X12_gatherSpots) (ci := 15) (C := RX12) (T := TX12) (Nf := 135) (ty := tyX12) cl15 dX12_gatherSpots_71 ly_277 13 (by decide) t_2404 rfl ?_
          refine z_iload_n (M := M_X12_gatherSpots) dX12_gatherSpots_74 rfl ?_
          obtain ⟨x_30, x_30_e, hi_31, H⟩ := rd_e H
          refine z_iald (M := M_X12_gatherSpots) dX12_gatherSpots_75 ly_284 rfl rfl rfl hi_31 x_30_e ?_
          refine z_i2l (M := M_X12_gatherSpots) dX12_gatherSpots_76 ?_
          refine z_lcmp (M := M_X12_gatherSpots) dX12_gatherSpots_77 ?_
          rcases if_e H with ⟨h_32, H⟩ | ⟨h_32, H⟩
          · refine z_lif_ne_f (M := M_X12_gatherSpots) (tgt := 85) dX12_gatherSpots_78 (by decide) rfl rfl h_32 ?_
            refine z_zconst (M := M_X12_gatherSpots) (b := true) dX12_gatherSpots_81 rfl ?_
            refine z_goto (M := M_X12_gatherSpots) (tgt := 86) dX12_gatherSpots_82 (by decide) ?_
            exact J_41 _ (Option.some.inj H).symm
          · refine z_lif_ne_t (M := M_X12_gatherSpots) (tgt := 85) dX12_gatherSpots_78 (by decide) rfl rfl h_32 ?_
            refine z_zconst (M := M_X12_gatherSpots) (b := false) dX12_gatherSpots_85 rfl ?_
            exact J_41 _ (Option.some.inj H).symm
        · refine z_lif_ne_t (M := M_X12_gatherSpots) (tgt := 85) dX12_gatherSpots_60 (by decide) rfl rfl h_27 ?_
          refine z_zconst (M := M_X12_gatherSpots) (b := false) dX12_gatherSpots_85 rfl ?_
          exact J_41 _ (Option.some.inj H).symm
      refine z_iload (M := M_X12_gatherSpots) dX12_gatherSpots_32 rfl ?_
      refine z_aload_n (M := M_X12_gatherSpots) dX12_gatherSpots_34 rfl ?_
      refine z_getI (M := M_X12_gatherSpots) (ci := 15) (C := RX12) (T := TX12) (Nf := 135) (ty := tyX12) cl15 dX12_gatherSpots_35 ly_277 119 (by decide) t_2510 rfl rfl ?_
      by_cases h_46 : (w32 s_15) < (w32 (σ_3 kR_spots 0))
      · refine z_icmp_ge_f (M := M_X12_gatherSpots) (tgt := 93) dX12_gatherSpots_38 (by decide) rfl rfl h_46 ?_
        refine z_zload_n (M := M_X12_gatherSpots) dX12_gatherSpots_41 rfl ?_
        by_cases h_47 : known_14 = true
        · refine z_zne_t (M := M_X12_gatherSpots) (tgt := 93) dX12_gatherSpots_42 (by decide) h_47 ?_
          exact absurd h_43 (fun q => (not_not_intro h_47) q.2)
        · refine z_zne_f (M := M_X12_gatherSpots) (tgt := 93) dX12_gatherSpots_42 (by decide) h_47 ?_
          exact J_44
      · refine z_icmp_ge_t (M := M_X12_gatherSpots) (tgt := 93) dX12_gatherSpots_38 (by decide) rfl rfl (Int.not_lt.mp h_46) ?_
        exact absurd h_43 (fun q => h_46 q.1)
    · have J_45 : YY l E M_X12_gatherSpots 1 0 0 (pS (some (zv r)) σ') 93 [some (vr 277), some (vi slot_0), some (vi k_2), some (zv known_14), some (vi s_15)] [] σ_3 0 0 := by
        exact J_65 _ _ (K_22 _ (Option.some.inj H).symm).symm
      refine z_iload (M := M_X12_gatherSpots) dX12_gatherSpots_32 rfl ?_
      refine z_aload_n (M := M_X12_gatherSpots) dX12_gatherSpots_34 rfl ?_
      refine z_getI (M := M_X12_gatherSpots) (ci := 15) (C := RX12) (T := TX12) (Nf := 135) (ty := tyX12) cl15 dX12_gatherSpots_35 ly_277 119 (by decide) t_2510 rfl rfl ?_
      by_cases h_48 : (w32 s_15) < (w32 (σ_3 kR_spots 0))
      · refine z_icmp_ge_f (M := M_X12_gatherSpots) (tgt := 93) dX12_gatherSpots_38 (by decide) rfl rfl h_48 ?_
        refine z_zload_n (M := M_X12_gatherSpots) dX12_gatherSpots_41 rfl ?_
        by_cases h_49 : known_14 = true
        · refine z_zne_t (M := M_X12_gatherSpots) (tgt := 93) dX12_gatherSpots_42 (by decide) h_49 ?_
          exact J_45
        · refine z_zne_f (M := M_X12_gatherSpots) (tgt := 93) dX12_gatherSpots_42 (by decide) h_49 ?_
          exact absurd ⟨h_48, h_49⟩ h_43
      · refine z_icmp_ge_t (M := M_X12_gatherSpots) (tgt := 93) dX12_gatherSpots_38 (by decide) rfl rfl (Int.not_lt.mp h_48) ?_
        exact J_45
  · refine z_icmp_ge_t (M := M_X12_gatherSpots) (tgt := 160) dX12_gatherSpots_24 (by decide) rfl rfl (Int.not_lt.mp h_13) ?_
    exact J_69 _ _ (K_10 _ (Option.some.inj H).symm).symm
theorem c_X12_turnOf (hl : l.stackTraces = false) {σ : SG} {a_0 : Int} {b_0 : Int} {c_0 : Int} {r : Int}  (H : fR_turnOf σ a_0 b_0 c_0 = some r) : en_S l E M_X12_turnOf 3 0 0 [vr 277, vi a_0, vi b_0, vi c_0] σ (pS (some (vi r)) σ) := by
  unfold fR_turnOf at H
  refine z_mk (lv := [some (vr 277), some (vi a_0), some (vi b_0), some (vi c_0)]) m_X12_turnOf rfl hl (Nat.le_of_ble_eq_true rfl) rfl ?_
  refine z_aload_n (M := M_X12_turnOf) dX12_turnOf_0 rfl ?_
  refine z_getR (M := M_X12_turnOf) (ci := 15) (C := RX12) (T := TX12) (Nf := 135) (ty := tyX12) cl15 dX12_turnOf_1 ly_277 117 (by decide) t_2508 rfl ?_
  refine z_iload_n (M := M_X12_turnOf) dX12_turnOf_4 rfl ?_
  obtain ⟨x_1, x_1_e, hi_2, H⟩ := rd_e H
  refine z_lald (M := M_X12_turnOf) dX12_turnOf_5 ly_346 rfl rfl rfl hi_2 x_1_e ?_
  refine z_aload_n (M := M_X12_turnOf) dX12_turnOf_6 rfl ?_
  refine z_getR (M := M_X12_turnOf) (ci := 15) (C := RX12) (T := TX12) (Nf := 135) (ty := tyX12) cl15 dX12_turnOf_7 ly_277 118 (by decide) t_2509 rfl ?_
  refine z_iload_n (M := M_X12_turnOf) dX12_turnOf_10 rfl ?_
  obtain ⟨x_3, x_3_e, hi_4, H⟩ := rd_e H
  refine z_lald (M := M_X12_turnOf) dX12_turnOf_11 ly_347 rfl rfl rfl hi_4 x_3_e ?_
  refine z_aload_n (M := M_X12_turnOf) dX12_turnOf_12 rfl ?_
  refine z_getR (M := M_X12_turnOf) (ci := 15) (C := RX12) (T := TX12) (Nf := 135) (ty := tyX12) cl15 dX12_turnOf_13 ly_277 117 (by decide) t_2508 rfl ?_
  refine z_iload_n (M := M_X12_turnOf) dX12_turnOf_16 rfl ?_
  obtain ⟨x_5, x_5_e, hi_6, H⟩ := rd_e H
  refine z_lald (M := M_X12_turnOf) dX12_turnOf_17 ly_346 rfl rfl rfl hi_6 x_5_e ?_
  refine z_aload_n (M := M_X12_turnOf) dX12_turnOf_18 rfl ?_
  refine z_getR (M := M_X12_turnOf) (ci := 15) (C := RX12) (T := TX12) (Nf := 135) (ty := tyX12) cl15 dX12_turnOf_19 ly_277 118 (by decide) t_2509 rfl ?_
  refine z_iload_n (M := M_X12_turnOf) dX12_turnOf_22 rfl ?_
  obtain ⟨x_7, x_7_e, hi_8, H⟩ := rd_e H
  refine z_lald (M := M_X12_turnOf) dX12_turnOf_23 ly_347 rfl rfl rfl hi_8 x_7_e ?_
  refine z_aload_n (M := M_X12_turnOf) dX12_turnOf_24 rfl ?_
  refine z_getR (M := M_X12_turnOf) (ci := 15) (C := RX12) (T := TX12) (Nf := 135) (ty := tyX12) cl15 dX12_turnOf_25 ly_277 117 (by decide) t_2508 rfl ?_
  refine z_iload_n (M := M_X12_turnOf) dX12_turnOf_28 rfl ?_
  obtain ⟨x_9, x_9_e, hi_10, H⟩ := rd_e H
  refine z_lald (M := M_X12_turnOf) dX12_turnOf_29 ly_346 rfl rfl rfl hi_10 x_9_e ?_
  refine z_aload_n (M := M_X12_turnOf) dX12_turnOf_30 rfl ?_
  refine z_getR (M := M_X12_turnOf) (ci := 15) (C := RX12) (T := TX12) (Nf := 135) (ty := tyX12) cl15 dX12_turnOf_31 ly_277 118 (by decide) t_2509 rfl ?_
  refine z_iload_n (M := M_X12_turnOf) dX12_turnOf_34 rfl ?_
  obtain ⟨x_11, x_11_e, hi_12, H⟩ := rd_e H
  refine z_lald (M := M_X12_turnOf) dX12_turnOf_35 ly_347 rfl rfl rfl hi_12 x_11_e ?_
  refine z_callS (M := M_X12_turnOf) (M' := M_X12_turn) (as := [vl x_1, vl x_3, vl x_5, vl x_7, vl x_9, vl x_11]) (rest := []) rfl rfl dX12_turnOf_36 m_X12_turn t_3262 t_3263 (c_X12_turn hl  rfl) rfl rfl (Nat.le_of_ble_eq_true rfl) (Nat.le_of_ble_eq_true rfl) (Nat.le_of_ble_eq_true rfl) (Nat.le_of_ble_eq_true rfl) ?_
  refine z_st (st' := [vi (fR_turn x_1 x_3 x_5 x_7 x_9 x_11)]) rfl ?_
  cases H
  exact z_iret (M := M_X12_turnOf) dX12_turnOf_39 rfl (Nat.le_of_ble_eq_true rfl) (Nat.le_of_ble_eq_true rfl) ⟨rfl, rfl⟩
theorem c_X12_isLess (hl : l.stackTraces = false) {σ : SG} {a_0 : Int} {b_0 : Int} {r : Bool}  (H : fR_isLess σ a_0 b_0 = some r) : en_S l E M_X12_isLess 2 0 0 [vr 277, vi a_0, vi b_0] σ (pS (some (zv r)) σ) := by
  unfold fR_isLess at H
  refine z_mk (lv := [some (vr 277), some (vi a_0), some (vi b_0)]) m_X12_isLess rfl hl (Nat.le_of_ble_eq_true rfl) rfl ?_
  refine z_aload_n (M := M_X12_isLess) dX12_isLess_0 rfl ?_
  refine z_getR (M := M_X12_isLess) (ci := 15) (C := RX12) (T := TX12) (Nf := 135) (ty := tyX12) cl15 dX12_isLess_1 ly_277 117 (by decide) t_2508 rfl ?_
  refine z_iload_n (M := M_X12_isLess) dX12_isLess_4 rfl ?_
  obtain ⟨x_1, x_1_e, hi_2, H⟩ := rd_e H
  refine z_lald (M := M_X12_isLess) dX12_isLess_5 ly_346 rfl rfl rfl hi_2 x_1_e ?_
  refine z_aload_n (M := M_X12_isLess) dX12_isLess_6 rfl ?_
  refine z_getR (M := M_X12_isLess) (ci := 15) (C := RX12) (T := TX12) (Nf := 135) (ty := tyX12) cl15 dX12_isLess_7 ly_277 118 (by decide) t_2509 rfl ?_
  refine z_iload_n (M := M_X12_isLess) dX12_isLess_10 rfl ?_
  obtain ⟨x_3, x_3_e, hi_4, H⟩ := rd_e H
  refine z_lald (M := M_X12_isLess) dX12_isLess_11 ly_347 rfl rfl rfl hi_4 x_3_e ?_
  refine z_aload_n (M := M_X12_isLess) dX12_isLess_12 rfl ?_
  refine z_getR (M := M_X12_isLess) (ci := 15) (C := RX12) (T := TX12) (Nf := 135) (ty := tyX12) cl15 dX12_isLess_13 ly_277 117 (by decide) t_2508 rfl ?_
  refine z_iload_n (M := M_X12_isLess) dX12_isLess_16 rfl ?_
  obtain ⟨x_5, x_5_e, hi_6, H⟩ := rd_e H
  refine z_lald (M := M_X12_isLess) dX12_isLess_17 ly_346 rfl rfl rfl hi_6 x_5_e ?_
  refine z_aload_n (M := M_X12_isLess) dX12_isLess_18 rfl ?_
  refine z_getR (M := M_X12_isLess) (ci := 15) (C := RX12) (T := TX12) (Nf := 135) (ty := tyX12) cl15 dX12_isLess_19 ly_277 118 (by decide) t_2509 rfl ?_
  refine z_iload_n (M := M_X12_isLess) dX12_isLess_22 rfl ?_
  obtain ⟨x_7, x_7_e, hi_8, H⟩ := rd_e H
  refine z_lald (M := M_X12_isLess) dX12_isLess_23 ly_347 rfl rfl rfl hi_8 x_7_e ?_
  refine z_callS (M := M_X12_isLess) (M' := M_X12_isBefore) (as := [vl x_1, vl x_3, vl x_5, vl x_7]) (rest := []) rfl rfl dX12_isLess_24 m_X12_isBefore t_3275 t_3276 (c_X12_isBefore hl  rfl) rfl rfl (Nat.le_of_ble_eq_true rfl) (Nat.le_of_ble_eq_true rfl) (Nat.le_of_ble_eq_true rfl) (Nat.le_of_ble_eq_true rfl) ?_
  refine z_st (st' := [zv (fR_isBefore x_1 x_3 x_5 x_7)]) rfl ?_
  cases H
  exact z_zret (M := M_X12_isLess) dX12_isLess_27 rfl (Nat.le_of_ble_eq_true rfl) (Nat.le_of_ble_eq_true rfl) ⟨rfl, rfl⟩
theorem c_X12_leastSpot (hl : l.stackTraces = false) {σ : SG} {r : Int}  (H : fR_leastSpot σ = some r) : en_S l E M_X12_leastSpot 3 0 0 [vr 277] σ (pS (some (vi r)) σ) := by
  unfold fR_leastSpot at H
  refine z_mk (lv := [some (vr 277), none, none]) m_X12_leastSpot rfl hl (Nat.le_of_ble_eq_true rfl) rfl ?_
  refine z_iconst (M := M_X12_leastSpot) dX12_leastSpot_0 ?_
  refine z_istore_n (M := M_X12_leastSpot) (lv' := [some (vr 277), some (vi 0), none]) dX12_leastSpot_1 (Nat.le_of_ble_eq_true rfl) rfl rfl ?_
  refine z_iconst (M := M_X12_leastSpot) dX12_leastSpot_2 ?_
  refine z_istore_n (M := M_X12_leastSpot) (lv' := [some (vr 277), some (vi 0), some (vi 1)]) dX12_leastSpot_3 (Nat.le_of_ble_eq_true rfl) rfl rfl ?_
  obtain ⟨rl_6, hw_3, hk_4⟩ := bd_e H
  have J_25 : ∀ least_23 k_24, rl_6 = (least_23, k_24) → YY l E M_X12_leastSpot 3 0 0 (pS (some (vi r)) σ) 33 [some (vr 277), some (vi least_23), some (vi k_24)] [] σ 0 0 := by
    intro least_23 k_24 e
    have H := hk_4
    rw [e] at H
    refine z_iload_n (M := M_X12_leastSpot) dX12_leastSpot_33 rfl ?_
    cases H
    exact z_iret (M := M_X12_leastSpot) dX12_leastSpot_34 rfl (Nat.le_of_ble_eq_true rfl) (Nat.le_of_ble_eq_true rfl) ⟨rfl, rfl⟩
  refine whl_go hw_3 (fun (least_1, k_2) => YY l E M_X12_leastSpot 3 0 0 (pS (some (vi r)) σ) 4 [some (vr 277), some (vi least_1), some (vi k_2)] [] σ 0 0) ?_
  rintro ⟨least_1, k_2⟩ o_7 H K_8 K_9
  refine z_iload_n (M := M_X12_leastSpot) dX12_leastSpot_4 rfl ?_
  refine z_aload_n (M := M_X12_leastSpot) dX12_leastSpot_5 rfl ?_
  refine z_getI (M := M_X12_leastSpot) (ci := 15) (C := RX12) (T := TX12) (Nf := 135) (ty := tyX12) cl15 dX12_leastSpot_6 ly_277 119 (by decide) t_2510 rfl rfl ?_
  rcases if_e H with ⟨h_10, H⟩ | ⟨h_10, H⟩
  · refine z_icmp_ge_f (M := M_X12_leastSpot) (tgt := 33) dX12_leastSpot_9 (by decide) rfl rfl h_10 ?_
    obtain ⟨v_18, he_19, hk_20⟩ := bd_e H
    have J_21 : ∀ x_16, v_18 = x_16 → YY l E M_X12_leastSpot 3 0 0 (pS (some (vi r)) σ) 26 [some (vr 277), some (vi least_1), some (vi k_2)] [vi x_16] σ 0 0 := by
      intro x_16 e
      have H := hk_20
      rw [e] at H
      refine z_istore_n (M := M_X12_leastSpot) (lv' := [some (vr 277), some (vi x_16), some (vi k_2)]) dX12_leastSpot_26 (Nat.le_of_ble_eq_true rfl) rfl rfl ?_
      refine z_iinc (M := M_X12_leastSpot) (lv' := [some (vr 277), some (vi x_16), some (vi (k_2 + 1))]) dX12_leastSpot_27 rfl (Nat.le_of_ble_eq_true rfl) rfl rfl ?_
      refine z_goto (M := M_X12_leastSpot) (tgt := 4) dX12_leastSpot_30 (by decide) ?_
      exact K_8 _ (Option.some.inj H).symm
    have H := he_19
    refine z_aload_n (M := M_X12_leastSpot) dX12_leastSpot_12 rfl ?_
    refine z_iload_n (M := M_X12_leastSpot) dX12_leastSpot_13 rfl ?_
    refine z_iload_n (M := M_X12_leastSpot) dX12_leastSpot_14 rfl ?_
    obtain ⟨x_12, hc_11, H⟩ := bd_e H
    refine z_callV (M := M_X12_leastSpot) (M' := M_X12_isLess) (as := [vi k_2, vi least_1]) (rest := []) rfl rfl dX12_leastSpot_15 m_X12_isLess t_3633 t_3635 s_311 (c_X12_isLess hl  hc_11) rfl rfl ly_277 rfl (Nat.le_of_ble_eq_true rfl) (Nat.le_of_ble_eq_true rfl) (Nat.le_of_ble_eq_true rfl) (Nat.le_of_ble_eq_true rfl) ?_
    refine z_st (st' := [zv x_12]) rfl ?_
    rcases if_e H with ⟨h_13, H⟩ | ⟨h_13, H⟩
    · refine z_zeq_f (M := M_X12_leastSpot) (tgt := 25) dX12_leastSpot_18 (by decide) h_13 ?_
      refine z_iload_n (M := M_X12_leastSpot) dX12_leastSpot_21 rfl ?_
      refine z_goto (M := M_X12_leastSpot) (tgt := 26) dX12_leastSpot_22 (by decide) ?_
      exact J_21 _ (Option.some.inj H).symm
    · refine z_zeq_t (M := M_X12_leastSpot) (tgt := 25) dX12_leastSpot_18 (by decide) h_13 ?_
      refine z_iload_n (M := M_X12_leastSpot) dX12_leastSpot_25 rfl ?_
      exact J_21 _ (Option.some.inj H).symm
  · refine z_icmp_ge_t (M := M_X12_leastSpot) (tgt := 33) dX12_leastSpot_9 (by decide) rfl rfl (Int.not_lt.mp h_10) ?_
    exact J_25 _ _ (K_9 _ (Option.some.inj H).symm).symm
theorem c_X12_wayTo (hl : l.stackTraces = false) {σ : SG} {a_0 : Int} {b_0 : Int} {r : Int}  (H : fR_wayTo σ a_0 b_0 = some r) : en_S l E M_X12_wayTo 1 0 0 [vr 277, vi a_0, vi b_0] σ (pS (some (vl r)) σ) := by
  unfold fR_wayTo at H
  refine z_mk (lv := [some (vr 277), some (vi a_0), some (vi b_0), none, none, none, none]) m_X12_wayTo rfl hl (Nat.le_of_ble_eq_true rfl) rfl ?_
  refine z_aload_n (M := M_X12_wayTo) dX12_wayTo_0 rfl ?_
  refine z_getR (M := M_X12_wayTo) (ci := 15) (C := RX12) (T := TX12) (Nf := 135) (ty := tyX12) cl15 dX12_wayTo_1 ly_277 117 (by decide) t_2508 rfl ?_
  refine z_iload_n (M := M_X12_wayTo) dX12_wayTo_4 rfl ?_
  obtain ⟨x_1, x_1_e, hi_2, H⟩ := rd_e H
  refine z_lald (M := M_X12_wayTo) dX12_wayTo_5 ly_346 rfl rfl rfl hi_2 x_1_e ?_
  refine z_aload_n (M := M_X12_wayTo) dX12_wayTo_6 rfl ?_
  refine z_getR (M := M_X12_wayTo) (ci := 15) (C := RX12) (T := TX12) (Nf := 135) (ty := tyX12) cl15 dX12_wayTo_7 ly_277 117 (by decide) t_2508 rfl ?_
  refine z_iload_n (M := M_X12_wayTo) dX12_wayTo_10 rfl ?_
  obtain ⟨x_3, x_3_e, hi_4, H⟩ := rd_e H
  refine z_lald (M := M_X12_wayTo) dX12_wayTo_11 ly_346 rfl rfl rfl hi_4 x_3_e ?_
  refine z_lsub (M := M_X12_wayTo) dX12_wayTo_12 ?_
  refine z_lstore_n (M := M_X12_wayTo) (lv' := [some (vr 277), some (vi a_0), some (vi b_0), some (vl (x_1 - x_3)), none, none, none]) dX12_wayTo_13 (Nat.le_of_ble_eq_true rfl) rfl rfl ?_
  refine z_aload_n (M := M_X12_wayTo) dX12_wayTo_14 rfl ?_
  refine z_getR (M := M_X12_wayTo) (ci := 15) (C := RX12) (T := TX12) (Nf := 135) (ty := tyX12) cl15 dX12_wayTo_15 ly_277 118 (by decide) t_2509 rfl ?_
  refine z_iload_n (M := M_X12_wayTo) dX12_wayTo_18 rfl ?_
  obtain ⟨x_5, x_5_e, hi_6, H⟩ := rd_e H
  refine z_lald (M := M_X12_wayTo) dX12_wayTo_19 ly_347 rfl rfl rfl hi_6 x_5_e ?_
  refine z_aload_n (M := M_X12_wayTo) dX12_wayTo_20 rfl ?_
  refine z_getR (M := M_X12_wayTo) (ci := 15) (C := RX12) (T := TX12) (Nf := 135) (ty := tyX12) cl15 dX12_wayTo_21 ly_277 118 (by decide) t_2509 rfl ?_
  refine z_iload_n (M := M_X12_wayTo) dX12_wayTo_24 rfl ?_
  obtain ⟨x_7, x_7_e, hi_8, H⟩ := rd_e H
  refine z_lald (M := M_X12_wayTo) dX12_wayTo_25 ly_347 rfl rfl rfl hi_8 x_7_e ?_
  refine z_lsub (M := M_X12_wayTo) dX12_wayTo_26 ?_
  refine z_lstore (M := M_X12_wayTo) (lv' := [some (vr 277), some (vi a_0), some (vi b_0), some (vl (x_1 - x_3)), none, some (vl (x_5 - x_7)), none]) dX12_wayTo_27 (Nat.le_of_ble_eq_true rfl) rfl rfl ?_
  have J_9 : YY l E M_X12_wayTo 1 0 0 (pS (some (vl r)) σ) 41 [some (vr 277), some (vi a_0), some (vi b_0), some (vl (x_1 - x_3)), none, some (vl (x_5 - x_7)), none] [vl (if (w64 (x_1 - x_3)) < 0 then (-(x_1 - x_3)) else (x_1 - x_3))] σ 0 0 := by
    have J_10 : YY l E M_X12_wayTo 1 0 0 (pS (some (vl r)) σ) 56 [some (vr 277), some (vi a_0), some (vi b_0), some (vl (x_1 - x_3)), none, some (vl (x_5 - x_7)), none] [vl (if (w64 (x_5 - x_7)) < 0 then (-(x_5 - x_7)) else (x_5 - x_7)), vl (if (w64 (x_1 - x_3)) < 0 then (-(x_1 - x_3)) else (x_1 - x_3))] σ 0 0 := by
      refine z_ladd (M := M_X12_wayTo) dX12_wayTo_56 ?_
      cases H
      exact z_lret (M := M_X12_wayTo) dX12_wayTo_57 rfl (Nat.le_of_ble_eq_true rfl) (Nat.le_of_ble_eq_true rfl) ⟨rfl, rfl⟩
    refine z_lload (M := M_X12_wayTo) dX12_wayTo_41 rfl ?_
    refine z_lconst (M := M_X12_wayTo) (m := 0) dX12_wayTo_43 (by decide +kernel) ?_
    refine z_lcmp (M := M_X12_wayTo) dX12_wayTo_44 ?_
    by_cases h_11 : (w64 (x_5 - x_7)) < 0
    · refine z_lif_ge_f (M := M_X12_wayTo) (tgt := 54) dX12_wayTo_45 (by decide) rfl (by decide +kernel) h_11 ?_
      refine z_lload (M := M_X12_wayTo) dX12_wayTo_48 rfl ?_
      refine z_lneg (M := M_X12_wayTo) dX12_wayTo_50 ?_
      refine z_goto (M := M_X12_wayTo) (tgt := 56) dX12_wayTo_51 (by decide) ?_
      exact z_st (by rw [if_pos (c := (w64 (x_5 - x_7)) < 0) h_11]) J_10
    · refine z_lif_ge_t (M := M_X12_wayTo) (tgt := 54) dX12_wayTo_45 (by decide) rfl (by decide +kernel) (Int.not_lt.mp h_11) ?_
      refine z_lload (M := M_X12_wayTo) dX12_wayTo_54 rfl ?_
      exact z_st (by rw [if_neg (c := (w64 (x_5 - x_7)) < 0) h_11]) J_10
  refine z_lload_n (M := M_X12_wayTo) dX12_wayTo_29 rfl ?_
  refine z_lconst (M := M_X12_wayTo) (m := 0) dX12_wayTo_30 (by decide +kernel) ?_
  refine z_lcmp (M := M_X12_wayTo) dX12_wayTo_31 ?_
  by_cases h_12 : (w64 (x_1 - x_3)) < 0
  · refine z_lif_ge_f (M := M_X12_wayTo) (tgt := 40) dX12_wayTo_32 (by decide) rfl (by decide +kernel) h_12 ?_
    refine z_lload_n (M := M_X12_wayTo) dX12_wayTo_35 rfl ?_
    refine z_lneg (M := M_X12_wayTo) dX12_wayTo_36 ?_
    refine z_goto (M := M_X12_wayTo) (tgt := 41) dX12_wayTo_37 (by decide) ?_
    exact z_st (by rw [if_pos (c := (w64 (x_1 - x_3)) < 0) h_12]) J_9
  · refine z_lif_ge_t (M := M_X12_wayTo) (tgt := 40) dX12_wayTo_32 (by decide) rfl (by decide +kernel) (Int.not_lt.mp h_12) ?_
    refine z_lload_n (M := M_X12_wayTo) dX12_wayTo_40 rfl ?_
    exact z_st (by rw [if_neg (c := (w64 (x_1 - x_3)) < 0) h_12]) J_9
theorem c_X12_hullBehind (hl : l.stackTraces = false) {σ : SG} {a_0 : Int} {nearest_0 : Bool} {r : Int}  (H : fR_hullBehind σ a_0 nearest_0 = some r) : en_S l E M_X12_hullBehind 4 0 0 [vr 277, vi a_0, zv nearest_0] σ (pS (some (vi r)) σ) := by
  unfold fR_hullBehind at H
  refine z_mk (lv := [some (vr 277), some (vi a_0), some (zv nearest_0), none, none, none, none]) m_X12_hullBehind rfl hl (Nat.le_of_ble_eq_true rfl) rfl ?_
  refine z_iconst (M := M_X12_hullBehind) dX12_hullBehind_0 ?_
  refine z_istore_n (M := M_X12_hullBehind) (lv' := [some (vr 277), some (vi a_0), some (zv nearest_0), some (vi (-1)), none, none, none]) dX12_hullBehind_1 (Nat.le_of_ble_eq_true rfl) rfl rfl ?_
  refine z_iconst (M := M_X12_hullBehind) dX12_hullBehind_2 ?_
  refine z_istore (M := M_X12_hullBehind) (lv' := [some (vr 277), some (vi a_0), some (zv nearest_0), some (vi (-1)), some (vi 0), none, none]) dX12_hullBehind_3 (Nat.le_of_ble_eq_true rfl) rfl rfl ?_
  obtain ⟨rl_6, hw_3, hk_4⟩ := bd_e H
  have J_50 : ∀ best_48 k_49, rl_6 = (best_48, k_49) → YY l E M_X12_hullBehind 4 0 0 (pS (some (vi r)) σ) 93 [some (vr 277), some (vi a_0), some (zv nearest_0), some (vi best_48), some (vi k_49), none, none] [] σ 0 0 := by
    intro best_48 k_49 e
    have H := hk_4
    rw [e] at H
    refine z_iload_n (M := M_X12_hullBehind) dX12_hullBehind_93 rfl ?_
    cases H
    exact z_iret (M := M_X12_hullBehind) dX12_hullBehind_94 rfl (Nat.le_of_ble_eq_true rfl) (Nat.le_of_ble_eq_true rfl) ⟨rfl, rfl⟩
  refine whl_go hw_3 (fun (best_1, k_2) => YY l E M_X12_hullBehind 4 0 0 (pS (some (vi r)) σ) 5 [some (vr 277), some (vi a_0), some (zv nearest_0), some (vi best_1), some (vi k_2), none, none] [] σ 0 0) ?_
  rintro ⟨best_1, k_2⟩ o_7 H K_8 K_9
  refine z_iload (M := M_X12_hullBehind) dX12_hullBehind_5 rfl ?_
  refine z_aload_n (M := M_X12_hullBehind) dX12_hullBehind_7 rfl ?_
  refine z_getI (M := M_X12_hullBehind) (ci := 15) (C := RX12) (T := TX12) (Nf := 135) (ty := tyX12) cl15 dX12_hullBehind_8 ly_277 119 (by decide) t_2510 rfl rfl ?_
  rcases if_e H with ⟨h_10, H⟩ | ⟨h_10, H⟩
  · refine z_icmp_ge_f (M := M_X12_hullBehind) (tgt := 93) dX12_hullBehind_11 (by decide) rfl rfl h_10 ?_
    refine z_iload (M := M_X12_hullBehind) dX12_hullBehind_14 rfl ?_
    refine z_iload_n (M := M_X12_hullBehind) dX12_hullBehind_16 rfl ?_
    rcases if_e H with ⟨h_11, H⟩ | ⟨h_11, H⟩
    · refine z_icmp_ne_f (M := M_X12_hullBehind) (tgt := 23) dX12_hullBehind_17 (by decide) rfl rfl h_11 ?_
      refine z_goto (M := M_X12_hullBehind) (tgt := 87) dX12_hullBehind_20 (by decide) ?_
      refine z_iinc (M := M_X12_hullBehind) (lv' := [some (vr 277), some (vi a_0), some (zv nearest_0), some (vi best_1), some (vi (k_2 + 1)), none, none]) dX12_hullBehind_87 rfl (Nat.le_of_ble_eq_true rfl) rfl rfl ?_
      refine z_goto (M := M_X12_hullBehind) (tgt := 5) dX12_hullBehind_90 (by decide) ?_
      exact K_8 _ (Option.some.inj H).symm
    · refine z_icmp_ne_t (M := M_X12_hullBehind) (tgt := 23) dX12_hullBehind_17 (by decide) rfl rfl h_11 ?_
      refine z_iload_n (M := M_X12_hullBehind) dX12_hullBehind_23 rfl ?_
      refine z_iconst (M := M_X12_hullBehind) dX12_hullBehind_24 ?_
      rcases if_e H with ⟨h_13, H⟩ | ⟨h_13, H⟩
      · refine z_icmp_ne_f (M := M_X12_hullBehind) (tgt := 34) dX12_hullBehind_25 (by decide) rfl (by decide +kernel) h_13 ?_
        refine z_iload (M := M_X12_hullBehind) dX12_hullBehind_28 rfl ?_
        refine z_istore_n (M := M_X12_hullBehind) (lv' := [some (vr 277), some (vi a_0), some (zv nearest_0), some (vi k_2), some (vi k_2), none, none]) dX12_hullBehind_30 (Nat.le_of_ble_eq_true rfl) rfl rfl ?_
        refine z_goto (M := M_X12_hullBehind) (tgt := 87) dX12_hullBehind_31 (by decide) ?_
        refine z_iinc (M := M_X12_hullBehind) (lv' := [some (vr 277), some (vi a_0), some (zv nearest_0), some (vi k_2), some (vi (k_2 + 1)), none, none]) dX12_hullBehind_87 rfl (Nat.le_of_ble_eq_true rfl) rfl rfl ?_
        refine z_goto (M := M_X12_hullBehind) (tgt := 5) dX12_hullBehind_90 (by decide) ?_
        exact K_8 _ (Option.some.inj H).symm
      · refine z_icmp_ne_t (M := M_X12_hullBehind) (tgt := 34) dX12_hullBehind_25 (by decide) rfl (by decide +kernel) h_13 ?_
        refine z_aload_n (M := M_X12_hullBehind) dX12_hullBehind_34 rfl ?_
        refine z_iload_n (M := M_X12_hullBehind) dX12_hullBehind_35 rfl ?_
        refine z_iload_n (M := M_X12_hullBehind) dX12_hullBehind_36 rfl ?_
        refine z_iload (M := M_X12_hullBehind) dX12_hullBehind_37 rfl ?_
        obtain ⟨x_16, hc_15, H⟩ := bd_e H
        refine z_callV (M := M_X12_hullBehind) (M' := M_X12_turnOf) (as := [vi a_0, vi best_1, vi k_2]) (rest := []) rfl rfl dX12_hullBehind_39 m_X12_turnOf t_3641 t_3643 s_313 (c_X12_turnOf hl  hc_15) rfl rfl ly_277 rfl (Nat.le_of_ble_eq_true rfl) (Nat.le_of_ble_eq_true rfl) (Nat.le_of_ble_eq_true rfl) (Nat.le_of_ble_eq_true rfl) ?_
        refine z_st (st' := [vi x_16]) rfl ?_
        refine z_istore (M := M_X12_hullBehind) (lv' := [some (vr 277), some (vi a_0), some (zv nearest_0), some (vi best_1), some (vi k_2), some (vi x_16), none]) dX12_hullBehind_42 (Nat.le_of_ble_eq_true rfl) rfl rfl ?_
        obtain ⟨v_43, he_44, hk_45⟩ := bd_e H
        have J_46 : ∀ x_24, v_43 = x_24 → YY l E M_X12_hullBehind 4 0 0 (pS (some (vi r)) σ) 66 [some (vr 277), some (vi a_0), some (zv nearest_0), some (vi best_1), some (vi k_2), some (vi x_16), none] [zv x_24] σ 0 0 := by
          intro x_24 e
          have H := hk_45
          rw [e] at H
          refine z_zstore (M := M_X12_hullBehind) (lv' := [some (vr 277), some (vi a_0), some (zv nearest_0), some (vi best_1), some (vi k_2), some (vi x_16), some (zv x_24)]) dX12_hullBehind_66 (Nat.le_of_ble_eq_true rfl) rfl rfl ?_
          obtain ⟨v_28, he_25, hk_26⟩ := bd_e H
          have J_42 : ∀ best_40, v_28 = best_40 → YY l E M_X12_hullBehind 4 0 0 (pS (some (vi r)) σ) 87 [some (vr 277), some (vi a_0), some (zv nearest_0), some (vi best_40), some (vi k_2), some (vi x_16), some (zv x_24)] [] σ 0 0 := by
            intro best_40 e
            have H := hk_26
            rw [e] at H
            refine z_iinc (M := M_X12_hullBehind) (lv' := [some (vr 277), some (vi a_0), some (zv nearest_0), some (vi best_40), some (vi (k_2 + 1)), some (vi x_16), some (zv x_24)]) dX12_hullBehind_87 rfl (Nat.le_of_ble_eq_true rfl) rfl rfl ?_
            refine z_goto (M := M_X12_hullBehind) (tgt := 5) dX12_hullBehind_90 (by decide) ?_
            refine z_le (lv' := [some (vr 277), some (vi a_0), some (zv nearest_0), some (vi best_40), some (vi (k_2 + 1)), none, none]) ⟨Or.inr rfl, Or.inr rfl, Or.inr rfl, Or.inr rfl, Or.inr rfl, Or.inl rfl, Or.inl rfl, trivial⟩ ?_
            exact K_8 _ (Option.some.inj H).symm
          have H := he_25
          rcases if_e H with ⟨h_31, H⟩ | ⟨h_31, H⟩
          · have J_32 : YY l E M_X12_hullBehind 4 0 0 (pS (some (vi r)) σ) 84 [some (vr 277), some (vi a_0), some (zv nearest_0), some (vi best_1), some (vi k_2), some (vi x_16), some (zv x_24)] [] σ 0 0 := by
              refine z_iload (M := M_X12_hullBehind) dX12_hullBehind_84 rfl ?_
              refine z_istore_n (M := M_X12_hullBehind) (lv' := [some (vr 277), some (vi a_0), some (zv nearest_0), some (vi k_2), some (vi k_2), some (vi x_16), some (zv x_24)]) dX12_hullBehind_86 (Nat.le_of_ble_eq_true rfl) rfl rfl ?_
              exact J_42 _ (Option.some.inj H).symm
            refine z_iload (M := M_X12_hullBehind) dX12_hullBehind_68 rfl ?_
            by_cases h_34 : (w32 x_16) < 0
            · refine z_if_lt_t (M := M_X12_hullBehind) (tgt := 84) dX12_hullBehind_70 (by decide) rfl h_34 ?_
              exact J_32
            · refine z_if_lt_f (M := M_X12_hullBehind) (tgt := 84) dX12_hullBehind_70 (by decide) rfl (Int.not_lt.mp h_34) ?_
              refine z_iload (M := M_X12_hullBehind) dX12_hullBehind_73 rfl ?_
              by_cases h_35 : (w32 x_16) = 0
              · refine z_if_ne_f (M := M_X12_hullBehind) (tgt := 87) dX12_hullBehind_75 (by decide) rfl h_35 ?_
                refine z_zload (M := M_X12_hullBehind) dX12_hullBehind_78 rfl ?_
                refine z_zload_n (M := M_X12_hullBehind) dX12_hullBehind_80 rfl ?_
                by_cases h_36 : x_24 = nearest_0
                · refine z_cne_f (M := M_X12_hullBehind) (tgt := 87) dX12_hullBehind_81 (by decide)  h_36 ?_
                  exact J_32
                · refine z_cne_t (M := M_X12_hullBehind) (tgt := 87) dX12_hullBehind_81 (by decide)  h_36 ?_
                  exact absurd h_31 (fun q => q.elim h_34 (fun q => h_36 q.2))
              · refine z_if_ne_t (M := M_X12_hullBehind) (tgt := 87) dX12_hullBehind_75 (by decide) rfl h_35 ?_
                exact absurd h_31 (fun q => q.elim h_34 (fun q => h_35 q.1))
          · have J_33 : YY l E M_X12_hullBehind 4 0 0 (pS (some (vi r)) σ) 87 [some (vr 277), some (vi a_0), some (zv nearest_0), some (vi best_1), some (vi k_2), some (vi x_16), some (zv x_24)] [] σ 0 0 := by
              exact J_42 _ (Option.some.inj H).symm
            refine z_iload (M := M_X12_hullBehind) dX12_hullBehind_68 rfl ?_
            by_cases h_37 : (w32 x_16) < 0
            · refine z_if_lt_t (M := M_X12_hullBehind) (tgt := 84) dX12_hullBehind_70 (by decide) rfl h_37 ?_
              exact absurd (Or.inl h_37) h_31
            · refine z_if_lt_f (M := M_X12_hullBehind) (tgt := 84) dX12_hullBehind_70 (by decide) rfl (Int.not_lt.mp h_37) ?_
              refine z_iload (M := M_X12_hullBehind) dX12_hullBehind_73 rfl ?_
              by_cases h_38 : (w32 x_16) = 0
              · refine z_if_ne_f (M := M_X12_hullBehind) (tgt := 87) dX12_hullBehind_75 (by decide) rfl h_38 ?_
                refine z_zload (M := M_X12_hullBehind) dX12_hullBehind_78 rfl ?_
                refine z_zload_n (M := M_X12_hullBehind) dX12_hullBehind_80 rfl ?_
                by_cases h_39 : x_24 = nearest_0
                · refine z_cne_f (M := M_X12_hullBehind) (tgt := 87) dX12_hullBehind_81 (by decide)  h_39 ?_
                  exact absurd (Or.inr ⟨h_38, h_39⟩) h_31
                · refine z_cne_t (M := M_X12_hullBehind) (tgt := 87) dX12_hullBehind_81 (by decide)  h_39 ?_
                  exact J_33
              · refine z_if_ne_t (M := M_X12_hullBehind) (tgt := 87) dX12_hullBehind_75 (by decide) rfl h_38 ?_
                exact J_33
        have H := he_44
        refine z_aload_n (M := M_X12_hullBehind) dX12_hullBehind_44 rfl ?_
        refine z_iload_n (M := M_X12_hullBehind) dX12_hullBehind_45 rfl ?_
        refine z_iload (M := M_X12_hullBehind) dX12_hullBehind_46 rfl ?_
        obtain ⟨x_18, hc_17, H⟩ := bd_e H
        refine z_callV (M := M_X12_hullBehind) (M' := M_X12_wayTo) (as := [vi a_0, vi k_2]) (rest := []) rfl rfl dX12_hullBehind_48 m_X12_wayTo t_3645 t_3647 s_314 (c_X12_wayTo hl  hc_17) rfl rfl ly_277 rfl (Nat.le_of_ble_eq_true rfl) (Nat.le_of_ble_eq_true rfl) (Nat.le_of_ble_eq_true rfl) (Nat.le_of_ble_eq_true rfl) ?_
        refine z_st (st' := [vl x_18]) rfl ?_
        refine z_aload_n (M := M_X12_hullBehind) dX12_hullBehind_51 rfl ?_
        refine z_iload_n (M := M_X12_hullBehind) dX12_hullBehind_52 rfl ?_
        refine z_iload_n (M := M_X12_hullBehind) dX12_hullBehind_53 rfl ?_
        obtain ⟨x_20, hc_19, H⟩ := bd_e H
        refine z_callV (M := M_X12_hullBehind) (M' := M_X12_wayTo) (as := [vi a_0, vi best_1]) (rest := [vl x_18]) rfl rfl dX12_hullBehind_54 m_X12_wayTo t_3645 t_3647 s_314 (c_X12_wayTo hl  hc_19) rfl rfl ly_277 rfl (Nat.le_of_ble_eq_true rfl) (Nat.le_of_ble_eq_true rfl) (Nat.le_of_ble_eq_true rfl) (Nat.le_of_ble_eq_true rfl) ?_
        refine z_st (st' := [vl x_20, vl x_18]) rfl ?_
        refine z_lcmp (M := M_X12_hullBehind) dX12_hullBehind_57 ?_
        rcases if_e H with ⟨h_21, H⟩ | ⟨h_21, H⟩
        · refine z_lif_ge_f (M := M_X12_hullBehind) (tgt := 65) dX12_hullBehind_58 (by decide) rfl rfl h_21 ?_
          refine z_zconst (M := M_X12_hullBehind) (b := true) dX12_hullBehind_61 rfl ?_
          refine z_goto (M := M_X12_hullBehind) (tgt := 66) dX12_hullBehind_62 (by decide) ?_
          exact J_46 _ (Option.some.inj H).symm
        · refine z_lif_ge_t (M := M_X12_hullBehind) (tgt := 65) dX12_hullBehind_58 (by decide) rfl rfl (Int.not_lt.mp h_21) ?_
          refine z_zconst (M := M_X12_hullBehind) (b := false) dX12_hullBehind_65 rfl ?_
          exact J_46 _ (Option.some.inj H).symm
  · refine z_icmp_ge_t (M := M_X12_hullBehind) (tgt := 93) dX12_hullBehind_11 (by decide) rfl rfl (Int.not_lt.mp h_10) ?_
    exact J_50 _ _ (K_9 _ (Option.some.inj H).symm).symm
theorem c_X12_wraps (hl : l.stackTraces = false) {σ : SG} {σ' : SG}  (H : fR_wraps σ = some σ') : en_S l E M_X12_wraps 5 0 0 [vr 277] σ (pS (none) σ') := by
  unfold fR_wraps at H
  refine z_mk (lv := [some (vr 277), none, none, none]) m_X12_wraps rfl hl (Nat.le_of_ble_eq_true rfl) rfl ?_
  refine z_aload_n (M := M_X12_wraps) dX12_wraps_0 rfl ?_
  refine z_iconst (M := M_X12_wraps) dX12_wraps_1 ?_
  obtain ⟨σ_1, σ_1_e, H⟩ := wf_e H
  refine z_putI (M := M_X12_wraps) (ci := 15) (C := RX12) (T := TX12) (Nf := 135) (ty := tyX12) cl15 dX12_wraps_2 ly_277 121 (by decide) t_2512 rfl rfl rfl rfl σ_1_e ?_
  refine z_aload_n (M := M_X12_wraps) dX12_wraps_5 rfl ?_
  refine z_getI (M := M_X12_wraps) (ci := 15) (C := RX12) (T := TX12) (Nf := 135) (ty := tyX12) cl15 dX12_wraps_6 ly_277 119 (by decide) t_2510 rfl rfl ?_
  rcases if_e H with ⟨h_2, H⟩ | ⟨h_2, H⟩
  · refine z_if_ne_f (M := M_X12_wraps) (tgt := 13) dX12_wraps_9 (by decide) rfl h_2 ?_
    cases H
    exact z_vret (M := M_X12_wraps) dX12_wraps_12 rfl (Nat.le_of_ble_eq_true rfl) (Nat.le_of_ble_eq_true rfl) ⟨rfl, rfl⟩
  · refine z_if_ne_t (M := M_X12_wraps) (tgt := 13) dX12_wraps_9 (by decide) rfl h_2 ?_
    refine z_aload_n (M := M_X12_wraps) dX12_wraps_13 rfl ?_
    obtain ⟨x_4, hc_3, H⟩ := bd_e H
    refine z_callV (M := M_X12_wraps) (M' := M_X12_leastSpot) (as := []) (rest := []) rfl rfl dX12_wraps_14 m_X12_leastSpot t_3629 t_3631 s_310 (c_X12_leastSpot hl  hc_3) rfl rfl ly_277 rfl (Nat.le_of_ble_eq_true rfl) (Nat.le_of_ble_eq_true rfl) (Nat.le_of_ble_eq_true rfl) (Nat.le_of_ble_eq_true rfl) ?_
    refine z_st (st' := [vi x_4]) rfl ?_
    refine z_istore_n (M := M_X12_wraps) (lv' := [some (vr 277), some (vi x_4), none, none]) dX12_wraps_17 (Nat.le_of_ble_eq_true rfl) rfl rfl ?_
    refine z_iload_n (M := M_X12_wraps) dX12_wraps_18 rfl ?_
    refine z_istore_n (M := M_X12_wraps) (lv' := [some (vr 277), some (vi x_4), some (vi x_4), none]) dX12_wraps_19 (Nat.le_of_ble_eq_true rfl) rfl rfl ?_
    refine z_iconst (M := M_X12_wraps) dX12_wraps_20 ?_
    refine z_istore_n (M := M_X12_wraps) (lv' := [some (vr 277), some (vi x_4), some (vi x_4), some (vi 0)]) dX12_wraps_21 (Nat.le_of_ble_eq_true rfl) rfl rfl ?_
    obtain ⟨rl_11, hw_8, hk_9, hk_10⟩ := bx_e H
    have J_37 : ∀ here_34 round_35 σ_36, rl_11 = (.inl (here_34, round_35, σ_36)) → YY l E M_X12_wraps 5 0 0 (pS (none) σ') 81 [some (vr 277), some (vi x_4), some (vi here_34), some (vi round_35)] [] σ_36 0 0 := by
      intro here_34 round_35 σ_36 e
      have H := hk_9 _ e
      cases H
      exact z_vret (M := M_X12_wraps) dX12_wraps_81 rfl (Nat.le_of_ble_eq_true rfl) (Nat.le_of_ble_eq_true rfl) ⟨rfl, rfl⟩
    refine whl_go hw_8 (fun (here_5, round_6, σ_7) => YY l E M_X12_wraps 5 0 0 (pS (none) σ') 22 [some (vr 277), some (vi x_4), some (vi here_5), some (vi round_6)] [] σ_7 0 0) ?_
    rintro ⟨here_5, round_6, σ_7⟩ o_12 H K_13 K_14
    refine z_iload_n (M := M_X12_wraps) dX12_wraps_22 rfl ?_
    refine z_aload_n (M := M_X12_wraps) dX12_wraps_23 rfl ?_
    refine z_getI (M := M_X12_wraps) (ci := 15) (C := RX12) (T := TX12) (Nf := 135) (ty := tyX12) cl15 dX12_wraps_24 ly_277 119 (by decide) t_2510 rfl rfl ?_
    rcases if_e H with ⟨h_15, H⟩ | ⟨h_15, H⟩
    · refine z_icmp_ge_f (M := M_X12_wraps) (tgt := 81) dX12_wraps_27 (by decide) rfl rfl h_15 ?_
      refine z_aload_n (M := M_X12_wraps) dX12_wraps_30 rfl ?_
      refine z_getR (M := M_X12_wraps) (ci := 15) (C := RX12) (T := TX12) (Nf := 135) (ty := tyX12) cl15 dX12_wraps_31 ly_277 120 (by decide) t_2511 rfl ?_
      refine z_aload_n (M := M_X12_wraps) dX12_wraps_34 rfl ?_
      refine z_getI (M := M_X12_wraps) (ci := 15) (C := RX12) (T := TX12) (Nf := 135) (ty := tyX12) cl15 dX12_wraps_35 ly_277 121 (by decide) t_2512 rfl rfl ?_
      refine z_iload_n (M := M_X12_wraps) dX12_wraps_38 rfl ?_
      obtain ⟨σ_16, σ_16_e, hi_17, H⟩ := wa_e H
      refine z_iast (M := M_X12_wraps) dX12_wraps_39 ly_348 rfl rfl rfl hi_17 σ_16_e ?_
      refine z_aload_n (M := M_X12_wraps) dX12_wraps_40 rfl ?_
      refine z_dup (M := M_X12_wraps) dX12_wraps_41 rfl ?_
      refine z_getI (M := M_X12_wraps) (ci := 15) (C := RX12) (T := TX12) (Nf := 135) (ty := tyX12) cl15 dX12_wraps_42 ly_277 121 (by decide) t_2512 rfl rfl ?_
      refine z_iconst (M := M_X12_wraps) dX12_wraps_45 ?_
      refine z_iadd (M := M_X12_wraps) dX12_wraps_46 ?_
      obtain ⟨σ_18, σ_18_e, H⟩ := wf_e H
      refine z_putI (M := M_X12_wraps) (ci := 15) (C := RX12) (T := TX12) (Nf := 135) (ty := tyX12) cl15 dX12_wraps_47 ly_277 121 (by decide) t_2512 rfl rfl rfl rfl σ_18_e ?_
      obtain ⟨v_29, he_30, hk_31⟩ := bd_e H
      have J_32 : ∀ x_26, v_29 = x_26 → YY l E M_X12_wraps 5 0 0 (pS (none) σ') 68 [some (vr 277), some (vi x_4), some (vi here_5), some (vi round_6)] [vi x_26] σ_18 0 0 := by
        intro x_26 e
        have H := hk_31
        rw [e] at H
        refine z_istore_n (M := M_X12_wraps) (lv' := [some (vr 277), some (vi x_4), some (vi x_26), some (vi round_6)]) dX12_wraps_68 (Nat.le_of_ble_eq_true rfl) rfl rfl ?_
        refine z_iload_n (M := M_X12_wraps) dX12_wraps_69 rfl ?_
        refine z_iload_n (M := M_X12_wraps) dX12_wraps_70 rfl ?_
        rcases if_e H with ⟨h_27, H⟩ | ⟨h_27, H⟩
        · refine z_icmp_ne_f (M := M_X12_wraps) (tgt := 75) dX12_wraps_71 (by decide) rfl rfl h_27 ?_
          have H := congrArg some (hk_10 _ ((K_14 _ (Option.some.inj H).symm).symm))
          cases H
          exact z_vret (M := M_X12_wraps) dX12_wraps_74 rfl (Nat.le_of_ble_eq_true rfl) (Nat.le_of_ble_eq_true rfl) ⟨rfl, rfl⟩
        · refine z_icmp_ne_t (M := M_X12_wraps) (tgt := 75) dX12_wraps_71 (by decide) rfl rfl h_27 ?_
          refine z_iinc (M := M_X12_wraps) (lv' := [some (vr 277), some (vi x_4), some (vi x_26), some (vi (round_6 + 1))]) dX12_wraps_75 rfl (Nat.le_of_ble_eq_true rfl) rfl rfl ?_
          refine z_goto (M := M_X12_wraps) (tgt := 22) dX12_wraps_78 (by decide) ?_
          exact K_13 _ (Option.some.inj H).symm
      have H := he_30
      refine z_aload_n (M := M_X12_wraps) dX12_wraps_50 rfl ?_
      refine z_getI (M := M_X12_wraps) (ci := 15) (C := RX12) (T := TX12) (Nf := 135) (ty := tyX12) cl15 dX12_wraps_51 ly_277 119 (by decide) t_2510 rfl rfl ?_
      refine z_iconst (M := M_X12_wraps) dX12_wraps_54 ?_
      rcases if_e H with ⟨h_21, H⟩ | ⟨h_21, H⟩
      · refine z_icmp_le_f (M := M_X12_wraps) (tgt := 67) dX12_wraps_55 (by decide) rfl (by decide +kernel) h_21 ?_
        refine z_aload_n (M := M_X12_wraps) dX12_wraps_58 rfl ?_
        refine z_iload_n (M := M_X12_wraps) dX12_wraps_59 rfl ?_
        refine z_zconst (M := M_X12_wraps) (b := false) dX12_wraps_60 rfl ?_
        obtain ⟨x_23, hc_22, H⟩ := bd_e H
        refine z_callV (M := M_X12_wraps) (M' := M_X12_hullBehind) (as := [vi here_5, zv false]) (rest := []) rfl rfl dX12_wraps_61 m_X12_hullBehind t_3637 t_3639 s_312 (c_X12_hullBehind hl  hc_22) rfl rfl ly_277 rfl (Nat.le_of_ble_eq_true rfl) (Nat.le_of_ble_eq_true rfl) (Nat.le_of_ble_eq_true rfl) (Nat.le_of_ble_eq_true rfl) ?_
        refine z_st (st' := [vi x_23]) rfl ?_
        refine z_goto (M := M_X12_wraps) (tgt := 68) dX12_wraps_64 (by decide) ?_
        exact J_32 _ (Option.some.inj H).symm
      · refine z_icmp_le_t (M := M_X12_wraps) (tgt := 67) dX12_wraps_55 (by decide) rfl (by decide +kernel) (Int.not_lt.mp h_21) ?_
        refine z_iload_n (M := M_X12_wraps) dX12_wraps_67 rfl ?_
        exact J_32 _ (Option.some.inj H).symm
    · refine z_icmp_ge_t (M := M_X12_wraps) (tgt := 81) dX12_wraps_27 (by decide) rfl rfl (Int.not_lt.mp h_15) ?_
      exact J_37 _ _ _ (K_14 _ (Option.some.inj H).symm).symm
theorem c_X12_hull (hl : l.stackTraces = false) {σ : SG} {slot_0 : Int} {to_0 : Int} {r : Int} {σ' : SG}  (H : fR_hull σ slot_0 to_0 = some (r, σ')) : en_S l E M_X12_hull 6 0 0 [vr 277, vi slot_0, vi to_0] σ (pS (some (vi r)) σ') := by
  unfold fR_hull at H
  refine z_mk (lv := [some (vr 277), some (vi slot_0), some (vi to_0), none]) m_X12_hull rfl hl (Nat.le_of_ble_eq_true rfl) rfl ?_
  refine z_aload_n (M := M_X12_hull) dX12_hull_0 rfl ?_
  refine z_iconst (M := M_X12_hull) dX12_hull_1 ?_
  obtain ⟨σ_1, σ_1_e, H⟩ := wf_e H
  refine z_putI (M := M_X12_hull) (ci := 15) (C := RX12) (T := TX12) (Nf := 135) (ty := tyX12) cl15 dX12_hull_2 ly_277 0 (by decide) t_2391 rfl rfl rfl rfl σ_1_e ?_
  refine z_aload_n (M := M_X12_hull) dX12_hull_5 rfl ?_
  have J_43 : YY l E M_X12_hull 6 0 0 (pS (some (vi r)) σ') 25 [some (vr 277), some (vi slot_0), some (vi to_0), none] [zv (decide ((¬ ((fR_isSlot slot_0) = true)) ∨ (¬ ((fR_isSlot to_0) = true)))), vr 277] σ_1 0 0 := by
    refine z_iconst (M := M_X12_hull) dX12_hull_25 ?_
    obtain ⟨⟨x_46, σ_45⟩, hc_44, H⟩ := bd_e H
    refine z_callV (M := M_X12_hull) (M' := M_X12_fails) (as := [zv (decide ((¬ ((fR_isSlot slot_0) = true)) ∨ (¬ ((fR_isSlot to_0) = true)))), vi 1]) (rest := []) rfl rfl dX12_hull_26 m_X12_fails t_2805 t_2807 s_157 (c_X12_fails hl  hc_44) rfl rfl ly_277 rfl (Nat.le_of_ble_eq_true rfl) (Nat.le_of_ble_eq_true rfl) (Nat.le_of_ble_eq_true rfl) (Nat.le_of_ble_eq_true rfl) ?_
    refine z_st (st' := [zv x_46]) rfl ?_
    rcases if_e H with ⟨h_47, H⟩ | ⟨h_47, H⟩
    · refine z_zne_t (M := M_X12_hull) (tgt := 74) dX12_hull_29 (by decide) h_47 ?_
      refine z_iconst (M := M_X12_hull) dX12_hull_74 ?_
      cases H
      exact z_iret (M := M_X12_hull) dX12_hull_75 rfl (Nat.le_of_ble_eq_true rfl) (Nat.le_of_ble_eq_true rfl) ⟨rfl, rfl⟩
    · refine z_zne_f (M := M_X12_hull) (tgt := 74) dX12_hull_29 (by decide) h_47 ?_
      refine z_aload_n (M := M_X12_hull) dX12_hull_32 rfl ?_
      obtain ⟨v_147, he_148, hk_149⟩ := bd_e H
      have J_150 : ∀ x_53, v_147 = x_53 → YY l E M_X12_hull 6 0 0 (pS (some (vi r)) σ') 46 [some (vr 277), some (vi slot_0), some (vi to_0), none] [zv x_53, vr 277] σ_45 0 0 := by
        intro x_53 e
        have H := hk_149
        rw [e] at H
        refine z_iconst (M := M_X12_hull) dX12_hull_46 ?_
        obtain ⟨⟨x_56, σ_55⟩, hc_54, H⟩ := bd_e H
        refine z_callV (M := M_X12_hull) (M' := M_X12_fails) (as := [zv x_53, vi 2]) (rest := []) rfl rfl dX12_hull_47 m_X12_fails t_2805 t_2807 s_157 (c_X12_fails hl  hc_54) rfl rfl ly_277 rfl (Nat.le_of_ble_eq_true rfl) (Nat.le_of_ble_eq_true rfl) (Nat.le_of_ble_eq_true rfl) (Nat.le_of_ble_eq_true rfl) ?_
        refine z_st (st' := [zv x_56]) rfl ?_
        rcases if_e H with ⟨h_57, H⟩ | ⟨h_57, H⟩
        · refine z_zne_t (M := M_X12_hull) (tgt := 74) dX12_hull_50 (by decide) h_57 ?_
          refine z_iconst (M := M_X12_hull) dX12_hull_74 ?_
          cases H
          exact z_iret (M := M_X12_hull) dX12_hull_75 rfl (Nat.le_of_ble_eq_true rfl) (Nat.le_of_ble_eq_true rfl) ⟨rfl, rfl⟩
        · refine z_zne_f (M := M_X12_hull) (tgt := 74) dX12_hull_50 (by decide) h_57 ?_
          refine z_aload_n (M := M_X12_hull) dX12_hull_53 rfl ?_
          obtain ⟨v_143, he_144, hk_145⟩ := bd_e H
          have J_146 : ∀ x_64 σ_65, v_143 = (x_64, σ_65) → YY l E M_X12_hull 6 0 0 (pS (some (vi r)) σ') 67 [some (vr 277), some (vi slot_0), some (vi to_0), none] [zv x_64, vr 277] σ_65 0 0 := by
            intro x_64 σ_65 e
            have H := hk_145
            rw [e] at H
            refine z_iconst (M := M_X12_hull) dX12_hull_67 ?_
            obtain ⟨⟨x_68, σ_67⟩, hc_66, H⟩ := bd_e H
            refine z_callV (M := M_X12_hull) (M' := M_X12_fails) (as := [zv x_64, vi 3]) (rest := []) rfl rfl dX12_hull_68 m_X12_fails t_2805 t_2807 s_157 (c_X12_fails hl  hc_66) rfl rfl ly_277 rfl (Nat.le_of_ble_eq_true rfl) (Nat.le_of_ble_eq_true rfl) (Nat.le_of_ble_eq_true rfl) (Nat.le_of_ble_eq_true rfl) ?_
            refine z_st (st' := [zv x_68]) rfl ?_
            rcases if_e H with ⟨h_69, H⟩ | ⟨h_69, H⟩
            · refine z_zeq_f (M := M_X12_hull) (tgt := 76) dX12_hull_71 (by decide) h_69 ?_
              refine z_iconst (M := M_X12_hull) dX12_hull_74 ?_
              cases H
              exact z_iret (M := M_X12_hull) dX12_hull_75 rfl (Nat.le_of_ble_eq_true rfl) (Nat.le_of_ble_eq_true rfl) ⟨rfl, rfl⟩
            · refine z_zeq_t (M := M_X12_hull) (tgt := 76) dX12_hull_71 (by decide) h_69 ?_
              refine z_aload_n (M := M_X12_hull) dX12_hull_76 rfl ?_
              obtain ⟨σ_71, hc_70, H⟩ := bd_e H
              refine z_callV (M := M_X12_hull) (M' := M_X12_wraps) (as := []) (rest := []) rfl rfl dX12_hull_77 m_X12_wraps t_3625 t_3627 s_309 (c_X12_wraps hl  hc_70) rfl rfl ly_277 rfl (Nat.le_of_ble_eq_true rfl) (Nat.le_of_ble_eq_true rfl) (Nat.le_of_ble_eq_true rfl) (Nat.le_of_ble_eq_true rfl) ?_
              refine z_st (st' := []) rfl ?_
              refine z_aload_n (M := M_X12_hull) dX12_hull_80 rfl ?_
              refine z_bipush (M := M_X12_hull) dX12_hull_81 (by decide +kernel) ?_
              obtain ⟨σ_73, hc_72, H⟩ := bd_e H
              refine z_callV (M := M_X12_hull) (M' := M_X12_clear) (as := [vi 32]) (rest := []) rfl rfl dX12_hull_83 m_X12_clear t_2848 t_2850 s_161 (c_X12_clear hl  hc_72) rfl rfl ly_277 rfl (Nat.le_of_ble_eq_true rfl) (Nat.le_of_ble_eq_true rfl) (Nat.le_of_ble_eq_true rfl) (Nat.le_of_ble_eq_true rfl) ?_
              refine z_st (st' := []) rfl ?_
              refine z_aload_n (M := M_X12_hull) dX12_hull_86 rfl ?_
              have J_76 : YY l E M_X12_hull 6 0 0 (pS (some (vi r)) σ') 115 [some (vr 277), some (vi slot_0), some (vi to_0), none] [vi (if (w32 (σ_73 kR_hullMany 0)) = 0 then 7 else (if 2 < (w32 (σ_73 kR_hullMany 0)) then 3 else (σ_73 kR_hullMany 0))), vr 277] σ_73 0 0 := by
                obtain ⟨σ_78, hc_77, H⟩ := bd_e H
                refine z_callV (M := M_X12_hull) (M' := M_X12_tell) (as := [vi (if (w32 (σ_73 kR_hullMany 0)) = 0 then 7 else (if 2 < (w32 (σ_73 kR_hullMany 0)) then 3 else (σ_73 kR_hullMany 0)))]) (rest := []) rfl rfl dX12_hull_115 m_X12_tell t_2902 t_2904 s_170 (c_X12_tell hl  hc_77) rfl rfl ly_277 rfl (Nat.le_of_ble_eq_true rfl) (Nat.le_of_ble_eq_true rfl) (Nat.le_of_ble_eq_true rfl) (Nat.le_of_ble_eq_true rfl) ?_
                refine z_st (st' := []) rfl ?_
                refine z_aload_n (M := M_X12_hull) dX12_hull_118 rfl ?_
                have J_79 : YY l E M_X12_hull 6 0 0 (pS (some (vi r)) σ') 135 [some (vr 277), some (vi slot_0), some (vi to_0), none] [vi (if 2 < (w32 (σ_78 kR_hullMany 0)) then 1 else (σ_78 kR_hullMany 0)), vr 277] σ_78 0 0 := by
                  obtain ⟨σ_81, hc_80, H⟩ := bd_e H
                  refine z_callV (M := M_X12_hull) (M' := M_X12_tell) (as := [vi (if 2 < (w32 (σ_78 kR_hullMany 0)) then 1 else (σ_78 kR_hullMany 0))]) (rest := []) rfl rfl dX12_hull_135 m_X12_tell t_2902 t_2904 s_170 (c_X12_tell hl  hc_80) rfl rfl ly_277 rfl (Nat.le_of_ble_eq_true rfl) (Nat.le_of_ble_eq_true rfl) (Nat.le_of_ble_eq_true rfl) (Nat.le_of_ble_eq_true rfl) ?_
                  refine z_st (st' := []) rfl ?_
                  obtain ⟨v_85, he_82, hk_83⟩ := bd_e H
                  have J_138 : ∀ σ_91, v_85 = σ_91 → YY l E M_X12_hull 6 0 0 (pS (some (vi r)) σ') 156 [some (vr 277), some (vi slot_0), some (vi to_0), none] [] σ_91 0 0 := by
                    intro σ_91 e
                    have H := hk_83
                    rw [e] at H
                    refine z_iconst (M := M_X12_hull) dX12_hull_156 ?_
                    refine z_istore_n (M := M_X12_hull) (lv' := [some (vr 277), some (vi slot_0), some (vi to_0), some (vi 0)]) dX12_hull_157 (Nat.le_of_ble_eq_true rfl) rfl rfl ?_
                    obtain ⟨rl_97, hw_94, hk_95⟩ := bd_e H
                    have J_137 : ∀ k_114 σ_115, rl_97 = (k_114, σ_115) → YY l E M_X12_hull 6 0 0 (pS (some (vi r)) σ') 198 [some (vr 277), some (vi slot_0), some (vi to_0), some (vi k_114)] [] σ_115 0 0 := by
                      intro k_114 σ_115 e
                      have H := hk_95
                      rw [e] at H
                      obtain ⟨v_119, he_116, hk_117⟩ := bd_e H
                      have J_136 : ∀ σ_133, v_119 = σ_133 → YY l E M_X12_hull 6 0 0 (pS (some (vi r)) σ') 232 [some (vr 277), some (vi slot_0), some (vi to_0), none] [] σ_133 0 0 := by
                        intro σ_133 e
                        have H := hk_117
                        rw [e] at H
                        refine z_aload_n (M := M_X12_hull) dX12_hull_232 rfl ?_
                        refine z_bipush (M := M_X12_hull) dX12_hull_233 (by decide +kernel) ?_
                        refine z_iload_n (M := M_X12_hull) dX12_hull_235 rfl ?_
                        obtain ⟨σ_135, hc_134, H⟩ := bd_e H
                        refine z_callV (M := M_X12_hull) (M' := M_X12_move) (as := [vi 32, vi to_0]) (rest := []) rfl rfl dX12_hull_236 m_X12_move t_3021 t_3023 s_196 (c_X12_move hl  hc_134) rfl rfl ly_277 rfl (Nat.le_of_ble_eq_true rfl) (Nat.le_of_ble_eq_true rfl) (Nat.le_of_ble_eq_true rfl) (Nat.le_of_ble_eq_true rfl) ?_
                        refine z_st (st' := []) rfl ?_
                        refine z_aload_n (M := M_X12_hull) dX12_hull_239 rfl ?_
                        refine z_getI (M := M_X12_hull) (ci := 15) (C := RX12) (T := TX12) (Nf := 135) (ty := tyX12) cl15 dX12_hull_240 ly_277 121 (by decide) t_2512 rfl rfl ?_
                        cases H
                        exact z_iret (M := M_X12_hull) dX12_hull_243 rfl (Nat.le_of_ble_eq_true rfl) (Nat.le_of_ble_eq_true rfl) ⟨rfl, rfl⟩
                      have H := he_116
                      refine z_aload_n (M := M_X12_hull) dX12_hull_198 rfl ?_
                      refine z_getI (M := M_X12_hull) (ci := 15) (C := RX12) (T := TX12) (Nf := 135) (ty := tyX12) cl15 dX12_hull_199 ly_277 121 (by decide) t_2512 rfl rfl ?_
                      refine z_iconst (M := M_X12_hull) dX12_hull_202 ?_
                      rcases if_e H with ⟨h_120, H⟩ | ⟨h_120, H⟩
                      · refine z_icmp_le_f (M := M_X12_hull) (tgt := 232) dX12_hull_203 (by decide) rfl (by decide +kernel) h_120 ?_
                        refine z_aload_n (M := M_X12_hull) dX12_hull_206 rfl ?_
                        refine z_aload_n (M := M_X12_hull) dX12_hull_207 rfl ?_
                        refine z_getR (M := M_X12_hull) (ci := 15) (C := RX12) (T := TX12) (Nf := 135) (ty := tyX12) cl15 dX12_hull_208 ly_277 117 (by decide) t_2508 rfl ?_
                        refine z_aload_n (M := M_X12_hull) dX12_hull_211 rfl ?_
                        refine z_getR (M := M_X12_hull) (ci := 15) (C := RX12) (T := TX12) (Nf := 135) (ty := tyX12) cl15 dX12_hull_212 ly_277 120 (by decide) t_2511 rfl ?_
                        refine z_iconst (M := M_X12_hull) dX12_hull_215 ?_
                        obtain ⟨x_121, x_121_e, hi_122, H⟩ := rd_e H
                        refine z_iald (M := M_X12_hull) dX12_hull_216 ly_348 rfl (by decide +kernel) rfl hi_122 x_121_e ?_
                        obtain ⟨x_123, x_123_e, hi_124, H⟩ := rd_e H
                        refine z_lald (M := M_X12_hull) dX12_hull_217 ly_346 rfl rfl rfl hi_124 x_123_e ?_
                        refine z_aload_n (M := M_X12_hull) dX12_hull_218 rfl ?_
                        refine z_getR (M := M_X12_hull) (ci := 15) (C := RX12) (T := TX12) (Nf := 135) (ty := tyX12) cl15 dX12_hull_219 ly_277 118 (by decide) t_2509 rfl ?_
                        refine z_aload_n (M := M_X12_hull) dX12_hull_222 rfl ?_
                        refine z_getR (M := M_X12_hull) (ci := 15) (C := RX12) (T := TX12) (Nf := 135) (ty := tyX12) cl15 dX12_hull_223 ly_277 120 (by decide) t_2511 rfl ?_
                        refine z_iconst (M := M_X12_hull) dX12_hull_226 ?_
                        obtain ⟨x_125, x_125_e, hi_126, H⟩ := rd_e H
                        refine z_iald (M := M_X12_hull) dX12_hull_227 ly_348 rfl (by decide +kernel) rfl hi_126 x_125_e ?_
                        obtain ⟨x_127, x_127_e, hi_128, H⟩ := rd_e H
                        refine z_lald (M := M_X12_hull) dX12_hull_228 ly_347 rfl rfl rfl hi_128 x_127_e ?_
                        obtain ⟨σ_130, hc_129, H⟩ := bd_e H
                        refine z_callV (M := M_X12_hull) (M' := M_X12_dot) (as := [vl x_123, vl x_127]) (rest := []) rfl rfl dX12_hull_229 m_X12_dot t_2938 t_2940 s_178 (c_X12_dot hl  hc_129) rfl rfl ly_277 rfl (Nat.le_of_ble_eq_true rfl) (Nat.le_of_ble_eq_true rfl) (Nat.le_of_ble_eq_true rfl) (Nat.le_of_ble_eq_true rfl) ?_
                        refine z_st (st' := []) rfl ?_
                        refine z_le (lv' := [some (vr 277), some (vi slot_0), some (vi to_0), none]) ⟨Or.inr rfl, Or.inr rfl, Or.inr rfl, Or.inl rfl, trivial⟩ ?_
                        exact J_136 _ (Option.some.inj H).symm
                      · refine z_icmp_le_t (M := M_X12_hull) (tgt := 232) dX12_hull_203 (by decide) rfl (by decide +kernel) (Int.not_lt.mp h_120) ?_
                        refine z_le (lv' := [some (vr 277), some (vi slot_0), some (vi to_0), none]) ⟨Or.inr rfl, Or.inr rfl, Or.inr rfl, Or.inl rfl, trivial⟩ ?_
                        exact J_136 _ (Option.some.inj H).symm
                    refine whl_go hw_94 (fun (k_92, σ_93) => YY l E M_X12_hull 6 0 0 (pS (some (vi r)) σ') 158 [some (vr 277), some (vi slot_0), some (vi to_0), some (vi k_92)] [] σ_93 0 0) ?_
                    rintro ⟨k_92, σ_93⟩ o_98 H K_99 K_100
                    refine z_iload_n (M := M_X12_hull) dX12_hull_158 rfl ?_
                    refine z_aload_n (M := M_X12_hull) dX12_hull_159 rfl ?_
                    refine z_getI (M := M_X12_hull) (ci := 15) (C := RX12) (T := TX12) (Nf := 135) (ty := tyX12) cl15 dX12_hull_160 ly_277 121 (by decide) t_2512 rfl rfl ?_
                    rcases if_e H with ⟨h_101, H⟩ | ⟨h_101, H⟩
                    · refine z_icmp_ge_f (M := M_X12_hull) (tgt := 198) dX12_hull_163 (by decide) rfl rfl h_101 ?_
                      refine z_aload_n (M := M_X12_hull) dX12_hull_166 rfl ?_
                      refine z_aload_n (M := M_X12_hull) dX12_hull_167 rfl ?_
                      refine z_getR (M := M_X12_hull) (ci := 15) (C := RX12) (T := TX12) (Nf := 135) (ty := tyX12) cl15 dX12_hull_168 ly_277 117 (by decide) t_2508 rfl ?_
                      refine z_aload_n (M := M_X12_hull) dX12_hull_171 rfl ?_
                      refine z_getR (M := M_X12_hull) (ci := 15) (C := RX12) (T := TX12) (Nf := 135) (ty := tyX12) cl15 dX12_hull_172 ly_277 120 (by decide) t_2511 rfl ?_
                      refine z_iload_n (M := M_X12_hull) dX12_hull_175 rfl ?_
                      obtain ⟨x_102, x_102_e, hi_103, H⟩ := rd_e H
                      refine z_iald (M := M_X12_hull) dX12_hull_176 ly_348 rfl rfl rfl hi_103 x_102_e ?_
                      obtain ⟨x_104, x_104_e, hi_105, H⟩ := rd_e H
                      refine z_lald (M := M_X12_hull) dX12_hull_177 ly_346 rfl rfl rfl hi_105 x_104_e ?_
                      refine z_aload_n (M := M_X12_hull) dX12_hull_178 rfl ?_
                      refine z_getR (M := M_X12_hull) (ci := 15) (C := RX12) (T := TX12) (Nf := 135) (ty := tyX12) cl15 dX12_hull_179 ly_277 118 (by decide) t_2509 rfl ?_
                      refine z_aload_n (M := M_X12_hull) dX12_hull_182 rfl ?_
                      refine z_getR (M := M_X12_hull) (ci := 15) (C := RX12) (T := TX12) (Nf := 135) (ty := tyX12) cl15 dX12_hull_183 ly_277 120 (by decide) t_2511 rfl ?_
                      refine z_iload_n (M := M_X12_hull) dX12_hull_186 rfl ?_
                      obtain ⟨x_106, x_106_e, hi_107, H⟩ := rd_e H
                      refine z_iald (M := M_X12_hull) dX12_hull_187 ly_348 rfl rfl rfl hi_107 x_106_e ?_
                      obtain ⟨x_108, x_108_e, hi_109, H⟩ := rd_e H
                      refine z_lald (M := M_X12_hull) dX12_hull_188 ly_347 rfl rfl rfl hi_109 x_108_e ?_
                      obtain ⟨σ_111, hc_110, H⟩ := bd_e H
                      refine z_callV (M := M_X12_hull) (M' := M_X12_dot) (as := [vl x_104, vl x_108]) (rest := []) rfl rfl dX12_hull_189 m_X12_dot t_2938 t_2940 s_178 (c_X12_dot hl  hc_110) rfl rfl ly_277 rfl (Nat.le_of_ble_eq_true rfl) (Nat.le_of_ble_eq_true rfl) (Nat.le_of_ble_eq_true rfl) (Nat.le_of_ble_eq_true rfl) ?_
                      refine z_st (st' := []) rfl ?_
                      refine z_iinc (M := M_X12_hull) (lv' := [some (vr 277), some (vi slot_0), some (vi to_0), some (vi (k_92 + 1))]) dX12_hull_192 rfl (Nat.le_of_ble_eq_true rfl) rfl rfl ?_
                      refine z_goto (M := M_X12_hull) (tgt := 158) dX12_hull_195 (by decide) ?_
                      exact K_99 _ (Option.some.inj H).symm
                    · refine z_icmp_ge_t (M := M_X12_hull) (tgt := 198) dX12_hull_163 (by decide) rfl rfl (Int.not_lt.mp h_101) ?_
                      exact J_137 _ _ (K_100 _ (Option.some.inj H).symm).symm
                  have H := he_82
                  refine z_aload_n (M := M_X12_hull) dX12_hull_138 rfl ?_
                  refine z_getI (M := M_X12_hull) (ci := 15) (C := RX12) (T := TX12) (Nf := 135) (ty := tyX12) cl15 dX12_hull_139 ly_277 121 (by decide) t_2512 rfl rfl ?_
                  refine z_iconst (M := M_X12_hull) dX12_hull_142 ?_
                  rcases if_e H with ⟨h_86, H⟩ | ⟨h_86, H⟩
                  · refine z_icmp_le_f (M := M_X12_hull) (tgt := 156) dX12_hull_143 (by decide) rfl (by decide +kernel) h_86 ?_
                    refine z_aload_n (M := M_X12_hull) dX12_hull_146 rfl ?_
                    refine z_aload_n (M := M_X12_hull) dX12_hull_147 rfl ?_
                    refine z_getI (M := M_X12_hull) (ci := 15) (C := RX12) (T := TX12) (Nf := 135) (ty := tyX12) cl15 dX12_hull_148 ly_277 121 (by decide) t_2512 rfl rfl ?_
                    refine z_iconst (M := M_X12_hull) dX12_hull_151 ?_
                    refine z_iadd (M := M_X12_hull) dX12_hull_152 ?_
                    obtain ⟨σ_88, hc_87, H⟩ := bd_e H
                    refine z_callV (M := M_X12_hull) (M' := M_X12_tell) (as := [vi ((σ_81 kR_hullMany 0) + 1)]) (rest := []) rfl rfl dX12_hull_153 m_X12_tell t_2902 t_2904 s_170 (c_X12_tell hl  hc_87) rfl rfl ly_277 rfl (Nat.le_of_ble_eq_true rfl) (Nat.le_of_ble_eq_true rfl) (Nat.le_of_ble_eq_true rfl) (Nat.le_of_ble_eq_true rfl) ?_
                    refine z_st (st' := []) rfl ?_
                    exact J_138 _ (Option.some.inj H).symm
                  · refine z_icmp_le_t (M := M_X12_hull) (tgt := 156) dX12_hull_143 (by decide) rfl (by decide +kernel) (Int.not_lt.mp h_86) ?_
                    exact J_138 _ (Option.some.inj H).symm
                refine z_aload_n (M := M_X12_hull) dX12_hull_119 rfl ?_
                refine z_getI (M := M_X12_hull) (ci := 15) (C := RX12) (T := TX12) (Nf := 135) (ty := tyX12) cl15 dX12_hull_120 ly_277 121 (by decide) t_2512 rfl rfl ?_
                refine z_iconst (M := M_X12_hull) dX12_hull_123 ?_
                by_cases h_139 : 2 < (w32 (σ_78 kR_hullMany 0))
                · refine z_icmp_le_f (M := M_X12_hull) (tgt := 131) dX12_hull_124 (by decide) rfl (by decide +kernel) h_139 ?_
                  refine z_iconst (M := M_X12_hull) dX12_hull_127 ?_
                  refine z_goto (M := M_X12_hull) (tgt := 135) dX12_hull_128 (by decide) ?_
                  exact z_st (by rw [if_pos (c := 2 < (w32 (σ_78 kR_hullMany 0))) h_139]) J_79
                · refine z_icmp_le_t (M := M_X12_hull) (tgt := 131) dX12_hull_124 (by decide) rfl (by decide +kernel) (Int.not_lt.mp h_139) ?_
                  refine z_aload_n (M := M_X12_hull) dX12_hull_131 rfl ?_
                  refine z_getI (M := M_X12_hull) (ci := 15) (C := RX12) (T := TX12) (Nf := 135) (ty := tyX12) cl15 dX12_hull_132 ly_277 121 (by decide) t_2512 rfl rfl ?_
                  exact z_st (by rw [if_neg (c := 2 < (w32 (σ_78 kR_hullMany 0))) h_139]) J_79
              refine z_aload_n (M := M_X12_hull) dX12_hull_87 rfl ?_
              refine z_getI (M := M_X12_hull) (ci := 15) (C := RX12) (T := TX12) (Nf := 135) (ty := tyX12) cl15 dX12_hull_88 ly_277 121 (by decide) t_2512 rfl rfl ?_
              by_cases h_140 : (w32 (σ_73 kR_hullMany 0)) = 0
              · refine z_if_ne_f (M := M_X12_hull) (tgt := 99) dX12_hull_91 (by decide) rfl h_140 ?_
                refine z_bipush (M := M_X12_hull) dX12_hull_94 (by decide +kernel) ?_
                refine z_goto (M := M_X12_hull) (tgt := 115) dX12_hull_96 (by decide) ?_
                exact z_st (by rw [if_pos (c := (w32 (σ_73 kR_hullMany 0)) = 0) h_140]) J_76
              · refine z_if_ne_t (M := M_X12_hull) (tgt := 99) dX12_hull_91 (by decide) rfl h_140 ?_
                have J_141 : YY l E M_X12_hull 6 0 0 (pS (some (vi r)) σ') 115 [some (vr 277), some (vi slot_0), some (vi to_0), none] [vi (if 2 < (w32 (σ_73 kR_hullMany 0)) then 3 else (σ_73 kR_hullMany 0)), vr 277] σ_73 0 0 := by
                  exact z_st (by rw [if_neg (c := (w32 (σ_73 kR_hullMany 0)) = 0) h_140]) J_76
                refine z_aload_n (M := M_X12_hull) dX12_hull_99 rfl ?_
                refine z_getI (M := M_X12_hull) (ci := 15) (C := RX12) (T := TX12) (Nf := 135) (ty := tyX12) cl15 dX12_hull_100 ly_277 121 (by decide) t_2512 rfl rfl ?_
                refine z_iconst (M := M_X12_hull) dX12_hull_103 ?_
                by_cases h_142 : 2 < (w32 (σ_73 kR_hullMany 0))
                · refine z_icmp_le_f (M := M_X12_hull) (tgt := 111) dX12_hull_104 (by decide) rfl (by decide +kernel) h_142 ?_
                  refine z_iconst (M := M_X12_hull) dX12_hull_107 ?_
                  refine z_goto (M := M_X12_hull) (tgt := 115) dX12_hull_108 (by decide) ?_
                  exact z_st (by rw [if_pos (c := 2 < (w32 (σ_73 kR_hullMany 0))) h_142]) J_141
                · refine z_icmp_le_t (M := M_X12_hull) (tgt := 111) dX12_hull_104 (by decide) rfl (by decide +kernel) (Int.not_lt.mp h_142) ?_
                  refine z_aload_n (M := M_X12_hull) dX12_hull_111 rfl ?_
                  refine z_getI (M := M_X12_hull) (ci := 15) (C := RX12) (T := TX12) (Nf := 135) (ty := tyX12) cl15 dX12_hull_112 ly_277 121 (by decide) t_2512 rfl rfl ?_
                  exact z_st (by rw [if_neg (c := 2 < (w32 (σ_73 kR_hullMany 0))) h_142]) J_141
          have H := he_144
          refine z_aload_n (M := M_X12_hull) dX12_hull_54 rfl ?_
          refine z_iload_n (M := M_X12_hull) dX12_hull_55 rfl ?_
          obtain ⟨⟨x_60, σ_59⟩, hc_58, H⟩ := bd_e H
          refine z_callV (M := M_X12_hull) (M' := M_X12_gatherSpots) (as := [vi slot_0]) (rest := [vr 277]) rfl rfl dX12_hull_56 m_X12_gatherSpots t_3621 t_3623 s_308 (c_X12_gatherSpots hl  hc_58) rfl rfl ly_277 rfl (Nat.le_of_ble_eq_true rfl) (Nat.le_of_ble_eq_true rfl) (Nat.le_of_ble_eq_true rfl) (Nat.le_of_ble_eq_true rfl) ?_
          refine z_st (st' := [zv x_60, vr 277]) rfl ?_
          rcases if_e H with ⟨h_61, H⟩ | ⟨h_61, H⟩
          · refine z_zne_t (M := M_X12_hull) (tgt := 66) dX12_hull_59 (by decide) h_61 ?_
            refine z_zconst (M := M_X12_hull) (b := false) dX12_hull_66 rfl ?_
            exact J_146 _ _ (Option.some.inj H).symm
          · refine z_zne_f (M := M_X12_hull) (tgt := 66) dX12_hull_59 (by decide) h_61 ?_
            refine z_zconst (M := M_X12_hull) (b := true) dX12_hull_62 rfl ?_
            refine z_goto (M := M_X12_hull) (tgt := 67) dX12_hull_63 (by decide) ?_
            exact J_146 _ _ (Option.some.inj H).symm
      have H := he_148
      refine z_aload_n (M := M_X12_hull) dX12_hull_33 rfl ?_
      refine z_iload_n (M := M_X12_hull) dX12_hull_34 rfl ?_
      obtain ⟨x_49, hc_48, H⟩ := bd_e H
      refine z_callV (M := M_X12_hull) (M' := M_X12_has) (as := [vi slot_0]) (rest := [vr 277]) rfl rfl dX12_hull_35 m_X12_has t_3033 t_3035 s_197 (c_X12_has hl  hc_48) rfl rfl ly_277 rfl (Nat.le_of_ble_eq_true rfl) (Nat.le_of_ble_eq_true rfl) (Nat.le_of_ble_eq_true rfl) (Nat.le_of_ble_eq_true rfl) ?_
      refine z_st (st' := [zv x_49, vr 277]) rfl ?_
      rcases if_e H with ⟨h_50, H⟩ | ⟨h_50, H⟩
      · refine z_zne_t (M := M_X12_hull) (tgt := 45) dX12_hull_38 (by decide) h_50 ?_
        refine z_zconst (M := M_X12_hull) (b := false) dX12_hull_45 rfl ?_
        exact J_150 _ (Option.some.inj H).symm
      · refine z_zne_f (M := M_X12_hull) (tgt := 45) dX12_hull_38 (by decide) h_50 ?_
        refine z_zconst (M := M_X12_hull) (b := true) dX12_hull_41 rfl ?_
        refine z_goto (M := M_X12_hull) (tgt := 46) dX12_hull_42 (by decide) ?_
        exact J_150 _ (Option.some.inj H).symm
  refine z_iload_n (M := M_X12_hull) dX12_hull_6 rfl ?_
  refine z_callS (M := M_X12_hull) (M' := M_X12_isSlot) (as := [vi slot_0]) (rest := [vr 277]) rfl rfl dX12_hull_7 m_X12_isSlot t_2841 t_2842 (c_X12_isSlot hl  rfl) rfl rfl (Nat.le_of_ble_eq_true rfl) (Nat.le_of_ble_eq_true rfl) (Nat.le_of_ble_eq_true rfl) (Nat.le_of_ble_eq_true rfl) ?_
  refine z_st (st' := [zv (fR_isSlot slot_0), vr 277]) rfl ?_
  by_cases h_151 : (fR_isSlot slot_0) = true
  · refine z_zeq_f (M := M_X12_hull) (tgt := 20) dX12_hull_10 (by decide) h_151 ?_
    refine z_iload_n (M := M_X12_hull) dX12_hull_13 rfl ?_
    refine z_callS (M := M_X12_hull) (M' := M_X12_isSlot) (as := [vi to_0]) (rest := [vr 277]) rfl rfl dX12_hull_14 m_X12_isSlot t_2841 t_2842 (c_X12_isSlot hl  rfl) rfl rfl (Nat.le_of_ble_eq_true rfl) (Nat.le_of_ble_eq_true rfl) (Nat.le_of_ble_eq_true rfl) (Nat.le_of_ble_eq_true rfl) ?_
    refine z_st (st' := [zv (fR_isSlot to_0), vr 277]) rfl ?_
    by_cases h_152 : (fR_isSlot to_0) = true
    · refine z_zne_t (M := M_X12_hull) (tgt := 24) dX12_hull_17 (by decide) h_152 ?_
      refine z_iconst (M := M_X12_hull) dX12_hull_24 ?_
      exact z_st (by rw [zv_f (p := (¬ ((fR_isSlot slot_0) = true)) ∨ (¬ ((fR_isSlot to_0) = true))) (fun q => q.elim (not_not_intro h_151) (not_not_intro h_152))]) J_43
    · refine z_zne_f (M := M_X12_hull) (tgt := 24) dX12_hull_17 (by decide) h_152 ?_
      refine z_iconst (M := M_X12_hull) dX12_hull_20 ?_
      refine z_goto (M := M_X12_hull) (tgt := 25) dX12_hull_21 (by decide) ?_
      exact z_st (by rw [zv_t (p := (¬ ((fR_isSlot slot_0) = true)) ∨ (¬ ((fR_isSlot to_0) = true))) (Or.inr h_152)]) J_43
  · refine z_zeq_t (M := M_X12_hull) (tgt := 20) dX12_hull_10 (by decide) h_151 ?_
    refine z_iconst (M := M_X12_hull) dX12_hull_20 ?_
    refine z_goto (M := M_X12_hull) (tgt := 25) dX12_hull_21 (by decide) ?_
    exact z_st (by rw [zv_t (p := (¬ ((fR_isSlot slot_0) = true)) ∨ (¬ ((fR_isSlot to_0) = true))) (Or.inl h_151)]) J_43
end LFBB
