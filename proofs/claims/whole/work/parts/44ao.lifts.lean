section LFAO
variable {l : Launch} {E : EE}
theorem c_X12_shapeOfBytes (hl : l.stackTraces = false) {σ : SG} {wanted_0 : Int} {r : Bool} {σ' : SG}  (H : fR_shapeOfBytes σ wanted_0 = some (r, σ')) : en_S l E M_X12_shapeOfBytes 6 0 0 [vr 277, vi wanted_0] σ (pS (some (zv r)) σ') := by
  unfold fR_shapeOfBytes at H
  refine z_mk (lv := [some (vr 277), some (vi wanted_0), none, none, none, none, none, none, none, none, none]) m_X12_shapeOfBytes rfl hl (Nat.le_of_ble_eq_true rfl) rfl ?_
  refine z_aload_n (M := M_X12_shapeOfBytes) dX12_shapeOfBytes_0 rfl ?_
  refine z_iconst (M := M_X12_shapeOfBytes) dX12_shapeOfBytes_1 ?_
  refine z_callV (M := M_X12_shapeOfBytes) (M' := M_X12_there) (as := [vi 1]) (rest := []) rfl rfl dX12_shapeOfBytes_2 m_X12_there t_2974 t_2976 s_187 (c_X12_there hl  rfl) rfl rfl ly_277 rfl (Nat.le_of_ble_eq_true rfl) (Nat.le_of_ble_eq_true rfl) (Nat.le_of_ble_eq_true rfl) (Nat.le_of_ble_eq_true rfl) ?_
  refine z_st (st' := [zv (fR_there σ 1)]) rfl ?_
  rcases if_e H with ⟨h_1, H⟩ | ⟨h_1, H⟩
  · refine z_zne_t (M := M_X12_shapeOfBytes) (tgt := 18) dX12_shapeOfBytes_5 (by decide) h_1 ?_
    obtain ⟨v_250, he_251, hk_252⟩ := bd_e H
    have J_253 : v_250 = true → YY l E M_X12_shapeOfBytes 6 0 0 (pS (some (zv r)) σ') 43 [some (vr 277), some (vi wanted_0), none, none, none, none, none, none, none, none, none] [] σ 0 0 := by
      intro e
      have H := hk_252
      rw [e] at H
      rcases if_e H with ⟨_, H⟩ | ⟨q, H⟩
      · refine z_aload_n (M := M_X12_shapeOfBytes) dX12_shapeOfBytes_43 rfl ?_
        refine z_iconst (M := M_X12_shapeOfBytes) dX12_shapeOfBytes_44 ?_
        refine z_aload_n (M := M_X12_shapeOfBytes) dX12_shapeOfBytes_45 rfl ?_
        refine z_getI (M := M_X12_shapeOfBytes) (ci := 15) (C := RX12) (T := TX12) (Nf := 135) (ty := tyX12) cl15 dX12_shapeOfBytes_46 ly_277 17 (by decide) t_2408 rfl rfl ?_
        obtain ⟨⟨x_136, σ_135⟩, hc_134, H⟩ := bd_e H
        refine z_callV (M := M_X12_shapeOfBytes) (M' := M_X12_wrong) (as := [vi 1, vi (σ kR_at 0)]) (rest := []) rfl rfl dX12_shapeOfBytes_49 m_X12_wrong t_2874 t_2876 s_166 (c_X12_wrong hl  hc_134) rfl rfl ly_277 rfl (Nat.le_of_ble_eq_true rfl) (Nat.le_of_ble_eq_true rfl) (Nat.le_of_ble_eq_true rfl) (Nat.le_of_ble_eq_true rfl) ?_
        refine z_st (st' := [zv x_136]) rfl ?_
        cases H
        exact z_zret (M := M_X12_shapeOfBytes) dX12_shapeOfBytes_52 rfl (Nat.le_of_ble_eq_true rfl) (Nat.le_of_ble_eq_true rfl) ⟨rfl, rfl⟩
      · exact absurd rfl q
    have J_254 : v_250 = false → YY l E M_X12_shapeOfBytes 6 0 0 (pS (some (zv r)) σ') 53 [some (vr 277), some (vi wanted_0), none, none, none, none, none, none, none, none, none] [] σ 0 0 := by
      intro e
      have H := hk_252
      rw [e] at H
      rcases if_e H with ⟨q, H⟩ | ⟨_, H⟩
      · exact nomatch q
      · refine z_aload_n (M := M_X12_shapeOfBytes) dX12_shapeOfBytes_53 rfl ?_
        obtain ⟨v_246, he_247, hk_248⟩ := bd_e H
        have J_249 : ∀ x_142, v_246 = x_142 → YY l E M_X12_shapeOfBytes 6 0 0 (pS (some (zv r)) σ') 71 [some (vr 277), some (vi wanted_0), none, none, none, none, none, none, none, none, none] [zv x_142, vr 277] σ 0 0 := by
          intro x_142 e
          have H := hk_248
          rw [e] at H
          obtain ⟨σ_143, σ_143_e, H⟩ := wf_e H
          refine z_putZ (M := M_X12_shapeOfBytes) (ci := 15) (C := RX12) (T := TX12) (Nf := 135) (ty := tyX12) cl15 dX12_shapeOfBytes_71 ly_277 26 (by decide) t_2417 rfl rfl rfl rfl σ_143_e ?_
          refine z_aload_n (M := M_X12_shapeOfBytes) dX12_shapeOfBytes_74 rfl ?_
          refine z_dup (M := M_X12_shapeOfBytes) dX12_shapeOfBytes_75 rfl ?_
          refine z_getI (M := M_X12_shapeOfBytes) (ci := 15) (C := RX12) (T := TX12) (Nf := 135) (ty := tyX12) cl15 dX12_shapeOfBytes_76 ly_277 17 (by decide) t_2408 rfl rfl ?_
          refine z_iconst (M := M_X12_shapeOfBytes) dX12_shapeOfBytes_79 ?_
          refine z_iadd (M := M_X12_shapeOfBytes) dX12_shapeOfBytes_80 ?_
          obtain ⟨σ_144, σ_144_e, H⟩ := wf_e H
          refine z_putI (M := M_X12_shapeOfBytes) (ci := 15) (C := RX12) (T := TX12) (Nf := 135) (ty := tyX12) cl15 dX12_shapeOfBytes_81 ly_277 17 (by decide) t_2408 rfl rfl rfl rfl σ_144_e ?_
          refine z_aload_n (M := M_X12_shapeOfBytes) dX12_shapeOfBytes_84 rfl ?_
          refine z_iconst (M := M_X12_shapeOfBytes) dX12_shapeOfBytes_85 ?_
          refine z_callV (M := M_X12_shapeOfBytes) (M' := M_X12_there) (as := [vi 4]) (rest := []) rfl rfl dX12_shapeOfBytes_86 m_X12_there t_2974 t_2976 s_187 (c_X12_there hl  rfl) rfl rfl ly_277 rfl (Nat.le_of_ble_eq_true rfl) (Nat.le_of_ble_eq_true rfl) (Nat.le_of_ble_eq_true rfl) (Nat.le_of_ble_eq_true rfl) ?_
          refine z_st (st' := [zv (fR_there σ_144 4)]) rfl ?_
          rcases if_e H with ⟨h_145, H⟩ | ⟨h_145, H⟩
          · refine z_zne_t (M := M_X12_shapeOfBytes) (tgt := 102) dX12_shapeOfBytes_89 (by decide) h_145 ?_
            refine z_aload_n (M := M_X12_shapeOfBytes) dX12_shapeOfBytes_102 rfl ?_
            refine z_aload_n (M := M_X12_shapeOfBytes) dX12_shapeOfBytes_103 rfl ?_
            refine z_getI (M := M_X12_shapeOfBytes) (ci := 15) (C := RX12) (T := TX12) (Nf := 135) (ty := tyX12) cl15 dX12_shapeOfBytes_104 ly_277 17 (by decide) t_2408 rfl rfl ?_
            refine z_iconst (M := M_X12_shapeOfBytes) dX12_shapeOfBytes_107 ?_
            obtain ⟨x_147, hc_146, H⟩ := bd_e H
            refine z_callV (M := M_X12_shapeOfBytes) (M' := M_X12_whole) (as := [vi (σ_144 kR_at 0), vi 4]) (rest := []) rfl rfl dX12_shapeOfBytes_108 m_X12_whole t_2978 t_2980 s_188 (c_X12_whole hl  hc_146) rfl rfl ly_277 rfl (Nat.le_of_ble_eq_true rfl) (Nat.le_of_ble_eq_true rfl) (Nat.le_of_ble_eq_true rfl) (Nat.le_of_ble_eq_true rfl) ?_
            refine z_st (st' := [vl x_147]) rfl ?_
            refine z_lstore_n (M := M_X12_shapeOfBytes) (lv' := [some (vr 277), some (vi wanted_0), some (vl x_147), none, none, none, none, none, none, none, none]) dX12_shapeOfBytes_111 (Nat.le_of_ble_eq_true rfl) rfl rfl ?_
            refine z_lload_n (M := M_X12_shapeOfBytes) dX12_shapeOfBytes_112 rfl ?_
            refine z_ldc2 (M := M_X12_shapeOfBytes) (n := 536870911) dX12_shapeOfBytes_113 t_2983 (by decide +kernel) ?_
            refine z_land (M := M_X12_shapeOfBytes) dX12_shapeOfBytes_116 ?_
            refine z_lstore (M := M_X12_shapeOfBytes) (lv' := [some (vr 277), some (vi wanted_0), some (vl x_147), none, some (vl (q_lan x_147 536870911)), none, none, none, none, none, none]) dX12_shapeOfBytes_117 (Nat.le_of_ble_eq_true rfl) rfl rfl ?_
            refine z_lload (M := M_X12_shapeOfBytes) dX12_shapeOfBytes_119 rfl ?_
            refine z_ldc2 (M := M_X12_shapeOfBytes) (n := 1000) dX12_shapeOfBytes_121 t_2984 (by decide +kernel) ?_
            refine z_lrem (M := M_X12_shapeOfBytes) dX12_shapeOfBytes_124 (by decide +kernel) ?_
            refine z_l2i (M := M_X12_shapeOfBytes) dX12_shapeOfBytes_125 ?_
            refine z_istore (M := M_X12_shapeOfBytes) (lv' := [some (vr 277), some (vi wanted_0), some (vl x_147), none, some (vl (q_lan x_147 536870911)), none, some (vi (q_lrm (q_lan x_147 536870911) 1000)), none, none, none, none]) dX12_shapeOfBytes_126 (Nat.le_of_ble_eq_true rfl) rfl rfl ?_
            have J_148 : YY l E M_X12_shapeOfBytes 6 0 0 (pS (some (zv r)) σ') 165 [some (vr 277), some (vi wanted_0), some (vl x_147), none, some (vl (q_lan x_147 536870911)), none, some (vi (q_lrm (q_lan x_147 536870911) 1000)), none, none, none, none] [zv (decide ((((w64 (q_lan x_147 536870911)) < 4000) ∧ ((fR_in (w32 (q_lrm (q_lan x_147 536870911) 1000)) 1 7) = true)) ∧ (((w32 wanted_0) = 0) ∨ ((w32 (q_lrm (q_lan x_147 536870911) 1000)) = (w32 wanted_0)))))] σ_144 0 0 := by
              obtain ⟨x_149, x_149_e, H⟩ := lt_e H
              refine z_st (congrArg (fun z => zv z :: []) x_149_e) ?_
              refine z_zstore (M := M_X12_shapeOfBytes) (lv' := [some (vr 277), some (vi wanted_0), some (vl x_147), none, some (vl (q_lan x_147 536870911)), none, some (vi (q_lrm (q_lan x_147 536870911) 1000)), some (zv x_149), none, none, none]) dX12_shapeOfBytes_165 (Nat.le_of_ble_eq_true rfl) rfl rfl ?_
              refine z_zload (M := M_X12_shapeOfBytes) dX12_shapeOfBytes_167 rfl ?_
              rcases if_e H with ⟨h_150, H⟩ | ⟨h_150, H⟩
              · refine z_zne_t (M := M_X12_shapeOfBytes) (tgt := 182) dX12_shapeOfBytes_169 (by decide) h_150 ?_
                rcases if_e H with ⟨h_229, H⟩ | ⟨h_229, H⟩
                · have J_230 : YY l E M_X12_shapeOfBytes 6 0 0 (pS (some (zv r)) σ') 200 [some (vr 277), some (vi wanted_0), some (vl x_147), none, some (vl (q_lan x_147 536870911)), none, some (vi (q_lrm (q_lan x_147 536870911) 1000)), some (zv x_149), none, none, none] [] σ_144 0 0 := by
                    refine z_aload_n (M := M_X12_shapeOfBytes) dX12_shapeOfBytes_200 rfl ?_
                    refine z_bipush (M := M_X12_shapeOfBytes) dX12_shapeOfBytes_201 (by decide +kernel) ?_
                    refine z_aload_n (M := M_X12_shapeOfBytes) dX12_shapeOfBytes_203 rfl ?_
                    refine z_getI (M := M_X12_shapeOfBytes) (ci := 15) (C := RX12) (T := TX12) (Nf := 135) (ty := tyX12) cl15 dX12_shapeOfBytes_204 ly_277 17 (by decide) t_2408 rfl rfl ?_
                    obtain ⟨⟨x_153, σ_152⟩, hc_151, H⟩ := bd_e H
                    refine z_callV (M := M_X12_shapeOfBytes) (M' := M_X12_wrong) (as := [vi 9, vi (σ_144 kR_at 0)]) (rest := []) rfl rfl dX12_shapeOfBytes_207 m_X12_wrong t_2874 t_2876 s_166 (c_X12_wrong hl  hc_151) rfl rfl ly_277 rfl (Nat.le_of_ble_eq_true rfl) (Nat.le_of_ble_eq_true rfl) (Nat.le_of_ble_eq_true rfl) (Nat.le_of_ble_eq_true rfl) ?_
                    refine z_st (st' := [zv x_153]) rfl ?_
                    cases H
                    exact z_zret (M := M_X12_shapeOfBytes) dX12_shapeOfBytes_210 rfl (Nat.le_of_ble_eq_true rfl) (Nat.le_of_ble_eq_true rfl) ⟨rfl, rfl⟩
                  refine z_lload_n (M := M_X12_shapeOfBytes) dX12_shapeOfBytes_182 rfl ?_
                  refine z_bipush (M := M_X12_shapeOfBytes) dX12_shapeOfBytes_183 (by decide +kernel) ?_
                  refine z_lshr (M := M_X12_shapeOfBytes) dX12_shapeOfBytes_185 ?_
                  refine z_lconst (M := M_X12_shapeOfBytes) (m := 0) dX12_shapeOfBytes_186 (by decide +kernel) ?_
                  refine z_lcmp (M := M_X12_shapeOfBytes) dX12_shapeOfBytes_187 ?_
                  by_cases h_232 : ¬ (w64 (q_lsr x_147 30)) = 0
                  · refine z_lif_ne_t (M := M_X12_shapeOfBytes) (tgt := 200) dX12_shapeOfBytes_188 (by decide) rfl (by decide +kernel) h_232 ?_
                    exact J_230
                  · refine z_lif_ne_f (M := M_X12_shapeOfBytes) (tgt := 200) dX12_shapeOfBytes_188 (by decide) rfl (by decide +kernel) (Decidable.not_not.mp h_232) ?_
                    refine z_lload (M := M_X12_shapeOfBytes) dX12_shapeOfBytes_191 rfl ?_
                    refine z_ldc2 (M := M_X12_shapeOfBytes) (n := 1000) dX12_shapeOfBytes_193 t_2984 (by decide +kernel) ?_
                    refine z_lcmp (M := M_X12_shapeOfBytes) dX12_shapeOfBytes_196 ?_
                    by_cases h_233 : 1000 ≤ (w64 (q_lan x_147 536870911))
                    · refine z_lif_lt_f (M := M_X12_shapeOfBytes) (tgt := 211) dX12_shapeOfBytes_197 (by decide) rfl (by decide +kernel) h_233 ?_
                      exact J_230
                    · refine z_lif_lt_t (M := M_X12_shapeOfBytes) (tgt := 211) dX12_shapeOfBytes_197 (by decide) rfl (by decide +kernel) (Int.not_le.mp h_233) ?_
                      exact absurd h_229 (fun q => q.elim h_232 h_233)
                · have J_231 : YY l E M_X12_shapeOfBytes 6 0 0 (pS (some (zv r)) σ') 211 [some (vr 277), some (vi wanted_0), some (vl x_147), none, some (vl (q_lan x_147 536870911)), none, some (vi (q_lrm (q_lan x_147 536870911) 1000)), some (zv x_149), none, none, none] [] σ_144 0 0 := by
                    rcases if_e H with ⟨h_222, H⟩ | ⟨h_222, H⟩
                    · have J_223 : YY l E M_X12_shapeOfBytes 6 0 0 (pS (some (zv r)) σ') 227 [some (vr 277), some (vi wanted_0), some (vl x_147), none, some (vl (q_lan x_147 536870911)), none, some (vi (q_lrm (q_lan x_147 536870911) 1000)), some (zv x_149), none, none, none] [] σ_144 0 0 := by
                        refine z_aload_n (M := M_X12_shapeOfBytes) dX12_shapeOfBytes_227 rfl ?_
                        refine z_bipush (M := M_X12_shapeOfBytes) dX12_shapeOfBytes_228 (by decide +kernel) ?_
                        refine z_aload_n (M := M_X12_shapeOfBytes) dX12_shapeOfBytes_230 rfl ?_
                        refine z_getI (M := M_X12_shapeOfBytes) (ci := 15) (C := RX12) (T := TX12) (Nf := 135) (ty := tyX12) cl15 dX12_shapeOfBytes_231 ly_277 17 (by decide) t_2408 rfl rfl ?_
                        obtain ⟨⟨x_156, σ_155⟩, hc_154, H⟩ := bd_e H
                        refine z_callV (M := M_X12_shapeOfBytes) (M' := M_X12_wrong) (as := [vi 6, vi (σ_144 kR_at 0)]) (rest := []) rfl rfl dX12_shapeOfBytes_234 m_X12_wrong t_2874 t_2876 s_166 (c_X12_wrong hl  hc_154) rfl rfl ly_277 rfl (Nat.le_of_ble_eq_true rfl) (Nat.le_of_ble_eq_true rfl) (Nat.le_of_ble_eq_true rfl) (Nat.le_of_ble_eq_true rfl) ?_
                        refine z_st (st' := [zv x_156]) rfl ?_
                        cases H
                        exact z_zret (M := M_X12_shapeOfBytes) dX12_shapeOfBytes_237 rfl (Nat.le_of_ble_eq_true rfl) (Nat.le_of_ble_eq_true rfl) ⟨rfl, rfl⟩
                      refine z_iload (M := M_X12_shapeOfBytes) dX12_shapeOfBytes_211 rfl ?_
                      refine z_bipush (M := M_X12_shapeOfBytes) dX12_shapeOfBytes_213 (by decide +kernel) ?_
                      by_cases h_225 : (w32 (q_lrm (q_lan x_147 536870911) 1000)) = 7
                      · refine z_icmp_ne_f (M := M_X12_shapeOfBytes) (tgt := 238) dX12_shapeOfBytes_215 (by decide) rfl (by decide +kernel) h_225 ?_
                        refine z_aload_n (M := M_X12_shapeOfBytes) dX12_shapeOfBytes_218 rfl ?_
                        refine z_getI (M := M_X12_shapeOfBytes) (ci := 15) (C := RX12) (T := TX12) (Nf := 135) (ty := tyX12) cl15 dX12_shapeOfBytes_219 ly_277 20 (by decide) t_2411 rfl rfl ?_
                        refine z_bipush (M := M_X12_shapeOfBytes) dX12_shapeOfBytes_222 (by decide +kernel) ?_
                        by_cases h_226 : (w32 (σ_144 kR_open 0)) = 50
                        · refine z_icmp_ne_f (M := M_X12_shapeOfBytes) (tgt := 238) dX12_shapeOfBytes_224 (by decide) rfl (by decide +kernel) h_226 ?_
                          exact J_223
                        · refine z_icmp_ne_t (M := M_X12_shapeOfBytes) (tgt := 238) dX12_shapeOfBytes_224 (by decide) rfl (by decide +kernel) h_226 ?_
                          exact absurd h_222 (fun q => h_226 q.2)
                      · refine z_icmp_ne_t (M := M_X12_shapeOfBytes) (tgt := 238) dX12_shapeOfBytes_215 (by decide) rfl (by decide +kernel) h_225 ?_
                        exact absurd h_222 (fun q => h_225 q.1)
                    · have J_224 : YY l E M_X12_shapeOfBytes 6 0 0 (pS (some (zv r)) σ') 238 [some (vr 277), some (vi wanted_0), some (vl x_147), none, some (vl (q_lan x_147 536870911)), none, some (vi (q_lrm (q_lan x_147 536870911) 1000)), some (zv x_149), none, none, none] [] σ_144 0 0 := by
                        refine z_aload_n (M := M_X12_shapeOfBytes) dX12_shapeOfBytes_238 rfl ?_
                        refine z_dup (M := M_X12_shapeOfBytes) dX12_shapeOfBytes_239 rfl ?_
                        refine z_getI (M := M_X12_shapeOfBytes) (ci := 15) (C := RX12) (T := TX12) (Nf := 135) (ty := tyX12) cl15 dX12_shapeOfBytes_240 ly_277 17 (by decide) t_2408 rfl rfl ?_
                        refine z_iconst (M := M_X12_shapeOfBytes) dX12_shapeOfBytes_243 ?_
                        refine z_iadd (M := M_X12_shapeOfBytes) dX12_shapeOfBytes_244 ?_
                        obtain ⟨σ_157, σ_157_e, H⟩ := wf_e H
                        refine z_putI (M := M_X12_shapeOfBytes) (ci := 15) (C := RX12) (T := TX12) (Nf := 135) (ty := tyX12) cl15 dX12_shapeOfBytes_245 ly_277 17 (by decide) t_2408 rfl rfl rfl rfl σ_157_e ?_
                        obtain ⟨v_161, he_158, hk_159, hk_160⟩ := bx_e H
                        have J_221 : ∀ σ_170, v_161 = (.inl σ_170) → YY l E M_X12_shapeOfBytes 6 0 0 (pS (some (zv r)) σ') 287 [some (vr 277), some (vi wanted_0), some (vl x_147), none, some (vl (q_lan x_147 536870911)), none, some (vi (q_lrm (q_lan x_147 536870911) 1000)), some (zv x_149), none, none, none] [] σ_170 0 0 := by
                          intro σ_170 e
                          have H := hk_159 _ e
                          refine z_aload_n (M := M_X12_shapeOfBytes) dX12_shapeOfBytes_287 rfl ?_
                          refine z_getR (M := M_X12_shapeOfBytes) (ci := 15) (C := RX12) (T := TX12) (Nf := 135) (ty := tyX12) cl15 dX12_shapeOfBytes_288 ly_277 9 (by decide) t_2400 rfl ?_
                          refine z_bipush (M := M_X12_shapeOfBytes) dX12_shapeOfBytes_291 (by decide +kernel) ?_
                          obtain ⟨x_171, x_171_e, hi_172, H⟩ := rd_e H
                          refine z_iald (M := M_X12_shapeOfBytes) dX12_shapeOfBytes_293 ly_280 rfl (by decide +kernel) rfl hi_172 x_171_e ?_
                          refine z_iconst (M := M_X12_shapeOfBytes) dX12_shapeOfBytes_294 ?_
                          refine z_iadd (M := M_X12_shapeOfBytes) dX12_shapeOfBytes_295 ?_
                          refine z_sipush (M := M_X12_shapeOfBytes) dX12_shapeOfBytes_296 (by decide +kernel) ?_
                          rcases if_e H with ⟨h_173, H⟩ | ⟨h_173, H⟩
                          · refine z_icmp_le_f (M := M_X12_shapeOfBytes) (tgt := 313) dX12_shapeOfBytes_299 (by decide) rfl (by decide +kernel) h_173 ?_
                            refine z_aload_n (M := M_X12_shapeOfBytes) dX12_shapeOfBytes_302 rfl ?_
                            refine z_bipush (M := M_X12_shapeOfBytes) dX12_shapeOfBytes_303 (by decide +kernel) ?_
                            refine z_aload_n (M := M_X12_shapeOfBytes) dX12_shapeOfBytes_305 rfl ?_
                            refine z_getI (M := M_X12_shapeOfBytes) (ci := 15) (C := RX12) (T := TX12) (Nf := 135) (ty := tyX12) cl15 dX12_shapeOfBytes_306 ly_277 17 (by decide) t_2408 rfl rfl ?_
                            obtain ⟨⟨x_176, σ_175⟩, hc_174, H⟩ := bd_e H
                            refine z_callV (M := M_X12_shapeOfBytes) (M' := M_X12_wrong) (as := [vi 7, vi (σ_170 kR_at 0)]) (rest := []) rfl rfl dX12_shapeOfBytes_309 m_X12_wrong t_2874 t_2876 s_166 (c_X12_wrong hl  hc_174) rfl rfl ly_277 rfl (Nat.le_of_ble_eq_true rfl) (Nat.le_of_ble_eq_true rfl) (Nat.le_of_ble_eq_true rfl) (Nat.le_of_ble_eq_true rfl) ?_
                            refine z_st (st' := [zv x_176]) rfl ?_
                            cases H
                            exact z_zret (M := M_X12_shapeOfBytes) dX12_shapeOfBytes_312 rfl (Nat.le_of_ble_eq_true rfl) (Nat.le_of_ble_eq_true rfl) ⟨rfl, rfl⟩
                          · refine z_icmp_le_t (M := M_X12_shapeOfBytes) (tgt := 313) dX12_shapeOfBytes_299 (by decide) rfl (by decide +kernel) (Int.not_lt.mp h_173) ?_
                            refine z_aload_n (M := M_X12_shapeOfBytes) dX12_shapeOfBytes_313 rfl ?_
                            refine z_iload (M := M_X12_shapeOfBytes) dX12_shapeOfBytes_314 rfl ?_
                            obtain ⟨σ_178, hc_177, H⟩ := bd_e H
                            refine z_callV (M := M_X12_shapeOfBytes) (M' := M_X12_tell) (as := [vi (q_lrm (q_lan x_147 536870911) 1000)]) (rest := []) rfl rfl dX12_shapeOfBytes_316 m_X12_tell t_2902 t_2904 s_170 (c_X12_tell hl  hc_177) rfl rfl ly_277 rfl (Nat.le_of_ble_eq_true rfl) (Nat.le_of_ble_eq_true rfl) (Nat.le_of_ble_eq_true rfl) (Nat.le_of_ble_eq_true rfl) ?_
                            refine z_st (st' := []) rfl ?_
                            refine z_aload_n (M := M_X12_shapeOfBytes) dX12_shapeOfBytes_319 rfl ?_
                            refine z_iconst (M := M_X12_shapeOfBytes) dX12_shapeOfBytes_320 ?_
                            obtain ⟨σ_180, hc_179, H⟩ := bd_e H
                            refine z_callV (M := M_X12_shapeOfBytes) (M' := M_X12_tell) (as := [vi 0]) (rest := []) rfl rfl dX12_shapeOfBytes_321 m_X12_tell t_2902 t_2904 s_170 (c_X12_tell hl  hc_179) rfl rfl ly_277 rfl (Nat.le_of_ble_eq_true rfl) (Nat.le_of_ble_eq_true rfl) (Nat.le_of_ble_eq_true rfl) (Nat.le_of_ble_eq_true rfl) ?_
                            refine z_st (st' := []) rfl ?_
                            refine z_aload_n (M := M_X12_shapeOfBytes) dX12_shapeOfBytes_324 rfl ?_
                            refine z_getR (M := M_X12_shapeOfBytes) (ci := 15) (C := RX12) (T := TX12) (Nf := 135) (ty := tyX12) cl15 dX12_shapeOfBytes_325 ly_277 9 (by decide) t_2400 rfl ?_
                            refine z_bipush (M := M_X12_shapeOfBytes) dX12_shapeOfBytes_328 (by decide +kernel) ?_
                            obtain ⟨x_181, x_181_e, hi_182, H⟩ := rd_e H
                            refine z_iald (M := M_X12_shapeOfBytes) dX12_shapeOfBytes_330 ly_280 rfl (by decide +kernel) rfl hi_182 x_181_e ?_
                            refine z_iconst (M := M_X12_shapeOfBytes) dX12_shapeOfBytes_331 ?_
                            refine z_isub (M := M_X12_shapeOfBytes) dX12_shapeOfBytes_332 ?_
                            refine z_istore (M := M_X12_shapeOfBytes) (lv' := [some (vr 277), some (vi wanted_0), some (vl x_147), none, some (vl (q_lan x_147 536870911)), none, some (vi (q_lrm (q_lan x_147 536870911) 1000)), some (zv x_149), some (vi (x_181 - 1)), none, none]) dX12_shapeOfBytes_333 (Nat.le_of_ble_eq_true rfl) rfl rfl ?_
                            refine z_iload (M := M_X12_shapeOfBytes) dX12_shapeOfBytes_335 rfl ?_
                            refine z_iconst (M := M_X12_shapeOfBytes) dX12_shapeOfBytes_337 ?_
                            rcases if_e H with ⟨h_183, H⟩ | ⟨h_183, H⟩
                            · refine z_icmp_ne_f (M := M_X12_shapeOfBytes) (tgt := 348) dX12_shapeOfBytes_338 (by decide) rfl (by decide +kernel) h_183 ?_
                              refine z_aload_n (M := M_X12_shapeOfBytes) dX12_shapeOfBytes_341 rfl ?_
                              refine z_iload (M := M_X12_shapeOfBytes) dX12_shapeOfBytes_342 rfl ?_
                              obtain ⟨⟨x_186, σ_185⟩, hc_184, H⟩ := bd_e H
                              refine z_callV (M := M_X12_shapeOfBytes) (M' := M_X12_pointOfBytes) (as := [vi (x_181 - 1)]) (rest := []) rfl rfl dX12_shapeOfBytes_344 m_X12_pointOfBytes t_2987 t_2989 s_189 (c_X12_pointOfBytes hl  hc_184) rfl rfl ly_277 rfl (Nat.le_of_ble_eq_true rfl) (Nat.le_of_ble_eq_true rfl) (Nat.le_of_ble_eq_true rfl) (Nat.le_of_ble_eq_true rfl) ?_
                              refine z_st (st' := [zv x_186]) rfl ?_
                              cases H
                              exact z_zret (M := M_X12_shapeOfBytes) dX12_shapeOfBytes_347 rfl (Nat.le_of_ble_eq_true rfl) (Nat.le_of_ble_eq_true rfl) ⟨rfl, rfl⟩
                            · refine z_icmp_ne_t (M := M_X12_shapeOfBytes) (tgt := 348) dX12_shapeOfBytes_338 (by decide) rfl (by decide +kernel) h_183 ?_
                              refine z_aload_n (M := M_X12_shapeOfBytes) dX12_shapeOfBytes_348 rfl ?_
                              refine z_iconst (M := M_X12_shapeOfBytes) dX12_shapeOfBytes_349 ?_
                              refine z_callV (M := M_X12_shapeOfBytes) (M' := M_X12_there) (as := [vi 4]) (rest := []) rfl rfl dX12_shapeOfBytes_350 m_X12_there t_2974 t_2976 s_187 (c_X12_there hl  rfl) rfl rfl ly_277 rfl (Nat.le_of_ble_eq_true rfl) (Nat.le_of_ble_eq_true rfl) (Nat.le_of_ble_eq_true rfl) (Nat.le_of_ble_eq_true rfl) ?_
                              refine z_st (st' := [zv (fR_there σ_180 4)]) rfl ?_
                              rcases if_e H with ⟨h_187, H⟩ | ⟨h_187, H⟩
                              · refine z_zne_t (M := M_X12_shapeOfBytes) (tgt := 366) dX12_shapeOfBytes_353 (by decide) h_187 ?_
                                refine z_aload_n (M := M_X12_shapeOfBytes) dX12_shapeOfBytes_366 rfl ?_
                                refine z_aload_n (M := M_X12_shapeOfBytes) dX12_shapeOfBytes_367 rfl ?_
                                refine z_getI (M := M_X12_shapeOfBytes) (ci := 15) (C := RX12) (T := TX12) (Nf := 135) (ty := tyX12) cl15 dX12_shapeOfBytes_368 ly_277 17 (by decide) t_2408 rfl rfl ?_
                                refine z_iconst (M := M_X12_shapeOfBytes) dX12_shapeOfBytes_371 ?_
                                obtain ⟨x_189, hc_188, H⟩ := bd_e H
                                refine z_callV (M := M_X12_shapeOfBytes) (M' := M_X12_whole) (as := [vi (σ_180 kR_at 0), vi 4]) (rest := []) rfl rfl dX12_shapeOfBytes_372 m_X12_whole t_2978 t_2980 s_188 (c_X12_whole hl  hc_188) rfl rfl ly_277 rfl (Nat.le_of_ble_eq_true rfl) (Nat.le_of_ble_eq_true rfl) (Nat.le_of_ble_eq_true rfl) (Nat.le_of_ble_eq_true rfl) ?_
                                refine z_st (st' := [vl x_189]) rfl ?_
                                refine z_lstore (M := M_X12_shapeOfBytes) (lv' := [some (vr 277), some (vi wanted_0), some (vl x_147), none, some (vl (q_lan x_147 536870911)), none, some (vi (q_lrm (q_lan x_147 536870911) 1000)), some (zv x_149), some (vi (x_181 - 1)), some (vl x_189), none]) dX12_shapeOfBytes_375 (Nat.le_of_ble_eq_true rfl) rfl rfl ?_
                                refine z_aload_n (M := M_X12_shapeOfBytes) dX12_shapeOfBytes_377 rfl ?_
                                refine z_dup (M := M_X12_shapeOfBytes) dX12_shapeOfBytes_378 rfl ?_
                                refine z_getI (M := M_X12_shapeOfBytes) (ci := 15) (C := RX12) (T := TX12) (Nf := 135) (ty := tyX12) cl15 dX12_shapeOfBytes_379 ly_277 17 (by decide) t_2408 rfl rfl ?_
                                refine z_iconst (M := M_X12_shapeOfBytes) dX12_shapeOfBytes_382 ?_
                                refine z_iadd (M := M_X12_shapeOfBytes) dX12_shapeOfBytes_383 ?_
                                obtain ⟨σ_190, σ_190_e, H⟩ := wf_e H
                                refine z_putI (M := M_X12_shapeOfBytes) (ci := 15) (C := RX12) (T := TX12) (Nf := 135) (ty := tyX12) cl15 dX12_shapeOfBytes_384 ly_277 17 (by decide) t_2408 rfl rfl rfl rfl σ_190_e ?_
                                refine z_aload_n (M := M_X12_shapeOfBytes) dX12_shapeOfBytes_387 rfl ?_
                                refine z_getR (M := M_X12_shapeOfBytes) (ci := 15) (C := RX12) (T := TX12) (Nf := 135) (ty := tyX12) cl15 dX12_shapeOfBytes_388 ly_277 10 (by decide) t_2401 rfl ?_
                                refine z_ldc (M := M_X12_shapeOfBytes) (n := 65536) dX12_shapeOfBytes_391 t_2385 (by decide +kernel) ?_
                                refine z_iload (M := M_X12_shapeOfBytes) dX12_shapeOfBytes_393 rfl ?_
                                refine z_iadd (M := M_X12_shapeOfBytes) dX12_shapeOfBytes_395 ?_
                                refine z_lload (M := M_X12_shapeOfBytes) dX12_shapeOfBytes_396 rfl ?_
                                refine z_l2i (M := M_X12_shapeOfBytes) dX12_shapeOfBytes_398 ?_
                                obtain ⟨σ_191, σ_191_e, hi_192, H⟩ := wa_e H
                                refine z_iast (M := M_X12_shapeOfBytes) dX12_shapeOfBytes_399 ly_281 rfl rfl rfl hi_192 σ_191_e ?_
                                refine z_iload (M := M_X12_shapeOfBytes) dX12_shapeOfBytes_400 rfl ?_
                                refine z_iconst (M := M_X12_shapeOfBytes) dX12_shapeOfBytes_402 ?_
                                rcases if_e H with ⟨h_193, H⟩ | ⟨h_193, H⟩
                                · refine z_icmp_ne_f (M := M_X12_shapeOfBytes) (tgt := 413) dX12_shapeOfBytes_403 (by decide) rfl (by decide +kernel) h_193 ?_
                                  refine z_aload_n (M := M_X12_shapeOfBytes) dX12_shapeOfBytes_406 rfl ?_
                                  refine z_lload (M := M_X12_shapeOfBytes) dX12_shapeOfBytes_407 rfl ?_
                                  obtain ⟨⟨x_196, σ_195⟩, hc_194, H⟩ := bd_e H
                                  refine z_callV (M := M_X12_shapeOfBytes) (M' := M_X12_rowOfBytes) (as := [vl x_189]) (rest := []) rfl rfl dX12_shapeOfBytes_409 m_X12_rowOfBytes t_3009 t_3011 s_193 (c_X12_rowOfBytes hl  hc_194) rfl rfl ly_277 rfl (Nat.le_of_ble_eq_true rfl) (Nat.le_of_ble_eq_true rfl) (Nat.le_of_ble_eq_true rfl) (Nat.le_of_ble_eq_true rfl) ?_
                                  refine z_st (st' := [zv x_196]) rfl ?_
                                  cases H
                                  exact z_zret (M := M_X12_shapeOfBytes) dX12_shapeOfBytes_412 rfl (Nat.le_of_ble_eq_true rfl) (Nat.le_of_ble_eq_true rfl) ⟨rfl, rfl⟩
                                · refine z_icmp_ne_t (M := M_X12_shapeOfBytes) (tgt := 413) dX12_shapeOfBytes_403 (by decide) rfl (by decide +kernel) h_193 ?_
                                  obtain ⟨v_214, he_215, hk_216⟩ := bd_e H
                                  have J_217 : ∀ x_212 σ_213, v_214 = (x_212, σ_213) → YY l E M_X12_shapeOfBytes 6 0 0 (pS (some (zv r)) σ') 436 [some (vr 277), some (vi wanted_0), some (vl x_147), none, some (vl (q_lan x_147 536870911)), none, some (vi (q_lrm (q_lan x_147 536870911) 1000)), some (zv x_149), some (vi (x_181 - 1)), some (vl x_189), none] [zv x_212] σ_213 0 0 := by
                                    intro x_212 σ_213 e
                                    have H := hk_216
                                    rw [e] at H
                                    cases H
                                    exact z_zret (M := M_X12_shapeOfBytes) dX12_shapeOfBytes_436 rfl (Nat.le_of_ble_eq_true rfl) (Nat.le_of_ble_eq_true rfl) ⟨rfl, rfl⟩
                                  have H := he_215
                                  refine z_iload (M := M_X12_shapeOfBytes) dX12_shapeOfBytes_413 rfl ?_
                                  refine z_iconst (M := M_X12_shapeOfBytes) dX12_shapeOfBytes_415 ?_
                                  rcases if_e H with ⟨h_203, H⟩ | ⟨h_203, H⟩
                                  · refine z_icmp_ne_f (M := M_X12_shapeOfBytes) (tgt := 428) dX12_shapeOfBytes_416 (by decide) rfl (by decide +kernel) h_203 ?_
                                    refine z_aload_n (M := M_X12_shapeOfBytes) dX12_shapeOfBytes_419 rfl ?_
                                    refine z_lload (M := M_X12_shapeOfBytes) dX12_shapeOfBytes_420 rfl ?_
                                    obtain ⟨⟨x_206, σ_205⟩, hc_204, H⟩ := bd_e H
                                    refine z_callV (M := M_X12_shapeOfBytes) (M' := M_X12_ringsOfBytes) (as := [vl x_189]) (rest := []) rfl rfl dX12_shapeOfBytes_422 m_X12_ringsOfBytes t_3013 t_3015 s_194 (c_X12_ringsOfBytes hl  hc_204) rfl rfl ly_277 rfl (Nat.le_of_ble_eq_true rfl) (Nat.le_of_ble_eq_true rfl) (Nat.le_of_ble_eq_true rfl) (Nat.le_of_ble_eq_true rfl) ?_
                                    refine z_st (st' := [zv x_206]) rfl ?_
                                    refine z_goto (M := M_X12_shapeOfBytes) (tgt := 436) dX12_shapeOfBytes_425 (by decide) ?_
                                    exact J_217 _ _ (Option.some.inj H).symm
                                  · refine z_icmp_ne_t (M := M_X12_shapeOfBytes) (tgt := 428) dX12_shapeOfBytes_416 (by decide) rfl (by decide +kernel) h_203 ?_
                                    refine z_aload_n (M := M_X12_shapeOfBytes) dX12_shapeOfBytes_428 rfl ?_
                                    refine z_iload (M := M_X12_shapeOfBytes) dX12_shapeOfBytes_429 rfl ?_
                                    refine z_lload (M := M_X12_shapeOfBytes) dX12_shapeOfBytes_431 rfl ?_
                                    obtain ⟨⟨x_210, σ_209⟩, hc_208, H⟩ := bd_e H
                                    refine z_callV (M := M_X12_shapeOfBytes) (M' := M_X12_partsOfBytes) (as := [vi (q_lrm (q_lan x_147 536870911) 1000), vl x_189]) (rest := []) rfl rfl dX12_shapeOfBytes_433 m_X12_partsOfBytes t_3017 t_3019 s_195 (c_X12_partsOfBytes hl  hc_208) rfl rfl ly_277 rfl (Nat.le_of_ble_eq_true rfl) (Nat.le_of_ble_eq_true rfl) (Nat.le_of_ble_eq_true rfl) (Nat.le_of_ble_eq_true rfl) ?_
                                    refine z_st (st' := [zv x_210]) rfl ?_
                                    exact J_217 _ _ (Option.some.inj H).symm
                              · refine z_zne_f (M := M_X12_shapeOfBytes) (tgt := 366) dX12_shapeOfBytes_353 (by decide) h_187 ?_
                                refine z_aload_n (M := M_X12_shapeOfBytes) dX12_shapeOfBytes_356 rfl ?_
                                refine z_iconst (M := M_X12_shapeOfBytes) dX12_shapeOfBytes_357 ?_
                                refine z_aload_n (M := M_X12_shapeOfBytes) dX12_shapeOfBytes_358 rfl ?_
                                refine z_getI (M := M_X12_shapeOfBytes) (ci := 15) (C := RX12) (T := TX12) (Nf := 135) (ty := tyX12) cl15 dX12_shapeOfBytes_359 ly_277 17 (by decide) t_2408 rfl rfl ?_
                                obtain ⟨⟨x_220, σ_219⟩, hc_218, H⟩ := bd_e H
                                refine z_callV (M := M_X12_shapeOfBytes) (M' := M_X12_wrong) (as := [vi 3, vi (σ_180 kR_at 0)]) (rest := []) rfl rfl dX12_shapeOfBytes_362 m_X12_wrong t_2874 t_2876 s_166 (c_X12_wrong hl  hc_218) rfl rfl ly_277 rfl (Nat.le_of_ble_eq_true rfl) (Nat.le_of_ble_eq_true rfl) (Nat.le_of_ble_eq_true rfl) (Nat.le_of_ble_eq_true rfl) ?_
                                refine z_st (st' := [zv x_220]) rfl ?_
                                cases H
                                exact z_zret (M := M_X12_shapeOfBytes) dX12_shapeOfBytes_365 rfl (Nat.le_of_ble_eq_true rfl) (Nat.le_of_ble_eq_true rfl) ⟨rfl, rfl⟩
                        have H := he_158
                        refine z_lload_n (M := M_X12_shapeOfBytes) dX12_shapeOfBytes_248 rfl ?_
                        refine z_bipush (M := M_X12_shapeOfBytes) dX12_shapeOfBytes_249 (by decide +kernel) ?_
                        refine z_lshr (M := M_X12_shapeOfBytes) dX12_shapeOfBytes_251 ?_
                        refine z_lconst (M := M_X12_shapeOfBytes) (m := 1) dX12_shapeOfBytes_252 (by decide +kernel) ?_
                        refine z_land (M := M_X12_shapeOfBytes) dX12_shapeOfBytes_253 ?_
                        refine z_lconst (M := M_X12_shapeOfBytes) (m := 1) dX12_shapeOfBytes_254 (by decide +kernel) ?_
                        refine z_lcmp (M := M_X12_shapeOfBytes) dX12_shapeOfBytes_255 ?_
                        rcases if_e H with ⟨h_162, H⟩ | ⟨h_162, H⟩
                        · refine z_lif_ne_f (M := M_X12_shapeOfBytes) (tgt := 287) dX12_shapeOfBytes_256 (by decide) rfl (by decide +kernel) h_162 ?_
                          refine z_aload_n (M := M_X12_shapeOfBytes) dX12_shapeOfBytes_259 rfl ?_
                          refine z_iconst (M := M_X12_shapeOfBytes) dX12_shapeOfBytes_260 ?_
                          refine z_callV (M := M_X12_shapeOfBytes) (M' := M_X12_there) (as := [vi 4]) (rest := []) rfl rfl dX12_shapeOfBytes_261 m_X12_there t_2974 t_2976 s_187 (c_X12_there hl  rfl) rfl rfl ly_277 rfl (Nat.le_of_ble_eq_true rfl) (Nat.le_of_ble_eq_true rfl) (Nat.le_of_ble_eq_true rfl) (Nat.le_of_ble_eq_true rfl) ?_
                          refine z_st (st' := [zv (fR_there σ_157 4)]) rfl ?_
                          rcases if_e H with ⟨h_163, H⟩ | ⟨h_163, H⟩
                          · refine z_zne_t (M := M_X12_shapeOfBytes) (tgt := 277) dX12_shapeOfBytes_264 (by decide) h_163 ?_
                            refine z_aload_n (M := M_X12_shapeOfBytes) dX12_shapeOfBytes_277 rfl ?_
                            refine z_dup (M := M_X12_shapeOfBytes) dX12_shapeOfBytes_278 rfl ?_
                            refine z_getI (M := M_X12_shapeOfBytes) (ci := 15) (C := RX12) (T := TX12) (Nf := 135) (ty := tyX12) cl15 dX12_shapeOfBytes_279 ly_277 17 (by decide) t_2408 rfl rfl ?_
                            refine z_iconst (M := M_X12_shapeOfBytes) dX12_shapeOfBytes_282 ?_
                            refine z_iadd (M := M_X12_shapeOfBytes) dX12_shapeOfBytes_283 ?_
                            obtain ⟨σ_164, σ_164_e, H⟩ := wf_e H
                            refine z_putI (M := M_X12_shapeOfBytes) (ci := 15) (C := RX12) (T := TX12) (Nf := 135) (ty := tyX12) cl15 dX12_shapeOfBytes_284 ly_277 17 (by decide) t_2408 rfl rfl rfl rfl σ_164_e ?_
                            exact J_221 _ (Option.some.inj H).symm
                          · refine z_zne_f (M := M_X12_shapeOfBytes) (tgt := 277) dX12_shapeOfBytes_264 (by decide) h_163 ?_
                            refine z_aload_n (M := M_X12_shapeOfBytes) dX12_shapeOfBytes_267 rfl ?_
                            refine z_iconst (M := M_X12_shapeOfBytes) dX12_shapeOfBytes_268 ?_
                            refine z_aload_n (M := M_X12_shapeOfBytes) dX12_shapeOfBytes_269 rfl ?_
                            refine z_getI (M := M_X12_shapeOfBytes) (ci := 15) (C := RX12) (T := TX12) (Nf := 135) (ty := tyX12) cl15 dX12_shapeOfBytes_270 ly_277 17 (by decide) t_2408 rfl rfl ?_
                            obtain ⟨⟨x_168, σ_167⟩, hc_166, H⟩ := bd_e H
                            refine z_callV (M := M_X12_shapeOfBytes) (M' := M_X12_wrong) (as := [vi 3, vi (σ_157 kR_at 0)]) (rest := []) rfl rfl dX12_shapeOfBytes_273 m_X12_wrong t_2874 t_2876 s_166 (c_X12_wrong hl  hc_166) rfl rfl ly_277 rfl (Nat.le_of_ble_eq_true rfl) (Nat.le_of_ble_eq_true rfl) (Nat.le_of_ble_eq_true rfl) (Nat.le_of_ble_eq_true rfl) ?_
                            refine z_st (st' := [zv x_168]) rfl ?_
                            have H := congrArg some (hk_160 _ (Option.some.inj H).symm)
                            cases H
                            exact z_zret (M := M_X12_shapeOfBytes) dX12_shapeOfBytes_276 rfl (Nat.le_of_ble_eq_true rfl) (Nat.le_of_ble_eq_true rfl) ⟨rfl, rfl⟩
                        · refine z_lif_ne_t (M := M_X12_shapeOfBytes) (tgt := 287) dX12_shapeOfBytes_256 (by decide) rfl (by decide +kernel) h_162 ?_
                          exact J_221 _ (Option.some.inj H).symm
                      refine z_iload (M := M_X12_shapeOfBytes) dX12_shapeOfBytes_211 rfl ?_
                      refine z_bipush (M := M_X12_shapeOfBytes) dX12_shapeOfBytes_213 (by decide +kernel) ?_
                      by_cases h_227 : (w32 (q_lrm (q_lan x_147 536870911) 1000)) = 7
                      · refine z_icmp_ne_f (M := M_X12_shapeOfBytes) (tgt := 238) dX12_shapeOfBytes_215 (by decide) rfl (by decide +kernel) h_227 ?_
                        refine z_aload_n (M := M_X12_shapeOfBytes) dX12_shapeOfBytes_218 rfl ?_
                        refine z_getI (M := M_X12_shapeOfBytes) (ci := 15) (C := RX12) (T := TX12) (Nf := 135) (ty := tyX12) cl15 dX12_shapeOfBytes_219 ly_277 20 (by decide) t_2411 rfl rfl ?_
                        refine z_bipush (M := M_X12_shapeOfBytes) dX12_shapeOfBytes_222 (by decide +kernel) ?_
                        by_cases h_228 : (w32 (σ_144 kR_open 0)) = 50
                        · refine z_icmp_ne_f (M := M_X12_shapeOfBytes) (tgt := 238) dX12_shapeOfBytes_224 (by decide) rfl (by decide +kernel) h_228 ?_
                          exact absurd ⟨h_227, h_228⟩ h_222
                        · refine z_icmp_ne_t (M := M_X12_shapeOfBytes) (tgt := 238) dX12_shapeOfBytes_224 (by decide) rfl (by decide +kernel) h_228 ?_
                          exact J_224
                      · refine z_icmp_ne_t (M := M_X12_shapeOfBytes) (tgt := 238) dX12_shapeOfBytes_215 (by decide) rfl (by decide +kernel) h_227 ?_
                        exact J_224
                  refine z_lload_n (M := M_X12_shapeOfBytes) dX12_shapeOfBytes_182 rfl ?_
                  refine z_bipush (M := M_X12_shapeOfBytes) dX12_shapeOfBytes_183 (by decide +kernel) ?_
                  refine z_lshr (M := M_X12_shapeOfBytes) dX12_shapeOfBytes_185 ?_
                  refine z_lconst (M := M_X12_shapeOfBytes) (m := 0) dX12_shapeOfBytes_186 (by decide +kernel) ?_
                  refine z_lcmp (M := M_X12_shapeOfBytes) dX12_shapeOfBytes_187 ?_
                  by_cases h_234 : ¬ (w64 (q_lsr x_147 30)) = 0
                  · refine z_lif_ne_t (M := M_X12_shapeOfBytes) (tgt := 200) dX12_shapeOfBytes_188 (by decide) rfl (by decide +kernel) h_234 ?_
                    exact absurd (Or.inl h_234) h_229
                  · refine z_lif_ne_f (M := M_X12_shapeOfBytes) (tgt := 200) dX12_shapeOfBytes_188 (by decide) rfl (by decide +kernel) (Decidable.not_not.mp h_234) ?_
                    refine z_lload (M := M_X12_shapeOfBytes) dX12_shapeOfBytes_191 rfl ?_
                    refine z_ldc2 (M := M_X12_shapeOfBytes) (n := 1000) dX12_shapeOfBytes_193 t_2984 (by decide +kernel) ?_
                    refine z_lcmp (M := M_X12_shapeOfBytes) dX12_shapeOfBytes_196 ?_
                    by_cases h_235 : 1000 ≤ (w64 (q_lan x_147 536870911))
                    · refine z_lif_lt_f (M := M_X12_shapeOfBytes) (tgt := 211) dX12_shapeOfBytes_197 (by decide) rfl (by decide +kernel) h_235 ?_
                      exact absurd (Or.inr h_235) h_229
                    · refine z_lif_lt_t (M := M_X12_shapeOfBytes) (tgt := 211) dX12_shapeOfBytes_197 (by decide) rfl (by decide +kernel) (Int.not_le.mp h_235) ?_
                      exact J_231
              · refine z_zne_f (M := M_X12_shapeOfBytes) (tgt := 182) dX12_shapeOfBytes_169 (by decide) h_150 ?_
                refine z_aload_n (M := M_X12_shapeOfBytes) dX12_shapeOfBytes_172 rfl ?_
                refine z_iconst (M := M_X12_shapeOfBytes) dX12_shapeOfBytes_173 ?_
                refine z_aload_n (M := M_X12_shapeOfBytes) dX12_shapeOfBytes_174 rfl ?_
                refine z_getI (M := M_X12_shapeOfBytes) (ci := 15) (C := RX12) (T := TX12) (Nf := 135) (ty := tyX12) cl15 dX12_shapeOfBytes_175 ly_277 17 (by decide) t_2408 rfl rfl ?_
                obtain ⟨⟨x_238, σ_237⟩, hc_236, H⟩ := bd_e H
                refine z_callV (M := M_X12_shapeOfBytes) (M' := M_X12_wrong) (as := [vi 2, vi (σ_144 kR_at 0)]) (rest := []) rfl rfl dX12_shapeOfBytes_178 m_X12_wrong t_2874 t_2876 s_166 (c_X12_wrong hl  hc_236) rfl rfl ly_277 rfl (Nat.le_of_ble_eq_true rfl) (Nat.le_of_ble_eq_true rfl) (Nat.le_of_ble_eq_true rfl) (Nat.le_of_ble_eq_true rfl) ?_
                refine z_st (st' := [zv x_238]) rfl ?_
                cases H
                exact z_zret (M := M_X12_shapeOfBytes) dX12_shapeOfBytes_181 rfl (Nat.le_of_ble_eq_true rfl) (Nat.le_of_ble_eq_true rfl) ⟨rfl, rfl⟩
            refine z_lload (M := M_X12_shapeOfBytes) dX12_shapeOfBytes_128 rfl ?_
            refine z_ldc2 (M := M_X12_shapeOfBytes) (n := 4000) dX12_shapeOfBytes_130 t_2985 (by decide +kernel) ?_
            refine z_lcmp (M := M_X12_shapeOfBytes) dX12_shapeOfBytes_133 ?_
            by_cases h_239 : (w64 (q_lan x_147 536870911)) < 4000
            · refine z_lif_ge_f (M := M_X12_shapeOfBytes) (tgt := 164) dX12_shapeOfBytes_134 (by decide) rfl (by decide +kernel) h_239 ?_
              refine z_iload (M := M_X12_shapeOfBytes) dX12_shapeOfBytes_137 rfl ?_
              refine z_i2l (M := M_X12_shapeOfBytes) dX12_shapeOfBytes_139 ?_
              refine z_lconst (M := M_X12_shapeOfBytes) (m := 1) dX12_shapeOfBytes_140 (by decide +kernel) ?_
              refine z_ldc2 (M := M_X12_shapeOfBytes) (n := 7) dX12_shapeOfBytes_141 t_2986 (by decide +kernel) ?_
              refine z_callS (M := M_X12_shapeOfBytes) (M' := M_X12_in) (as := [vl (w32 (q_lrm (q_lan x_147 536870911) 1000)), vl 1, vl 7]) (rest := []) rfl rfl dX12_shapeOfBytes_144 m_X12_in t_2818 t_2819 (c_X12_in hl  rfl) rfl rfl (Nat.le_of_ble_eq_true rfl) (Nat.le_of_ble_eq_true rfl) (Nat.le_of_ble_eq_true rfl) (Nat.le_of_ble_eq_true rfl) ?_
              refine z_st (st' := [zv (fR_in (w32 (q_lrm (q_lan x_147 536870911) 1000)) 1 7)]) rfl ?_
              by_cases h_240 : (fR_in (w32 (q_lrm (q_lan x_147 536870911) 1000)) 1 7) = true
              · refine z_zeq_f (M := M_X12_shapeOfBytes) (tgt := 164) dX12_shapeOfBytes_147 (by decide) h_240 ?_
                refine z_iload_n (M := M_X12_shapeOfBytes) dX12_shapeOfBytes_150 rfl ?_
                by_cases h_241 : (w32 wanted_0) = 0
                · refine z_if_eq_t (M := M_X12_shapeOfBytes) (tgt := 160) dX12_shapeOfBytes_151 (by decide) rfl h_241 ?_
                  refine z_iconst (M := M_X12_shapeOfBytes) dX12_shapeOfBytes_160 ?_
                  refine z_goto (M := M_X12_shapeOfBytes) (tgt := 165) dX12_shapeOfBytes_161 (by decide) ?_
                  exact z_st (by rw [zv_t (p := (((w64 (q_lan x_147 536870911)) < 4000) ∧ ((fR_in (w32 (q_lrm (q_lan x_147 536870911) 1000)) 1 7) = true)) ∧ (((w32 wanted_0) = 0) ∨ ((w32 (q_lrm (q_lan x_147 536870911) 1000)) = (w32 wanted_0)))) ⟨⟨h_239, h_240⟩, (Or.inl h_241)⟩]) J_148
                · refine z_if_eq_f (M := M_X12_shapeOfBytes) (tgt := 160) dX12_shapeOfBytes_151 (by decide) rfl h_241 ?_
                  refine z_iload (M := M_X12_shapeOfBytes) dX12_shapeOfBytes_154 rfl ?_
                  refine z_iload_n (M := M_X12_shapeOfBytes) dX12_shapeOfBytes_156 rfl ?_
                  by_cases h_242 : (w32 (q_lrm (q_lan x_147 536870911) 1000)) = (w32 wanted_0)
                  · refine z_icmp_ne_f (M := M_X12_shapeOfBytes) (tgt := 164) dX12_shapeOfBytes_157 (by decide) rfl rfl h_242 ?_
                    refine z_iconst (M := M_X12_shapeOfBytes) dX12_shapeOfBytes_160 ?_
                    refine z_goto (M := M_X12_shapeOfBytes) (tgt := 165) dX12_shapeOfBytes_161 (by decide) ?_
                    exact z_st (by rw [zv_t (p := (((w64 (q_lan x_147 536870911)) < 4000) ∧ ((fR_in (w32 (q_lrm (q_lan x_147 536870911) 1000)) 1 7) = true)) ∧ (((w32 wanted_0) = 0) ∨ ((w32 (q_lrm (q_lan x_147 536870911) 1000)) = (w32 wanted_0)))) ⟨⟨h_239, h_240⟩, (Or.inr h_242)⟩]) J_148
                  · refine z_icmp_ne_t (M := M_X12_shapeOfBytes) (tgt := 164) dX12_shapeOfBytes_157 (by decide) rfl rfl h_242 ?_
                    refine z_iconst (M := M_X12_shapeOfBytes) dX12_shapeOfBytes_164 ?_
                    exact z_st (by rw [zv_f (p := (((w64 (q_lan x_147 536870911)) < 4000) ∧ ((fR_in (w32 (q_lrm (q_lan x_147 536870911) 1000)) 1 7) = true)) ∧ (((w32 wanted_0) = 0) ∨ ((w32 (q_lrm (q_lan x_147 536870911) 1000)) = (w32 wanted_0)))) (fun q => (fun q => q.elim h_241 h_242) q.2)]) J_148
              · refine z_zeq_t (M := M_X12_shapeOfBytes) (tgt := 164) dX12_shapeOfBytes_147 (by decide) h_240 ?_
                refine z_iconst (M := M_X12_shapeOfBytes) dX12_shapeOfBytes_164 ?_
                exact z_st (by rw [zv_f (p := (((w64 (q_lan x_147 536870911)) < 4000) ∧ ((fR_in (w32 (q_lrm (q_lan x_147 536870911) 1000)) 1 7) = true)) ∧ (((w32 wanted_0) = 0) ∨ ((w32 (q_lrm (q_lan x_147 536870911) 1000)) = (w32 wanted_0)))) (fun q => (fun q => h_240 q.2) q.1)]) J_148
            · refine z_lif_ge_t (M := M_X12_shapeOfBytes) (tgt := 164) dX12_shapeOfBytes_134 (by decide) rfl (by decide +kernel) (Int.not_lt.mp h_239) ?_
              refine z_iconst (M := M_X12_shapeOfBytes) dX12_shapeOfBytes_164 ?_
              exact z_st (by rw [zv_f (p := (((w64 (q_lan x_147 536870911)) < 4000) ∧ ((fR_in (w32 (q_lrm (q_lan x_147 536870911) 1000)) 1 7) = true)) ∧ (((w32 wanted_0) = 0) ∨ ((w32 (q_lrm (q_lan x_147 536870911) 1000)) = (w32 wanted_0)))) (fun q => (fun q => h_239 q.1) q.1)]) J_148
          · refine z_zne_f (M := M_X12_shapeOfBytes) (tgt := 102) dX12_shapeOfBytes_89 (by decide) h_145 ?_
            refine z_aload_n (M := M_X12_shapeOfBytes) dX12_shapeOfBytes_92 rfl ?_
            refine z_iconst (M := M_X12_shapeOfBytes) dX12_shapeOfBytes_93 ?_
            refine z_aload_n (M := M_X12_shapeOfBytes) dX12_shapeOfBytes_94 rfl ?_
            refine z_getI (M := M_X12_shapeOfBytes) (ci := 15) (C := RX12) (T := TX12) (Nf := 135) (ty := tyX12) cl15 dX12_shapeOfBytes_95 ly_277 17 (by decide) t_2408 rfl rfl ?_
            obtain ⟨⟨x_245, σ_244⟩, hc_243, H⟩ := bd_e H
            refine z_callV (M := M_X12_shapeOfBytes) (M' := M_X12_wrong) (as := [vi 3, vi (σ_144 kR_at 0)]) (rest := []) rfl rfl dX12_shapeOfBytes_98 m_X12_wrong t_2874 t_2876 s_166 (c_X12_wrong hl  hc_243) rfl rfl ly_277 rfl (Nat.le_of_ble_eq_true rfl) (Nat.le_of_ble_eq_true rfl) (Nat.le_of_ble_eq_true rfl) (Nat.le_of_ble_eq_true rfl) ?_
            refine z_st (st' := [zv x_245]) rfl ?_
            cases H
            exact z_zret (M := M_X12_shapeOfBytes) dX12_shapeOfBytes_101 rfl (Nat.le_of_ble_eq_true rfl) (Nat.le_of_ble_eq_true rfl) ⟨rfl, rfl⟩
        have H := he_247
        refine z_aload_n (M := M_X12_shapeOfBytes) dX12_shapeOfBytes_54 rfl ?_
        refine z_getR (M := M_X12_shapeOfBytes) (ci := 15) (C := RX12) (T := TX12) (Nf := 135) (ty := tyX12) cl15 dX12_shapeOfBytes_55 ly_277 3 (by decide) t_2394 rfl ?_
        refine z_aload_n (M := M_X12_shapeOfBytes) dX12_shapeOfBytes_58 rfl ?_
        refine z_getI (M := M_X12_shapeOfBytes) (ci := 15) (C := RX12) (T := TX12) (Nf := 135) (ty := tyX12) cl15 dX12_shapeOfBytes_59 ly_277 17 (by decide) t_2408 rfl rfl ?_
        obtain ⟨x_137, x_137_e, hi_138, H⟩ := rd_e H
        refine z_bald (M := M_X12_shapeOfBytes) dX12_shapeOfBytes_62 ly_278 rfl rfl rfl hi_138 x_137_e ?_
        rcases if_e H with ⟨h_139, H⟩ | ⟨h_139, H⟩
        · refine z_if_ne_f (M := M_X12_shapeOfBytes) (tgt := 70) dX12_shapeOfBytes_63 (by decide) rfl h_139 ?_
          refine z_zconst (M := M_X12_shapeOfBytes) (b := true) dX12_shapeOfBytes_66 rfl ?_
          refine z_goto (M := M_X12_shapeOfBytes) (tgt := 71) dX12_shapeOfBytes_67 (by decide) ?_
          exact J_249 _ (Option.some.inj H).symm
        · refine z_if_ne_t (M := M_X12_shapeOfBytes) (tgt := 70) dX12_shapeOfBytes_63 (by decide) rfl h_139 ?_
          refine z_zconst (M := M_X12_shapeOfBytes) (b := false) dX12_shapeOfBytes_70 rfl ?_
          exact J_249 _ (Option.some.inj H).symm
    have H := he_251
    refine z_aload_n (M := M_X12_shapeOfBytes) dX12_shapeOfBytes_18 rfl ?_
    refine z_getR (M := M_X12_shapeOfBytes) (ci := 15) (C := RX12) (T := TX12) (Nf := 135) (ty := tyX12) cl15 dX12_shapeOfBytes_19 ly_277 3 (by decide) t_2394 rfl ?_
    refine z_aload_n (M := M_X12_shapeOfBytes) dX12_shapeOfBytes_22 rfl ?_
    refine z_getI (M := M_X12_shapeOfBytes) (ci := 15) (C := RX12) (T := TX12) (Nf := 135) (ty := tyX12) cl15 dX12_shapeOfBytes_23 ly_277 17 (by decide) t_2408 rfl rfl ?_
    obtain ⟨x_124, x_124_e, hi_125, H⟩ := rd_e H
    refine z_bald (M := M_X12_shapeOfBytes) dX12_shapeOfBytes_26 ly_278 rfl rfl rfl hi_125 x_124_e ?_
    rcases if_e H with ⟨h_126, H⟩ | ⟨h_126, H⟩
    · refine z_if_eq_f (M := M_X12_shapeOfBytes) (tgt := 53) dX12_shapeOfBytes_27 (by decide) rfl h_126 ?_
      refine z_aload_n (M := M_X12_shapeOfBytes) dX12_shapeOfBytes_30 rfl ?_
      refine z_getR (M := M_X12_shapeOfBytes) (ci := 15) (C := RX12) (T := TX12) (Nf := 135) (ty := tyX12) cl15 dX12_shapeOfBytes_31 ly_277 3 (by decide) t_2394 rfl ?_
      refine z_aload_n (M := M_X12_shapeOfBytes) dX12_shapeOfBytes_34 rfl ?_
      refine z_getI (M := M_X12_shapeOfBytes) (ci := 15) (C := RX12) (T := TX12) (Nf := 135) (ty := tyX12) cl15 dX12_shapeOfBytes_35 ly_277 17 (by decide) t_2408 rfl rfl ?_
      obtain ⟨x_127, x_127_e, hi_128, H⟩ := rd_e H
      refine z_bald (M := M_X12_shapeOfBytes) dX12_shapeOfBytes_38 ly_278 rfl rfl rfl hi_128 x_127_e ?_
      refine z_iconst (M := M_X12_shapeOfBytes) dX12_shapeOfBytes_39 ?_
      rcases if_e H with ⟨h_129, H⟩ | ⟨h_129, H⟩
      · refine z_icmp_eq_f (M := M_X12_shapeOfBytes) (tgt := 53) dX12_shapeOfBytes_40 (by decide) rfl (by decide +kernel) h_129 ?_
        exact J_253 (Option.some.inj H).symm
      · refine z_icmp_eq_t (M := M_X12_shapeOfBytes) (tgt := 53) dX12_shapeOfBytes_40 (by decide) rfl (by decide +kernel) (Decidable.not_not.mp h_129) ?_
        exact J_254 (Option.some.inj H).symm
    · refine z_if_eq_t (M := M_X12_shapeOfBytes) (tgt := 53) dX12_shapeOfBytes_27 (by decide) rfl (Decidable.not_not.mp h_126) ?_
      exact J_254 (Option.some.inj H).symm
  · refine z_zne_f (M := M_X12_shapeOfBytes) (tgt := 18) dX12_shapeOfBytes_5 (by decide) h_1 ?_
    refine z_aload_n (M := M_X12_shapeOfBytes) dX12_shapeOfBytes_8 rfl ?_
    refine z_iconst (M := M_X12_shapeOfBytes) dX12_shapeOfBytes_9 ?_
    refine z_aload_n (M := M_X12_shapeOfBytes) dX12_shapeOfBytes_10 rfl ?_
    refine z_getI (M := M_X12_shapeOfBytes) (ci := 15) (C := RX12) (T := TX12) (Nf := 135) (ty := tyX12) cl15 dX12_shapeOfBytes_11 ly_277 17 (by decide) t_2408 rfl rfl ?_
    obtain ⟨⟨x_257, σ_256⟩, hc_255, H⟩ := bd_e H
    refine z_callV (M := M_X12_shapeOfBytes) (M' := M_X12_wrong) (as := [vi 3, vi (σ kR_at 0)]) (rest := []) rfl rfl dX12_shapeOfBytes_14 m_X12_wrong t_2874 t_2876 s_166 (c_X12_wrong hl  hc_255) rfl rfl ly_277 rfl (Nat.le_of_ble_eq_true rfl) (Nat.le_of_ble_eq_true rfl) (Nat.le_of_ble_eq_true rfl) (Nat.le_of_ble_eq_true rfl) ?_
    refine z_st (st' := [zv x_257]) rfl ?_
    cases H
    exact z_zret (M := M_X12_shapeOfBytes) dX12_shapeOfBytes_17 rfl (Nat.le_of_ble_eq_true rfl) (Nat.le_of_ble_eq_true rfl) ⟨rfl, rfl⟩
theorem c_X12_bytes (hl : l.stackTraces = false) {σ : SG} {r : Bool} {σ' : SG}  (H : fR_bytes σ = some (r, σ')) : en_S l E M_X12_bytes 7 0 0 [vr 277] σ (pS (some (zv r)) σ') := by
  unfold fR_bytes at H
  refine z_mk (lv := [some (vr 277), none, none]) m_X12_bytes rfl hl (Nat.le_of_ble_eq_true rfl) rfl ?_
  refine z_aload_n (M := M_X12_bytes) dX12_bytes_0 rfl ?_
  refine z_iconst (M := M_X12_bytes) dX12_bytes_1 ?_
  obtain ⟨σ_1, σ_1_e, H⟩ := wf_e H
  refine z_putI (M := M_X12_bytes) (ci := 15) (C := RX12) (T := TX12) (Nf := 135) (ty := tyX12) cl15 dX12_bytes_2 ly_277 17 (by decide) t_2408 rfl rfl rfl rfl σ_1_e ?_
  refine z_aload_n (M := M_X12_bytes) dX12_bytes_5 rfl ?_
  refine z_iconst (M := M_X12_bytes) dX12_bytes_6 ?_
  obtain ⟨σ_2, σ_2_e, H⟩ := wf_e H
  refine z_putI (M := M_X12_bytes) (ci := 15) (C := RX12) (T := TX12) (Nf := 135) (ty := tyX12) cl15 dX12_bytes_7 ly_277 20 (by decide) t_2411 rfl rfl rfl rfl σ_2_e ?_
  refine z_aload_n (M := M_X12_bytes) dX12_bytes_10 rfl ?_
  refine z_iconst (M := M_X12_bytes) dX12_bytes_11 ?_
  obtain ⟨σ_3, σ_3_e, H⟩ := wf_e H
  refine z_putI (M := M_X12_bytes) (ci := 15) (C := RX12) (T := TX12) (Nf := 135) (ty := tyX12) cl15 dX12_bytes_12 ly_277 29 (by decide) t_2420 rfl rfl rfl rfl σ_3_e ?_
  refine z_aload_n (M := M_X12_bytes) dX12_bytes_15 rfl ?_
  refine z_bipush (M := M_X12_bytes) dX12_bytes_16 (by decide +kernel) ?_
  obtain ⟨σ_5, hc_4, H⟩ := bd_e H
  refine z_callV (M := M_X12_bytes) (M' := M_X12_clear) (as := [vi 32]) (rest := []) rfl rfl dX12_bytes_18 m_X12_clear t_2848 t_2850 s_161 (c_X12_clear hl  hc_4) rfl rfl ly_277 rfl (Nat.le_of_ble_eq_true rfl) (Nat.le_of_ble_eq_true rfl) (Nat.le_of_ble_eq_true rfl) (Nat.le_of_ble_eq_true rfl) ?_
  refine z_st (st' := []) rfl ?_
  refine z_aload_n (M := M_X12_bytes) dX12_bytes_21 rfl ?_
  refine z_iconst (M := M_X12_bytes) dX12_bytes_22 ?_
  obtain ⟨⟨x_8, σ_7⟩, hc_6, H⟩ := bd_e H
  refine z_callV (M := M_X12_bytes) (M' := M_X12_shapeOfBytes) (as := [vi 0]) (rest := []) rfl rfl dX12_bytes_23 m_X12_shapeOfBytes t_2970 t_2972 s_186 (c_X12_shapeOfBytes hl  hc_6) rfl rfl ly_277 rfl (Nat.le_of_ble_eq_true rfl) (Nat.le_of_ble_eq_true rfl) (Nat.le_of_ble_eq_true rfl) (Nat.le_of_ble_eq_true rfl) ?_
  refine z_st (st' := [zv x_8]) rfl ?_
  refine z_zstore_n (M := M_X12_bytes) (lv' := [some (vr 277), some (zv x_8), none]) dX12_bytes_26 (Nat.le_of_ble_eq_true rfl) rfl rfl ?_
  obtain ⟨rl_14, hw_11, hk_12⟩ := bd_e H
  have J_78 : ∀ good_60 σ_61, rl_14 = (good_60, σ_61) → YY l E M_X12_bytes 7 0 0 (pS (some (zv r)) σ') 119 [some (vr 277), some (zv good_60), none] [] σ_61 0 0 := by
    intro good_60 σ_61 e
    have H := hk_12
    rw [e] at H
    obtain ⟨v_74, he_75, hk_76⟩ := bd_e H
    have J_77 : ∀ x_72 σ_73, v_74 = (x_72, σ_73) → YY l E M_X12_bytes 7 0 0 (pS (some (zv r)) σ') 152 [some (vr 277), some (zv good_60), none] [zv x_72] σ_73 0 0 := by
      intro x_72 σ_73 e
      have H := hk_76
      rw [e] at H
      cases H
      exact z_zret (M := M_X12_bytes) dX12_bytes_152 rfl (Nat.le_of_ble_eq_true rfl) (Nat.le_of_ble_eq_true rfl) ⟨rfl, rfl⟩
    have H := he_75
    refine z_zload_n (M := M_X12_bytes) dX12_bytes_119 rfl ?_
    rcases if_e H with ⟨h_62, H⟩ | ⟨h_62, H⟩
    · refine z_zeq_f (M := M_X12_bytes) (tgt := 151) dX12_bytes_120 (by decide) h_62 ?_
      refine z_aload_n (M := M_X12_bytes) dX12_bytes_123 rfl ?_
      refine z_getI (M := M_X12_bytes) (ci := 15) (C := RX12) (T := TX12) (Nf := 135) (ty := tyX12) cl15 dX12_bytes_124 ly_277 17 (by decide) t_2408 rfl rfl ?_
      refine z_aload_n (M := M_X12_bytes) dX12_bytes_127 rfl ?_
      refine z_getI (M := M_X12_bytes) (ci := 15) (C := RX12) (T := TX12) (Nf := 135) (ty := tyX12) cl15 dX12_bytes_128 ly_277 18 (by decide) t_2409 rfl rfl ?_
      rcases if_e H with ⟨h_63, H⟩ | ⟨h_63, H⟩
      · refine z_icmp_eq_t (M := M_X12_bytes) (tgt := 147) dX12_bytes_131 (by decide) rfl rfl h_63 ?_
        refine z_zconst (M := M_X12_bytes) (b := true) dX12_bytes_147 rfl ?_
        refine z_goto (M := M_X12_bytes) (tgt := 152) dX12_bytes_148 (by decide) ?_
        exact J_77 _ _ (Option.some.inj H).symm
      · refine z_icmp_eq_f (M := M_X12_bytes) (tgt := 147) dX12_bytes_131 (by decide) rfl rfl h_63 ?_
        refine z_aload_n (M := M_X12_bytes) dX12_bytes_134 rfl ?_
        refine z_bipush (M := M_X12_bytes) dX12_bytes_135 (by decide +kernel) ?_
        refine z_aload_n (M := M_X12_bytes) dX12_bytes_137 rfl ?_
        refine z_getI (M := M_X12_bytes) (ci := 15) (C := RX12) (T := TX12) (Nf := 135) (ty := tyX12) cl15 dX12_bytes_138 ly_277 17 (by decide) t_2408 rfl rfl ?_
        obtain ⟨⟨x_67, σ_66⟩, hc_65, H⟩ := bd_e H
        refine z_callV (M := M_X12_bytes) (M' := M_X12_wrong) (as := [vi 8, vi (σ_61 kR_at 0)]) (rest := []) rfl rfl dX12_bytes_141 m_X12_wrong t_2874 t_2876 s_166 (c_X12_wrong hl  hc_65) rfl rfl ly_277 rfl (Nat.le_of_ble_eq_true rfl) (Nat.le_of_ble_eq_true rfl) (Nat.le_of_ble_eq_true rfl) (Nat.le_of_ble_eq_true rfl) ?_
        refine z_st (st' := [zv x_67]) rfl ?_
        rcases if_e H with ⟨h_68, H⟩ | ⟨h_68, H⟩
        · refine z_zeq_f (M := M_X12_bytes) (tgt := 151) dX12_bytes_144 (by decide) h_68 ?_
          refine z_zconst (M := M_X12_bytes) (b := true) dX12_bytes_147 rfl ?_
          refine z_goto (M := M_X12_bytes) (tgt := 152) dX12_bytes_148 (by decide) ?_
          exact J_77 _ _ (Option.some.inj H).symm
        · refine z_zeq_t (M := M_X12_bytes) (tgt := 151) dX12_bytes_144 (by decide) h_68 ?_
          refine z_zconst (M := M_X12_bytes) (b := false) dX12_bytes_151 rfl ?_
          exact J_77 _ _ (Option.some.inj H).symm
    · refine z_zeq_t (M := M_X12_bytes) (tgt := 151) dX12_bytes_120 (by decide) h_62 ?_
      refine z_zconst (M := M_X12_bytes) (b := false) dX12_bytes_151 rfl ?_
      exact J_77 _ _ (Option.some.inj H).symm
  refine whl_go hw_11 (fun (good_9, σ_10) => YY l E M_X12_bytes 7 0 0 (pS (some (zv r)) σ') 27 [some (vr 277), some (zv good_9), none] [] σ_10 0 0) ?_
  rintro ⟨good_9, σ_10⟩ o_15 H K_16 K_17
  rcases if_e H with ⟨h_53, H⟩ | ⟨h_53, H⟩
  · have J_54 : YY l E M_X12_bytes 7 0 0 (pS (some (zv r)) σ') 38 [some (vr 277), some (zv good_9), none] [] σ_10 0 0 := by
      refine z_aload_n (M := M_X12_bytes) dX12_bytes_38 rfl ?_
      refine z_getI (M := M_X12_bytes) (ci := 15) (C := RX12) (T := TX12) (Nf := 135) (ty := tyX12) cl15 dX12_bytes_39 ly_277 29 (by decide) t_2420 rfl rfl ?_
      refine z_iconst (M := M_X12_bytes) dX12_bytes_42 ?_
      refine z_isub (M := M_X12_bytes) dX12_bytes_43 ?_
      refine z_istore_n (M := M_X12_bytes) (lv' := [some (vr 277), some (zv good_9), some (vi ((σ_10 kR_levels 0) - 1))]) dX12_bytes_44 (Nat.le_of_ble_eq_true rfl) rfl rfl ?_
      obtain ⟨v_21, he_18, hk_19⟩ := bd_e H
      have J_51 : ∀ good_48 σ_49, v_21 = (good_48, σ_49) → YY l E M_X12_bytes 7 0 0 (pS (some (zv r)) σ') 116 [some (vr 277), some (zv good_48), some (vi ((σ_10 kR_levels 0) - 1))] [] σ_49 0 0 := by
        intro good_48 σ_49 e
        have H := hk_19
        rw [e] at H
        refine z_goto (M := M_X12_bytes) (tgt := 27) dX12_bytes_116 (by decide) ?_
        refine z_le (lv' := [some (vr 277), some (zv good_48), none]) ⟨Or.inr rfl, Or.inr rfl, Or.inl rfl, trivial⟩ ?_
        exact K_16 _ (Option.some.inj H).symm
      have H := he_18
      refine z_aload_n (M := M_X12_bytes) dX12_bytes_45 rfl ?_
      refine z_getR (M := M_X12_bytes) (ci := 15) (C := RX12) (T := TX12) (Nf := 135) (ty := tyX12) cl15 dX12_bytes_46 ly_277 27 (by decide) t_2418 rfl ?_
      refine z_iload_n (M := M_X12_bytes) dX12_bytes_49 rfl ?_
      obtain ⟨x_22, x_22_e, hi_23, H⟩ := rd_e H
      refine z_lald (M := M_X12_bytes) dX12_bytes_50 ly_288 rfl rfl rfl hi_23 x_22_e ?_
      refine z_lconst (M := M_X12_bytes) (m := 0) dX12_bytes_51 (by decide +kernel) ?_
      refine z_lcmp (M := M_X12_bytes) dX12_bytes_52 ?_
      rcases if_e H with ⟨h_24, H⟩ | ⟨h_24, H⟩
      · refine z_lif_ne_f (M := M_X12_bytes) (tgt := 95) dX12_bytes_53 (by decide) rfl (by decide +kernel) h_24 ?_
        refine z_aload_n (M := M_X12_bytes) dX12_bytes_56 rfl ?_
        refine z_dup (M := M_X12_bytes) dX12_bytes_57 rfl ?_
        refine z_getI (M := M_X12_bytes) (ci := 15) (C := RX12) (T := TX12) (Nf := 135) (ty := tyX12) cl15 dX12_bytes_58 ly_277 29 (by decide) t_2420 rfl rfl ?_
        refine z_iconst (M := M_X12_bytes) dX12_bytes_61 ?_
        refine z_isub (M := M_X12_bytes) dX12_bytes_62 ?_
        obtain ⟨σ_25, σ_25_e, H⟩ := wf_e H
        refine z_putI (M := M_X12_bytes) (ci := 15) (C := RX12) (T := TX12) (Nf := 135) (ty := tyX12) cl15 dX12_bytes_63 ly_277 29 (by decide) t_2420 rfl rfl rfl rfl σ_25_e ?_
        refine z_aload_n (M := M_X12_bytes) dX12_bytes_66 rfl ?_
        obtain ⟨v_34, he_35, hk_36⟩ := bd_e H
        have J_37 : ∀ x_31, v_34 = x_31 → YY l E M_X12_bytes 7 0 0 (pS (some (zv r)) σ') 89 [some (vr 277), some (zv good_9), some (vi ((σ_10 kR_levels 0) - 1))] [vi x_31, vr 277] σ_25 0 0 := by
          intro x_31 e
          have H := hk_36
          rw [e] at H
          obtain ⟨σ_32, σ_32_e, H⟩ := wf_e H
          refine z_putI (M := M_X12_bytes) (ci := 15) (C := RX12) (T := TX12) (Nf := 135) (ty := tyX12) cl15 dX12_bytes_89 ly_277 20 (by decide) t_2411 rfl rfl rfl rfl σ_32_e ?_
          refine z_goto (M := M_X12_bytes) (tgt := 116) dX12_bytes_92 (by decide) ?_
          exact J_51 _ _ (Option.some.inj H).symm
        have H := he_35
        refine z_aload_n (M := M_X12_bytes) dX12_bytes_67 rfl ?_
        refine z_getR (M := M_X12_bytes) (ci := 15) (C := RX12) (T := TX12) (Nf := 135) (ty := tyX12) cl15 dX12_bytes_68 ly_277 28 (by decide) t_2419 rfl ?_
        refine z_iload_n (M := M_X12_bytes) dX12_bytes_71 rfl ?_
        obtain ⟨x_26, x_26_e, hi_27, H⟩ := rd_e H
        refine z_iald (M := M_X12_bytes) dX12_bytes_72 ly_289 rfl rfl rfl hi_27 x_26_e ?_
        rcases if_e H with ⟨h_28, H⟩ | ⟨h_28, H⟩
        · refine z_if_ne_f (M := M_X12_bytes) (tgt := 85) dX12_bytes_73 (by decide) rfl h_28 ?_
          refine z_aload_n (M := M_X12_bytes) dX12_bytes_76 rfl ?_
          refine z_getI (M := M_X12_bytes) (ci := 15) (C := RX12) (T := TX12) (Nf := 135) (ty := tyX12) cl15 dX12_bytes_77 ly_277 20 (by decide) t_2411 rfl rfl ?_
          refine z_iconst (M := M_X12_bytes) dX12_bytes_80 ?_
          refine z_isub (M := M_X12_bytes) dX12_bytes_81 ?_
          refine z_goto (M := M_X12_bytes) (tgt := 89) dX12_bytes_82 (by decide) ?_
          exact J_37 _ (Option.some.inj H).symm
        · refine z_if_ne_t (M := M_X12_bytes) (tgt := 85) dX12_bytes_73 (by decide) rfl h_28 ?_
          refine z_aload_n (M := M_X12_bytes) dX12_bytes_85 rfl ?_
          refine z_getI (M := M_X12_bytes) (ci := 15) (C := RX12) (T := TX12) (Nf := 135) (ty := tyX12) cl15 dX12_bytes_86 ly_277 20 (by decide) t_2411 rfl rfl ?_
          exact J_37 _ (Option.some.inj H).symm
      · refine z_lif_ne_t (M := M_X12_bytes) (tgt := 95) dX12_bytes_53 (by decide) rfl (by decide +kernel) h_24 ?_
        refine z_aload_n (M := M_X12_bytes) dX12_bytes_95 rfl ?_
        refine z_getR (M := M_X12_bytes) (ci := 15) (C := RX12) (T := TX12) (Nf := 135) (ty := tyX12) cl15 dX12_bytes_96 ly_277 27 (by decide) t_2418 rfl ?_
        refine z_iload_n (M := M_X12_bytes) dX12_bytes_99 rfl ?_
        refine z_dup2 (M := M_X12_bytes) dX12_bytes_100 rfl rfl ?_
        obtain ⟨x_38, x_38_e, hi_39, H⟩ := rd_e H
        refine z_lald (M := M_X12_bytes) dX12_bytes_101 ly_288 rfl rfl rfl hi_39 x_38_e ?_
        refine z_lconst (M := M_X12_bytes) (m := 1) dX12_bytes_102 (by decide +kernel) ?_
        refine z_lsub (M := M_X12_bytes) dX12_bytes_103 ?_
        obtain ⟨σ_40, σ_40_e, hi_41, H⟩ := wa_e H
        refine z_last (M := M_X12_bytes) dX12_bytes_104 ly_288 rfl rfl rfl hi_41 σ_40_e ?_
        refine z_aload_n (M := M_X12_bytes) dX12_bytes_105 rfl ?_
        refine z_aload_n (M := M_X12_bytes) dX12_bytes_106 rfl ?_
        refine z_getR (M := M_X12_bytes) (ci := 15) (C := RX12) (T := TX12) (Nf := 135) (ty := tyX12) cl15 dX12_bytes_107 ly_277 28 (by decide) t_2419 rfl ?_
        refine z_iload_n (M := M_X12_bytes) dX12_bytes_110 rfl ?_
        obtain ⟨x_42, x_42_e, hi_43, H⟩ := rd_e H
        refine z_iald (M := M_X12_bytes) dX12_bytes_111 ly_289 rfl rfl rfl hi_43 x_42_e ?_
        obtain ⟨⟨x_46, σ_45⟩, hc_44, H⟩ := bd_e H
        refine z_callV (M := M_X12_bytes) (M' := M_X12_shapeOfBytes) (as := [vi x_42]) (rest := []) rfl rfl dX12_bytes_112 m_X12_shapeOfBytes t_2970 t_2972 s_186 (c_X12_shapeOfBytes hl  hc_44) rfl rfl ly_277 rfl (Nat.le_of_ble_eq_true rfl) (Nat.le_of_ble_eq_true rfl) (Nat.le_of_ble_eq_true rfl) (Nat.le_of_ble_eq_true rfl) ?_
        refine z_st (st' := [zv x_46]) rfl ?_
        refine z_zstore_n (M := M_X12_bytes) (lv' := [some (vr 277), some (zv x_46), some (vi ((σ_10 kR_levels 0) - 1))]) dX12_bytes_115 (Nat.le_of_ble_eq_true rfl) rfl rfl ?_
        exact J_51 _ _ (Option.some.inj H).symm
    refine z_zload_n (M := M_X12_bytes) dX12_bytes_27 rfl ?_
    by_cases h_56 : good_9 = true
    · refine z_zeq_f (M := M_X12_bytes) (tgt := 119) dX12_bytes_28 (by decide) h_56 ?_
      refine z_aload_n (M := M_X12_bytes) dX12_bytes_31 rfl ?_
      refine z_getI (M := M_X12_bytes) (ci := 15) (C := RX12) (T := TX12) (Nf := 135) (ty := tyX12) cl15 dX12_bytes_32 ly_277 29 (by decide) t_2420 rfl rfl ?_
      by_cases h_57 : 0 < (w32 (σ_10 kR_levels 0))
      · refine z_if_le_f (M := M_X12_bytes) (tgt := 119) dX12_bytes_35 (by decide) rfl h_57 ?_
        exact J_54
      · refine z_if_le_t (M := M_X12_bytes) (tgt := 119) dX12_bytes_35 (by decide) rfl (Int.not_lt.mp h_57) ?_
        exact absurd h_53 (fun q => h_57 q.2)
    · refine z_zeq_t (M := M_X12_bytes) (tgt := 119) dX12_bytes_28 (by decide) h_56 ?_
      exact absurd h_53 (fun q => h_56 q.1)
  · have J_55 : YY l E M_X12_bytes 7 0 0 (pS (some (zv r)) σ') 119 [some (vr 277), some (zv good_9), none] [] σ_10 0 0 := by
      exact J_78 _ _ (K_17 _ (Option.some.inj H).symm).symm
    refine z_zload_n (M := M_X12_bytes) dX12_bytes_27 rfl ?_
    by_cases h_58 : good_9 = true
    · refine z_zeq_f (M := M_X12_bytes) (tgt := 119) dX12_bytes_28 (by decide) h_58 ?_
      refine z_aload_n (M := M_X12_bytes) dX12_bytes_31 rfl ?_
      refine z_getI (M := M_X12_bytes) (ci := 15) (C := RX12) (T := TX12) (Nf := 135) (ty := tyX12) cl15 dX12_bytes_32 ly_277 29 (by decide) t_2420 rfl rfl ?_
      by_cases h_59 : 0 < (w32 (σ_10 kR_levels 0))
      · refine z_if_le_f (M := M_X12_bytes) (tgt := 119) dX12_bytes_35 (by decide) rfl h_59 ?_
        exact absurd ⟨h_58, h_59⟩ h_53
      · refine z_if_le_t (M := M_X12_bytes) (tgt := 119) dX12_bytes_35 (by decide) rfl (Int.not_lt.mp h_59) ?_
        exact J_55
    · refine z_zeq_t (M := M_X12_bytes) (tgt := 119) dX12_bytes_28 (by decide) h_58 ?_
      exact J_55
theorem c_X12_put (hl : l.stackTraces = false) {σ : SG} {c_0 : Int} {σ' : SG}  (H : fR_put σ c_0 = some σ') : en_S l E M_X12_put 1 0 0 [vr 277, vi c_0] σ (pS (none) σ') := by
  unfold fR_put at H
  refine z_mk (lv := [some (vr 277), some (vi c_0)]) m_X12_put rfl hl (Nat.le_of_ble_eq_true rfl) rfl ?_
  refine z_aload_n (M := M_X12_put) dX12_put_0 rfl ?_
  refine z_getR (M := M_X12_put) (ci := 15) (C := RX12) (T := TX12) (Nf := 135) (ty := tyX12) cl15 dX12_put_1 ly_277 5 (by decide) t_2396 rfl ?_
  refine z_aload_n (M := M_X12_put) dX12_put_4 rfl ?_
  refine z_getI (M := M_X12_put) (ci := 15) (C := RX12) (T := TX12) (Nf := 135) (ty := tyX12) cl15 dX12_put_5 ly_277 6 (by decide) t_2397 rfl rfl ?_
  refine z_iload_n (M := M_X12_put) dX12_put_8 rfl ?_
  refine z_i2b (M := M_X12_put) dX12_put_9 ?_
  obtain ⟨σ_1, σ_1_e, hi_2, H⟩ := wa_e H
  refine z_bast (M := M_X12_put) dX12_put_10 ly_279 rfl rfl rfl hi_2 σ_1_e ?_
  refine z_aload_n (M := M_X12_put) dX12_put_11 rfl ?_
  refine z_dup (M := M_X12_put) dX12_put_12 rfl ?_
  refine z_getI (M := M_X12_put) (ci := 15) (C := RX12) (T := TX12) (Nf := 135) (ty := tyX12) cl15 dX12_put_13 ly_277 6 (by decide) t_2397 rfl rfl ?_
  refine z_iconst (M := M_X12_put) dX12_put_16 ?_
  refine z_iadd (M := M_X12_put) dX12_put_17 ?_
  obtain ⟨σ_3, σ_3_e, H⟩ := wf_e H
  refine z_putI (M := M_X12_put) (ci := 15) (C := RX12) (T := TX12) (Nf := 135) (ty := tyX12) cl15 dX12_put_18 ly_277 6 (by decide) t_2397 rfl rfl rfl rfl σ_3_e ?_
  cases H
  exact z_vret (M := M_X12_put) dX12_put_21 rfl (Nat.le_of_ble_eq_true rfl) (Nat.le_of_ble_eq_true rfl) ⟨rfl, rfl⟩
theorem c_X12_next (hl : l.stackTraces = false) {σ : SG} {r : Int} {σ' : SG}  (H : fR_next σ = some (r, σ')) : en_S l E M_X12_next 1 0 0 [vr 277] σ (pS (some (vi r)) σ') := by
  unfold fR_next at H
  refine z_mk (lv := [some (vr 277)]) m_X12_next rfl hl (Nat.le_of_ble_eq_true rfl) rfl ?_
  refine z_aload_n (M := M_X12_next) dX12_next_0 rfl ?_
  refine z_dup (M := M_X12_next) dX12_next_1 rfl ?_
  refine z_getI (M := M_X12_next) (ci := 15) (C := RX12) (T := TX12) (Nf := 135) (ty := tyX12) cl15 dX12_next_2 ly_277 30 (by decide) t_2421 rfl rfl ?_
  refine z_iconst (M := M_X12_next) dX12_next_5 ?_
  refine z_iadd (M := M_X12_next) dX12_next_6 ?_
  obtain ⟨σ_1, σ_1_e, H⟩ := wf_e H
  refine z_putI (M := M_X12_next) (ci := 15) (C := RX12) (T := TX12) (Nf := 135) (ty := tyX12) cl15 dX12_next_7 ly_277 30 (by decide) t_2421 rfl rfl rfl rfl σ_1_e ?_
  refine z_aload_n (M := M_X12_next) dX12_next_10 rfl ?_
  refine z_getR (M := M_X12_next) (ci := 15) (C := RX12) (T := TX12) (Nf := 135) (ty := tyX12) cl15 dX12_next_11 ly_277 10 (by decide) t_2401 rfl ?_
  refine z_aload_n (M := M_X12_next) dX12_next_14 rfl ?_
  refine z_getI (M := M_X12_next) (ci := 15) (C := RX12) (T := TX12) (Nf := 135) (ty := tyX12) cl15 dX12_next_15 ly_277 30 (by decide) t_2421 rfl rfl ?_
  refine z_iconst (M := M_X12_next) dX12_next_18 ?_
  refine z_isub (M := M_X12_next) dX12_next_19 ?_
  obtain ⟨x_2, x_2_e, hi_3, H⟩ := rd_e H
  refine z_iald (M := M_X12_next) dX12_next_20 ly_281 rfl rfl rfl hi_3 x_2_e ?_
  cases H
  exact z_iret (M := M_X12_next) dX12_next_21 rfl (Nat.le_of_ble_eq_true rfl) (Nat.le_of_ble_eq_true rfl) ⟨rfl, rfl⟩
theorem c_X12_putNumber (hl : l.stackTraces = false) {σ : SG} {v_0 : Int} {σ' : SG}  (H : fR_putNumber σ v_0 = some σ') : en_S l E M_X12_putNumber 2 0 0 [vr 277, vi v_0] σ (pS (none) σ') := by
  unfold fR_putNumber at H
  refine z_mk (lv := [some (vr 277), some (vi v_0), none, none, none, none, none, none, none, none]) m_X12_putNumber rfl hl (Nat.le_of_ble_eq_true rfl) rfl ?_
  have J_1 : YY l E M_X12_putNumber 2 0 0 (pS (none) σ') 12 [some (vr 277), some (vi v_0), none, none, none, none, none, none, none, none] [vl (if (w32 v_0) < 0 then (-(w32 v_0)) else (w32 v_0))] σ 0 0 := by
    refine z_lstore_n (M := M_X12_putNumber) (lv' := [some (vr 277), some (vi v_0), some (vl (if (w32 v_0) < 0 then (-(w32 v_0)) else (w32 v_0))), none, none, none, none, none, none, none]) dX12_putNumber_12 (Nat.le_of_ble_eq_true rfl) rfl rfl ?_
    obtain ⟨v_5, he_2, hk_3⟩ := bd_e H
    have J_80 : ∀ σ_11, v_5 = σ_11 → YY l E M_X12_putNumber 2 0 0 (pS (none) σ') 23 [some (vr 277), some (vi v_0), some (vl (if (w32 v_0) < 0 then (-(w32 v_0)) else (w32 v_0))), none, none, none, none, none, none, none] [] σ_11 0 0 := by
      intro σ_11 e
      have H := hk_3
      rw [e] at H
      refine z_lconst (M := M_X12_putNumber) (m := 1) dX12_putNumber_23 (by decide +kernel) ?_
      refine z_lstore (M := M_X12_putNumber) (lv' := [some (vr 277), some (vi v_0), some (vl (if (w32 v_0) < 0 then (-(w32 v_0)) else (w32 v_0))), none, some (vl 1), none, none, none, none, none]) dX12_putNumber_24 (Nat.le_of_ble_eq_true rfl) rfl rfl ?_
      obtain ⟨rl_16, hw_13, hk_14⟩ := bd_e H
      have J_79 : ∀ ten_25, rl_16 = ten_25 → YY l E M_X12_putNumber 2 0 0 (pS (none) σ') 53 [some (vr 277), some (vi v_0), some (vl (if (w32 v_0) < 0 then (-(w32 v_0)) else (w32 v_0))), none, some (vl ten_25), none, none, none, none, none] [] σ_11 0 0 := by
        intro ten_25 e
        have H := hk_14
        rw [e] at H
        obtain ⟨rl_31, hw_28, hk_29⟩ := bd_e H
        have J_78 : ∀ ten_42 σ_43, rl_31 = (ten_42, σ_43) → YY l E M_X12_putNumber 2 0 0 (pS (none) σ') 93 [some (vr 277), some (vi v_0), some (vl (if (w32 v_0) < 0 then (-(w32 v_0)) else (w32 v_0))), none, some (vl ten_42), none, none, none, none, none] [] σ_43 0 0 := by
          intro ten_42 σ_43 e
          have H := hk_29
          rw [e] at H
          refine z_lload_n (M := M_X12_putNumber) dX12_putNumber_93 rfl ?_
          refine z_aload_n (M := M_X12_putNumber) dX12_putNumber_94 rfl ?_
          refine z_getL (M := M_X12_putNumber) (ci := 15) (C := RX12) (T := TX12) (Nf := 135) (ty := tyX12) cl15 dX12_putNumber_95 ly_277 2 (by decide) t_2393 rfl rfl ?_
          obtain ⟨hd_44, H⟩ := ck_e H
          refine z_lrem (M := M_X12_putNumber) dX12_putNumber_98 hd_44 ?_
          obtain ⟨x_45, x_45_e, H⟩ := lt_e H
          refine z_st (congrArg (fun z => vl z :: []) x_45_e) ?_
          refine z_lstore (M := M_X12_putNumber) (lv' := [some (vr 277), some (vi v_0), some (vl (if (w32 v_0) < 0 then (-(w32 v_0)) else (w32 v_0))), none, some (vl ten_42), none, some (vl x_45), none, none, none]) dX12_putNumber_99 (Nat.le_of_ble_eq_true rfl) rfl rfl ?_
          obtain ⟨v_49, he_46, hk_47⟩ := bd_e H
          have J_77 : ∀ σ_55, v_49 = σ_55 → YY l E M_X12_putNumber 2 0 0 (pS (none) σ') 114 [some (vr 277), some (vi v_0), some (vl (if (w32 v_0) < 0 then (-(w32 v_0)) else (w32 v_0))), none, some (vl ten_42), none, some (vl x_45), none, none, none] [] σ_55 0 0 := by
            intro σ_55 e
            have H := hk_47
            rw [e] at H
            refine z_aload_n (M := M_X12_putNumber) dX12_putNumber_114 rfl ?_
            refine z_getL (M := M_X12_putNumber) (ci := 15) (C := RX12) (T := TX12) (Nf := 135) (ty := tyX12) cl15 dX12_putNumber_115 ly_277 2 (by decide) t_2393 rfl rfl ?_
            refine z_ldc2 (M := M_X12_putNumber) (n := 10) dX12_putNumber_118 t_2390 (by decide +kernel) ?_
            refine z_ldiv (M := M_X12_putNumber) dX12_putNumber_121 (by decide +kernel) ?_
            refine z_lstore (M := M_X12_putNumber) (lv' := [some (vr 277), some (vi v_0), some (vl (if (w32 v_0) < 0 then (-(w32 v_0)) else (w32 v_0))), none, some (vl ten_42), none, some (vl x_45), none, some (vl (q_ldv (σ_55 kR_unit 0) 10)), none]) dX12_putNumber_122 (Nat.le_of_ble_eq_true rfl) rfl rfl ?_
            obtain ⟨rl_62, hw_59, hk_60⟩ := bd_e H
            have J_76 : ∀ rest_73 u_74 σ_75, rl_62 = (rest_73, u_74, σ_75) → YY l E M_X12_putNumber 2 0 0 (pS (none) σ') 163 [some (vr 277), some (vi v_0), some (vl (if (w32 v_0) < 0 then (-(w32 v_0)) else (w32 v_0))), none, some (vl ten_42), none, some (vl rest_73), none, some (vl u_74), none] [] σ_75 0 0 := by
              intro rest_73 u_74 σ_75 e
              have H := hk_60
              rw [e] at H
              cases H
              exact z_vret (M := M_X12_putNumber) dX12_putNumber_163 rfl (Nat.le_of_ble_eq_true rfl) (Nat.le_of_ble_eq_true rfl) ⟨rfl, rfl⟩
            refine whl_go hw_59 (fun (rest_56, u_57, σ_58) => YY l E M_X12_putNumber 2 0 0 (pS (none) σ') 124 [some (vr 277), some (vi v_0), some (vl (if (w32 v_0) < 0 then (-(w32 v_0)) else (w32 v_0))), none, some (vl ten_42), none, some (vl rest_56), none, some (vl u_57), none] [] σ_58 0 0) ?_
            rintro ⟨rest_56, u_57, σ_58⟩ o_63 H K_64 K_65
            refine z_lload (M := M_X12_putNumber) dX12_putNumber_124 rfl ?_
            refine z_lconst (M := M_X12_putNumber) (m := 0) dX12_putNumber_126 (by decide +kernel) ?_
            refine z_lcmp (M := M_X12_putNumber) dX12_putNumber_127 ?_
            rcases if_e H with ⟨h_66, H⟩ | ⟨h_66, H⟩
            · refine z_lif_le_f (M := M_X12_putNumber) (tgt := 163) dX12_putNumber_128 (by decide) rfl (by decide +kernel) h_66 ?_
              refine z_aload_n (M := M_X12_putNumber) dX12_putNumber_131 rfl ?_
              refine z_ldc2 (M := M_X12_putNumber) (n := 48) dX12_putNumber_132 t_2931 (by decide +kernel) ?_
              refine z_lload (M := M_X12_putNumber) dX12_putNumber_135 rfl ?_
              refine z_lload (M := M_X12_putNumber) dX12_putNumber_137 rfl ?_
              obtain ⟨hd_67, H⟩ := ck_e H
              refine z_ldiv (M := M_X12_putNumber) dX12_putNumber_139 hd_67 ?_
              refine z_ladd (M := M_X12_putNumber) dX12_putNumber_140 ?_
              refine z_l2i (M := M_X12_putNumber) dX12_putNumber_141 ?_
              obtain ⟨σ_69, hc_68, H⟩ := bd_e H
              refine z_callV (M := M_X12_putNumber) (M' := M_X12_put) (as := [vi (48 + (q_ldv rest_56 u_57))]) (rest := []) rfl rfl dX12_putNumber_142 m_X12_put t_3045 t_3047 s_200 (c_X12_put hl  hc_68) rfl rfl ly_277 rfl (Nat.le_of_ble_eq_true rfl) (Nat.le_of_ble_eq_true rfl) (Nat.le_of_ble_eq_true rfl) (Nat.le_of_ble_eq_true rfl) ?_
              refine z_st (st' := []) rfl ?_
              refine z_lload (M := M_X12_putNumber) dX12_putNumber_145 rfl ?_
              refine z_lload (M := M_X12_putNumber) dX12_putNumber_147 rfl ?_
              obtain ⟨hd_70, H⟩ := ck_e H
              refine z_lrem (M := M_X12_putNumber) dX12_putNumber_149 hd_70 ?_
              refine z_lstore (M := M_X12_putNumber) (lv' := [some (vr 277), some (vi v_0), some (vl (if (w32 v_0) < 0 then (-(w32 v_0)) else (w32 v_0))), none, some (vl ten_42), none, some (vl (q_lrm rest_56 u_57)), none, some (vl u_57), none]) dX12_putNumber_150 (Nat.le_of_ble_eq_true rfl) rfl rfl ?_
              refine z_lload (M := M_X12_putNumber) dX12_putNumber_152 rfl ?_
              refine z_ldc2 (M := M_X12_putNumber) (n := 10) dX12_putNumber_154 t_2390 (by decide +kernel) ?_
              refine z_ldiv (M := M_X12_putNumber) dX12_putNumber_157 (by decide +kernel) ?_
              refine z_lstore (M := M_X12_putNumber) (lv' := [some (vr 277), some (vi v_0), some (vl (if (w32 v_0) < 0 then (-(w32 v_0)) else (w32 v_0))), none, some (vl ten_42), none, some (vl (q_lrm rest_56 u_57)), none, some (vl (q_ldv u_57 10)), none]) dX12_putNumber_158 (Nat.le_of_ble_eq_true rfl) rfl rfl ?_
              refine z_goto (M := M_X12_putNumber) (tgt := 124) dX12_putNumber_160 (by decide) ?_
              exact K_64 _ (Option.some.inj H).symm
            · refine z_lif_le_t (M := M_X12_putNumber) (tgt := 163) dX12_putNumber_128 (by decide) rfl (by decide +kernel) (Int.not_lt.mp h_66) ?_
              exact J_76 _ _ _ (K_65 _ (Option.some.inj H).symm).symm
          have H := he_46
          refine z_lload (M := M_X12_putNumber) dX12_putNumber_101 rfl ?_
          refine z_lconst (M := M_X12_putNumber) (m := 0) dX12_putNumber_103 (by decide +kernel) ?_
          refine z_lcmp (M := M_X12_putNumber) dX12_putNumber_104 ?_
          rcases if_e H with ⟨h_50, H⟩ | ⟨h_50, H⟩
          · refine z_lif_le_f (M := M_X12_putNumber) (tgt := 114) dX12_putNumber_105 (by decide) rfl (by decide +kernel) h_50 ?_
            refine z_aload_n (M := M_X12_putNumber) dX12_putNumber_108 rfl ?_
            refine z_bipush (M := M_X12_putNumber) dX12_putNumber_109 (by decide +kernel) ?_
            obtain ⟨σ_52, hc_51, H⟩ := bd_e H
            refine z_callV (M := M_X12_putNumber) (M' := M_X12_put) (as := [vi 46]) (rest := []) rfl rfl dX12_putNumber_111 m_X12_put t_3045 t_3047 s_200 (c_X12_put hl  hc_51) rfl rfl ly_277 rfl (Nat.le_of_ble_eq_true rfl) (Nat.le_of_ble_eq_true rfl) (Nat.le_of_ble_eq_true rfl) (Nat.le_of_ble_eq_true rfl) ?_
            refine z_st (st' := []) rfl ?_
            exact J_77 _ (Option.some.inj H).symm
          · refine z_lif_le_t (M := M_X12_putNumber) (tgt := 114) dX12_putNumber_105 (by decide) rfl (by decide +kernel) (Int.not_lt.mp h_50) ?_
            exact J_77 _ (Option.some.inj H).symm
        refine whl_go hw_28 (fun (ten_26, σ_27) => YY l E M_X12_putNumber 2 0 0 (pS (none) σ') 53 [some (vr 277), some (vi v_0), some (vl (if (w32 v_0) < 0 then (-(w32 v_0)) else (w32 v_0))), none, some (vl ten_26), none, none, none, none, none] [] σ_27 0 0) ?_
        rintro ⟨ten_26, σ_27⟩ o_32 H K_33 K_34
        refine z_lload (M := M_X12_putNumber) dX12_putNumber_53 rfl ?_
        refine z_lconst (M := M_X12_putNumber) (m := 0) dX12_putNumber_55 (by decide +kernel) ?_
        refine z_lcmp (M := M_X12_putNumber) dX12_putNumber_56 ?_
        rcases if_e H with ⟨h_35, H⟩ | ⟨h_35, H⟩
        · refine z_lif_le_f (M := M_X12_putNumber) (tgt := 93) dX12_putNumber_57 (by decide) rfl (by decide +kernel) h_35 ?_
          refine z_aload_n (M := M_X12_putNumber) dX12_putNumber_60 rfl ?_
          refine z_ldc2 (M := M_X12_putNumber) (n := 48) dX12_putNumber_61 t_2931 (by decide +kernel) ?_
          refine z_lload_n (M := M_X12_putNumber) dX12_putNumber_64 rfl ?_
          refine z_aload_n (M := M_X12_putNumber) dX12_putNumber_65 rfl ?_
          refine z_getL (M := M_X12_putNumber) (ci := 15) (C := RX12) (T := TX12) (Nf := 135) (ty := tyX12) cl15 dX12_putNumber_66 ly_277 2 (by decide) t_2393 rfl rfl ?_
          obtain ⟨hd_36, H⟩ := ck_e H
          refine z_ldiv (M := M_X12_putNumber) dX12_putNumber_69 hd_36 ?_
          refine z_lload (M := M_X12_putNumber) dX12_putNumber_70 rfl ?_
          obtain ⟨hd_37, H⟩ := ck_e H
          refine z_ldiv (M := M_X12_putNumber) dX12_putNumber_72 hd_37 ?_
          refine z_ldc2 (M := M_X12_putNumber) (n := 10) dX12_putNumber_73 t_2390 (by decide +kernel) ?_
          refine z_lrem (M := M_X12_putNumber) dX12_putNumber_76 (by decide +kernel) ?_
          refine z_ladd (M := M_X12_putNumber) dX12_putNumber_77 ?_
          refine z_l2i (M := M_X12_putNumber) dX12_putNumber_78 ?_
          obtain ⟨σ_39, hc_38, H⟩ := bd_e H
          refine z_callV (M := M_X12_putNumber) (M' := M_X12_put) (as := [vi (48 + (q_lrm (q_ldv (q_ldv (if (w32 v_0) < 0 then (-(w32 v_0)) else (w32 v_0)) (σ_27 kR_unit 0)) ten_26) 10))]) (rest := []) rfl rfl dX12_putNumber_79 m_X12_put t_3045 t_3047 s_200 (c_X12_put hl  hc_38) rfl rfl ly_277 rfl (Nat.le_of_ble_eq_true rfl) (Nat.le_of_ble_eq_true rfl) (Nat.le_of_ble_eq_true rfl) (Nat.le_of_ble_eq_true rfl) ?_
          refine z_st (st' := []) rfl ?_
          refine z_lload (M := M_X12_putNumber) dX12_putNumber_82 rfl ?_
          refine z_ldc2 (M := M_X12_putNumber) (n := 10) dX12_putNumber_84 t_2390 (by decide +kernel) ?_
          refine z_ldiv (M := M_X12_putNumber) dX12_putNumber_87 (by decide +kernel) ?_
          refine z_lstore (M := M_X12_putNumber) (lv' := [some (vr 277), some (vi v_0), some (vl (if (w32 v_0) < 0 then (-(w32 v_0)) else (w32 v_0))), none, some (vl (q_ldv ten_26 10)), none, none, none, none, none]) dX12_putNumber_88 (Nat.le_of_ble_eq_true rfl) rfl rfl ?_
          refine z_goto (M := M_X12_putNumber) (tgt := 53) dX12_putNumber_90 (by decide) ?_
          exact K_33 _ (Option.some.inj H).symm
        · refine z_lif_le_t (M := M_X12_putNumber) (tgt := 93) dX12_putNumber_57 (by decide) rfl (by decide +kernel) (Int.not_lt.mp h_35) ?_
          exact J_78 _ _ (K_34 _ (Option.some.inj H).symm).symm
      refine whl_go hw_13 (fun ten_12 => YY l E M_X12_putNumber 2 0 0 (pS (none) σ') 26 [some (vr 277), some (vi v_0), some (vl (if (w32 v_0) < 0 then (-(w32 v_0)) else (w32 v_0))), none, some (vl ten_12), none, none, none, none, none] [] σ_11 0 0) ?_
      rintro ten_12 o_17 H K_18 K_19
      refine z_lload_n (M := M_X12_putNumber) dX12_putNumber_26 rfl ?_
      refine z_aload_n (M := M_X12_putNumber) dX12_putNumber_27 rfl ?_
      refine z_getL (M := M_X12_putNumber) (ci := 15) (C := RX12) (T := TX12) (Nf := 135) (ty := tyX12) cl15 dX12_putNumber_28 ly_277 2 (by decide) t_2393 rfl rfl ?_
      obtain ⟨hd_20, H⟩ := ck_e H
      refine z_ldiv (M := M_X12_putNumber) dX12_putNumber_31 hd_20 ?_
      refine z_lload (M := M_X12_putNumber) dX12_putNumber_32 rfl ?_
      obtain ⟨hd_21, H⟩ := ck_e H
      refine z_ldiv (M := M_X12_putNumber) dX12_putNumber_34 hd_21 ?_
      refine z_ldc2 (M := M_X12_putNumber) (n := 9) dX12_putNumber_35 t_3061 (by decide +kernel) ?_
      refine z_lcmp (M := M_X12_putNumber) dX12_putNumber_38 ?_
      rcases if_e H with ⟨h_22, H⟩ | ⟨h_22, H⟩
      · refine z_lif_le_f (M := M_X12_putNumber) (tgt := 53) dX12_putNumber_39 (by decide) rfl (by decide +kernel) h_22 ?_
        refine z_lload (M := M_X12_putNumber) dX12_putNumber_42 rfl ?_
        refine z_ldc2 (M := M_X12_putNumber) (n := 10) dX12_putNumber_44 t_2390 (by decide +kernel) ?_
        refine z_lmul (M := M_X12_putNumber) dX12_putNumber_47 ?_
        refine z_lstore (M := M_X12_putNumber) (lv' := [some (vr 277), some (vi v_0), some (vl (if (w32 v_0) < 0 then (-(w32 v_0)) else (w32 v_0))), none, some (vl (ten_12 * 10)), none, none, none, none, none]) dX12_putNumber_48 (Nat.le_of_ble_eq_true rfl) rfl rfl ?_
        refine z_goto (M := M_X12_putNumber) (tgt := 26) dX12_putNumber_50 (by decide) ?_
        exact K_18 _ (Option.some.inj H).symm
      · refine z_lif_le_t (M := M_X12_putNumber) (tgt := 53) dX12_putNumber_39 (by decide) rfl (by decide +kernel) (Int.not_lt.mp h_22) ?_
        exact J_79 _ (K_19 _ (Option.some.inj H).symm).symm
    have H := he_2
    refine z_iload_n (M := M_X12_putNumber) dX12_putNumber_13 rfl ?_
    rcases if_e H with ⟨h_6, H⟩ | ⟨h_6, H⟩
    · refine z_if_ge_f (M := M_X12_putNumber) (tgt := 23) dX12_putNumber_14 (by decide) rfl h_6 ?_
      refine z_aload_n (M := M_X12_putNumber) dX12_putNumber_17 rfl ?_
      refine z_bipush (M := M_X12_putNumber) dX12_putNumber_18 (by decide +kernel) ?_
      obtain ⟨σ_8, hc_7, H⟩ := bd_e H
      refine z_callV (M := M_X12_putNumber) (M' := M_X12_put) (as := [vi 45]) (rest := []) rfl rfl dX12_putNumber_20 m_X12_put t_3045 t_3047 s_200 (c_X12_put hl  hc_7) rfl rfl ly_277 rfl (Nat.le_of_ble_eq_true rfl) (Nat.le_of_ble_eq_true rfl) (Nat.le_of_ble_eq_true rfl) (Nat.le_of_ble_eq_true rfl) ?_
      refine z_st (st' := []) rfl ?_
      exact J_80 _ (Option.some.inj H).symm
    · refine z_if_ge_t (M := M_X12_putNumber) (tgt := 23) dX12_putNumber_14 (by decide) rfl (Int.not_lt.mp h_6) ?_
      exact J_80 _ (Option.some.inj H).symm
  refine z_iload_n (M := M_X12_putNumber) dX12_putNumber_0 rfl ?_
  by_cases h_81 : (w32 v_0) < 0
  · refine z_if_ge_f (M := M_X12_putNumber) (tgt := 10) dX12_putNumber_1 (by decide) rfl h_81 ?_
    refine z_iload_n (M := M_X12_putNumber) dX12_putNumber_4 rfl ?_
    refine z_i2l (M := M_X12_putNumber) dX12_putNumber_5 ?_
    refine z_lneg (M := M_X12_putNumber) dX12_putNumber_6 ?_
    refine z_goto (M := M_X12_putNumber) (tgt := 12) dX12_putNumber_7 (by decide) ?_
    exact z_st (by rw [if_pos (c := (w32 v_0) < 0) h_81]) J_1
  · refine z_if_ge_t (M := M_X12_putNumber) (tgt := 10) dX12_putNumber_1 (by decide) rfl (Int.not_lt.mp h_81) ?_
    refine z_iload_n (M := M_X12_putNumber) dX12_putNumber_10 rfl ?_
    refine z_i2l (M := M_X12_putNumber) dX12_putNumber_11 ?_
    exact z_st (by rw [if_neg (c := (w32 v_0) < 0) h_81]) J_1
theorem c_X12_putRow (hl : l.stackTraces = false) {σ : SG} {n_0 : Int} {σ' : SG}  (H : fR_putRow σ n_0 = some σ') : en_S l E M_X12_putRow 3 0 0 [vr 277, vi n_0] σ (pS (none) σ') := by
  unfold fR_putRow at H
  refine z_mk (lv := [some (vr 277), some (vi n_0), none]) m_X12_putRow rfl hl (Nat.le_of_ble_eq_true rfl) rfl ?_
  refine z_iconst (M := M_X12_putRow) dX12_putRow_0 ?_
  refine z_istore_n (M := M_X12_putRow) (lv' := [some (vr 277), some (vi n_0), some (vi 0)]) dX12_putRow_1 (Nat.le_of_ble_eq_true rfl) rfl rfl ?_
  obtain ⟨rl_6, hw_3, hk_4⟩ := bd_e H
  have J_48 : ∀ k_46 σ_47, rl_6 = (k_46, σ_47) → YY l E M_X12_putRow 3 0 0 (pS (none) σ') 75 [some (vr 277), some (vi n_0), some (vi k_46)] [] σ_47 0 0 := by
    intro k_46 σ_47 e
    have H := hk_4
    rw [e] at H
    cases H
    exact z_vret (M := M_X12_putRow) dX12_putRow_75 rfl (Nat.le_of_ble_eq_true rfl) (Nat.le_of_ble_eq_true rfl) ⟨rfl, rfl⟩
  refine whl_go hw_3 (fun (k_1, σ_2) => YY l E M_X12_putRow 3 0 0 (pS (none) σ') 2 [some (vr 277), some (vi n_0), some (vi k_1)] [] σ_2 0 0) ?_
  rintro ⟨k_1, σ_2⟩ o_7 H K_8 K_9
  refine z_iload_n (M := M_X12_putRow) dX12_putRow_2 rfl ?_
  refine z_iload_n (M := M_X12_putRow) dX12_putRow_3 rfl ?_
  rcases if_e H with ⟨h_10, H⟩ | ⟨h_10, H⟩
  · refine z_icmp_ge_f (M := M_X12_putRow) (tgt := 75) dX12_putRow_4 (by decide) rfl rfl h_10 ?_
    obtain ⟨v_14, he_11, hk_12⟩ := bd_e H
    have J_44 : ∀ σ_20, v_14 = σ_20 → YY l E M_X12_putRow 3 0 0 (pS (none) σ') 17 [some (vr 277), some (vi n_0), some (vi k_1)] [] σ_20 0 0 := by
      intro σ_20 e
      have H := hk_12
      rw [e] at H
      obtain ⟨v_24, he_21, hk_22⟩ := bd_e H
      have J_43 : ∀ σ_30, v_24 = σ_30 → YY l E M_X12_putRow 3 0 0 (pS (none) σ') 27 [some (vr 277), some (vi n_0), some (vi k_1)] [] σ_30 0 0 := by
        intro σ_30 e
        have H := hk_22
        rw [e] at H
        refine z_aload_n (M := M_X12_putRow) dX12_putRow_27 rfl ?_
        refine z_aload_n (M := M_X12_putRow) dX12_putRow_28 rfl ?_
        refine z_getR (M := M_X12_putRow) (ci := 15) (C := RX12) (T := TX12) (Nf := 135) (ty := tyX12) cl15 dX12_putRow_29 ly_277 12 (by decide) t_2403 rfl ?_
        refine z_aload_n (M := M_X12_putRow) dX12_putRow_32 rfl ?_
        refine z_getI (M := M_X12_putRow) (ci := 15) (C := RX12) (T := TX12) (Nf := 135) (ty := tyX12) cl15 dX12_putRow_33 ly_277 31 (by decide) t_2422 rfl rfl ?_
        obtain ⟨x_31, x_31_e, hi_32, H⟩ := rd_e H
        refine z_iald (M := M_X12_putRow) dX12_putRow_36 ly_283 rfl rfl rfl hi_32 x_31_e ?_
        obtain ⟨σ_34, hc_33, H⟩ := bd_e H
        refine z_callV (M := M_X12_putRow) (M' := M_X12_putNumber) (as := [vi x_31]) (rest := []) rfl rfl dX12_putRow_37 m_X12_putNumber t_3057 t_3059 s_203 (c_X12_putNumber hl  hc_33) rfl rfl ly_277 rfl (Nat.le_of_ble_eq_true rfl) (Nat.le_of_ble_eq_true rfl) (Nat.le_of_ble_eq_true rfl) (Nat.le_of_ble_eq_true rfl) ?_
        refine z_st (st' := []) rfl ?_
        refine z_aload_n (M := M_X12_putRow) dX12_putRow_40 rfl ?_
        refine z_bipush (M := M_X12_putRow) dX12_putRow_41 (by decide +kernel) ?_
        obtain ⟨σ_36, hc_35, H⟩ := bd_e H
        refine z_callV (M := M_X12_putRow) (M' := M_X12_put) (as := [vi 32]) (rest := []) rfl rfl dX12_putRow_43 m_X12_put t_3045 t_3047 s_200 (c_X12_put hl  hc_35) rfl rfl ly_277 rfl (Nat.le_of_ble_eq_true rfl) (Nat.le_of_ble_eq_true rfl) (Nat.le_of_ble_eq_true rfl) (Nat.le_of_ble_eq_true rfl) ?_
        refine z_st (st' := []) rfl ?_
        refine z_aload_n (M := M_X12_putRow) dX12_putRow_46 rfl ?_
        refine z_aload_n (M := M_X12_putRow) dX12_putRow_47 rfl ?_
        refine z_getR (M := M_X12_putRow) (ci := 15) (C := RX12) (T := TX12) (Nf := 135) (ty := tyX12) cl15 dX12_putRow_48 ly_277 13 (by decide) t_2404 rfl ?_
        refine z_aload_n (M := M_X12_putRow) dX12_putRow_51 rfl ?_
        refine z_getI (M := M_X12_putRow) (ci := 15) (C := RX12) (T := TX12) (Nf := 135) (ty := tyX12) cl15 dX12_putRow_52 ly_277 31 (by decide) t_2422 rfl rfl ?_
        obtain ⟨x_37, x_37_e, hi_38, H⟩ := rd_e H
        refine z_iald (M := M_X12_putRow) dX12_putRow_55 ly_284 rfl rfl rfl hi_38 x_37_e ?_
        obtain ⟨σ_40, hc_39, H⟩ := bd_e H
        refine z_callV (M := M_X12_putRow) (M' := M_X12_putNumber) (as := [vi x_37]) (rest := []) rfl rfl dX12_putRow_56 m_X12_putNumber t_3057 t_3059 s_203 (c_X12_putNumber hl  hc_39) rfl rfl ly_277 rfl (Nat.le_of_ble_eq_true rfl) (Nat.le_of_ble_eq_true rfl) (Nat.le_of_ble_eq_true rfl) (Nat.le_of_ble_eq_true rfl) ?_
        refine z_st (st' := []) rfl ?_
        refine z_aload_n (M := M_X12_putRow) dX12_putRow_59 rfl ?_
        refine z_dup (M := M_X12_putRow) dX12_putRow_60 rfl ?_
        refine z_getI (M := M_X12_putRow) (ci := 15) (C := RX12) (T := TX12) (Nf := 135) (ty := tyX12) cl15 dX12_putRow_61 ly_277 31 (by decide) t_2422 rfl rfl ?_
        refine z_iconst (M := M_X12_putRow) dX12_putRow_64 ?_
        refine z_iadd (M := M_X12_putRow) dX12_putRow_65 ?_
        obtain ⟨σ_41, σ_41_e, H⟩ := wf_e H
        refine z_putI (M := M_X12_putRow) (ci := 15) (C := RX12) (T := TX12) (Nf := 135) (ty := tyX12) cl15 dX12_putRow_66 ly_277 31 (by decide) t_2422 rfl rfl rfl rfl σ_41_e ?_
        refine z_iinc (M := M_X12_putRow) (lv' := [some (vr 277), some (vi n_0), some (vi (k_1 + 1))]) dX12_putRow_69 rfl (Nat.le_of_ble_eq_true rfl) rfl rfl ?_
        refine z_goto (M := M_X12_putRow) (tgt := 2) dX12_putRow_72 (by decide) ?_
        exact K_8 _ (Option.some.inj H).symm
      have H := he_21
      refine z_iload_n (M := M_X12_putRow) dX12_putRow_17 rfl ?_
      rcases if_e H with ⟨h_25, H⟩ | ⟨h_25, H⟩
      · refine z_if_le_f (M := M_X12_putRow) (tgt := 27) dX12_putRow_18 (by decide) rfl h_25 ?_
        refine z_aload_n (M := M_X12_putRow) dX12_putRow_21 rfl ?_
        refine z_bipush (M := M_X12_putRow) dX12_putRow_22 (by decide +kernel) ?_
        obtain ⟨σ_27, hc_26, H⟩ := bd_e H
        refine z_callV (M := M_X12_putRow) (M' := M_X12_put) (as := [vi 32]) (rest := []) rfl rfl dX12_putRow_24 m_X12_put t_3045 t_3047 s_200 (c_X12_put hl  hc_26) rfl rfl ly_277 rfl (Nat.le_of_ble_eq_true rfl) (Nat.le_of_ble_eq_true rfl) (Nat.le_of_ble_eq_true rfl) (Nat.le_of_ble_eq_true rfl) ?_
        refine z_st (st' := []) rfl ?_
        exact J_43 _ (Option.some.inj H).symm
      · refine z_if_le_t (M := M_X12_putRow) (tgt := 27) dX12_putRow_18 (by decide) rfl (Int.not_lt.mp h_25) ?_
        exact J_43 _ (Option.some.inj H).symm
    have H := he_11
    refine z_iload_n (M := M_X12_putRow) dX12_putRow_7 rfl ?_
    rcases if_e H with ⟨h_15, H⟩ | ⟨h_15, H⟩
    · refine z_if_le_f (M := M_X12_putRow) (tgt := 17) dX12_putRow_8 (by decide) rfl h_15 ?_
      refine z_aload_n (M := M_X12_putRow) dX12_putRow_11 rfl ?_
      refine z_bipush (M := M_X12_putRow) dX12_putRow_12 (by decide +kernel) ?_
      obtain ⟨σ_17, hc_16, H⟩ := bd_e H
      refine z_callV (M := M_X12_putRow) (M' := M_X12_put) (as := [vi 44]) (rest := []) rfl rfl dX12_putRow_14 m_X12_put t_3045 t_3047 s_200 (c_X12_put hl  hc_16) rfl rfl ly_277 rfl (Nat.le_of_ble_eq_true rfl) (Nat.le_of_ble_eq_true rfl) (Nat.le_of_ble_eq_true rfl) (Nat.le_of_ble_eq_true rfl) ?_
      refine z_st (st' := []) rfl ?_
      exact J_44 _ (Option.some.inj H).symm
    · refine z_if_le_t (M := M_X12_putRow) (tgt := 17) dX12_putRow_8 (by decide) rfl (Int.not_lt.mp h_15) ?_
      exact J_44 _ (Option.some.inj H).symm
  · refine z_icmp_ge_t (M := M_X12_putRow) (tgt := 75) dX12_putRow_4 (by decide) rfl rfl (Int.not_lt.mp h_10) ?_
    exact J_48 _ _ (K_9 _ (Option.some.inj H).symm).symm
theorem c_X12_putRings (hl : l.stackTraces = false) {σ : SG} {n_0 : Int} {σ' : SG}  (H : fR_putRings σ n_0 = some σ') : en_S l E M_X12_putRings 4 0 0 [vr 277, vi n_0] σ (pS (none) σ') := by
  unfold fR_putRings at H
  refine z_mk (lv := [some (vr 277), some (vi n_0), none]) m_X12_putRings rfl hl (Nat.le_of_ble_eq_true rfl) rfl ?_
  refine z_iconst (M := M_X12_putRings) dX12_putRings_0 ?_
  refine z_istore_n (M := M_X12_putRings) (lv' := [some (vr 277), some (vi n_0), some (vi 0)]) dX12_putRings_1 (Nat.le_of_ble_eq_true rfl) rfl rfl ?_
  obtain ⟨rl_6, hw_3, hk_4⟩ := bd_e H
  have J_46 : ∀ k_44 σ_45, rl_6 = (k_44, σ_45) → YY l E M_X12_putRings 4 0 0 (pS (none) σ') 53 [some (vr 277), some (vi n_0), some (vi k_44)] [] σ_45 0 0 := by
    intro k_44 σ_45 e
    have H := hk_4
    rw [e] at H
    cases H
    exact z_vret (M := M_X12_putRings) dX12_putRings_53 rfl (Nat.le_of_ble_eq_true rfl) (Nat.le_of_ble_eq_true rfl) ⟨rfl, rfl⟩
  refine whl_go hw_3 (fun (k_1, σ_2) => YY l E M_X12_putRings 4 0 0 (pS (none) σ') 2 [some (vr 277), some (vi n_0), some (vi k_1)] [] σ_2 0 0) ?_
  rintro ⟨k_1, σ_2⟩ o_7 H K_8 K_9
  refine z_iload_n (M := M_X12_putRings) dX12_putRings_2 rfl ?_
  refine z_iload_n (M := M_X12_putRings) dX12_putRings_3 rfl ?_
  rcases if_e H with ⟨h_10, H⟩ | ⟨h_10, H⟩
  · refine z_icmp_ge_f (M := M_X12_putRings) (tgt := 53) dX12_putRings_4 (by decide) rfl rfl h_10 ?_
    obtain ⟨v_14, he_11, hk_12⟩ := bd_e H
    have J_42 : ∀ σ_20, v_14 = σ_20 → YY l E M_X12_putRings 4 0 0 (pS (none) σ') 17 [some (vr 277), some (vi n_0), some (vi k_1)] [] σ_20 0 0 := by
      intro σ_20 e
      have H := hk_12
      rw [e] at H
      obtain ⟨v_24, he_21, hk_22⟩ := bd_e H
      have J_41 : ∀ σ_30, v_24 = σ_30 → YY l E M_X12_putRings 4 0 0 (pS (none) σ') 27 [some (vr 277), some (vi n_0), some (vi k_1)] [] σ_30 0 0 := by
        intro σ_30 e
        have H := hk_22
        rw [e] at H
        refine z_aload_n (M := M_X12_putRings) dX12_putRings_27 rfl ?_
        refine z_bipush (M := M_X12_putRings) dX12_putRings_28 (by decide +kernel) ?_
        obtain ⟨σ_32, hc_31, H⟩ := bd_e H
        refine z_callV (M := M_X12_putRings) (M' := M_X12_put) (as := [vi 40]) (rest := []) rfl rfl dX12_putRings_30 m_X12_put t_3045 t_3047 s_200 (c_X12_put hl  hc_31) rfl rfl ly_277 rfl (Nat.le_of_ble_eq_true rfl) (Nat.le_of_ble_eq_true rfl) (Nat.le_of_ble_eq_true rfl) (Nat.le_of_ble_eq_true rfl) ?_
        refine z_st (st' := []) rfl ?_
        refine z_aload_n (M := M_X12_putRings) dX12_putRings_33 rfl ?_
        refine z_aload_n (M := M_X12_putRings) dX12_putRings_34 rfl ?_
        obtain ⟨⟨x_35, σ_34⟩, hc_33, H⟩ := bd_e H
        refine z_callV (M := M_X12_putRings) (M' := M_X12_next) (as := []) (rest := [vr 277]) rfl rfl dX12_putRings_35 m_X12_next t_3037 t_3039 s_198 (c_X12_next hl  hc_33) rfl rfl ly_277 rfl (Nat.le_of_ble_eq_true rfl) (Nat.le_of_ble_eq_true rfl) (Nat.le_of_ble_eq_true rfl) (Nat.le_of_ble_eq_true rfl) ?_
        refine z_st (st' := [vi x_35, vr 277]) rfl ?_
        obtain ⟨σ_37, hc_36, H⟩ := bd_e H
        refine z_callV (M := M_X12_putRings) (M' := M_X12_putRow) (as := [vi x_35]) (rest := []) rfl rfl dX12_putRings_38 m_X12_putRow t_3053 t_3055 s_202 (c_X12_putRow hl  hc_36) rfl rfl ly_277 rfl (Nat.le_of_ble_eq_true rfl) (Nat.le_of_ble_eq_true rfl) (Nat.le_of_ble_eq_true rfl) (Nat.le_of_ble_eq_true rfl) ?_
        refine z_st (st' := []) rfl ?_
        refine z_aload_n (M := M_X12_putRings) dX12_putRings_41 rfl ?_
        refine z_bipush (M := M_X12_putRings) dX12_putRings_42 (by decide +kernel) ?_
        obtain ⟨σ_39, hc_38, H⟩ := bd_e H
        refine z_callV (M := M_X12_putRings) (M' := M_X12_put) (as := [vi 41]) (rest := []) rfl rfl dX12_putRings_44 m_X12_put t_3045 t_3047 s_200 (c_X12_put hl  hc_38) rfl rfl ly_277 rfl (Nat.le_of_ble_eq_true rfl) (Nat.le_of_ble_eq_true rfl) (Nat.le_of_ble_eq_true rfl) (Nat.le_of_ble_eq_true rfl) ?_
        refine z_st (st' := []) rfl ?_
        refine z_iinc (M := M_X12_putRings) (lv' := [some (vr 277), some (vi n_0), some (vi (k_1 + 1))]) dX12_putRings_47 rfl (Nat.le_of_ble_eq_true rfl) rfl rfl ?_
        refine z_goto (M := M_X12_putRings) (tgt := 2) dX12_putRings_50 (by decide) ?_
        exact K_8 _ (Option.some.inj H).symm
      have H := he_21
      refine z_iload_n (M := M_X12_putRings) dX12_putRings_17 rfl ?_
      rcases if_e H with ⟨h_25, H⟩ | ⟨h_25, H⟩
      · refine z_if_le_f (M := M_X12_putRings) (tgt := 27) dX12_putRings_18 (by decide) rfl h_25 ?_
        refine z_aload_n (M := M_X12_putRings) dX12_putRings_21 rfl ?_
        refine z_bipush (M := M_X12_putRings) dX12_putRings_22 (by decide +kernel) ?_
        obtain ⟨σ_27, hc_26, H⟩ := bd_e H
        refine z_callV (M := M_X12_putRings) (M' := M_X12_put) (as := [vi 32]) (rest := []) rfl rfl dX12_putRings_24 m_X12_put t_3045 t_3047 s_200 (c_X12_put hl  hc_26) rfl rfl ly_277 rfl (Nat.le_of_ble_eq_true rfl) (Nat.le_of_ble_eq_true rfl) (Nat.le_of_ble_eq_true rfl) (Nat.le_of_ble_eq_true rfl) ?_
        refine z_st (st' := []) rfl ?_
        exact J_41 _ (Option.some.inj H).symm
      · refine z_if_le_t (M := M_X12_putRings) (tgt := 27) dX12_putRings_18 (by decide) rfl (Int.not_lt.mp h_25) ?_
        exact J_41 _ (Option.some.inj H).symm
    have H := he_11
    refine z_iload_n (M := M_X12_putRings) dX12_putRings_7 rfl ?_
    rcases if_e H with ⟨h_15, H⟩ | ⟨h_15, H⟩
    · refine z_if_le_f (M := M_X12_putRings) (tgt := 17) dX12_putRings_8 (by decide) rfl h_15 ?_
      refine z_aload_n (M := M_X12_putRings) dX12_putRings_11 rfl ?_
      refine z_bipush (M := M_X12_putRings) dX12_putRings_12 (by decide +kernel) ?_
      obtain ⟨σ_17, hc_16, H⟩ := bd_e H
      refine z_callV (M := M_X12_putRings) (M' := M_X12_put) (as := [vi 44]) (rest := []) rfl rfl dX12_putRings_14 m_X12_put t_3045 t_3047 s_200 (c_X12_put hl  hc_16) rfl rfl ly_277 rfl (Nat.le_of_ble_eq_true rfl) (Nat.le_of_ble_eq_true rfl) (Nat.le_of_ble_eq_true rfl) (Nat.le_of_ble_eq_true rfl) ?_
      refine z_st (st' := []) rfl ?_
      exact J_42 _ (Option.some.inj H).symm
    · refine z_if_le_t (M := M_X12_putRings) (tgt := 17) dX12_putRings_8 (by decide) rfl (Int.not_lt.mp h_15) ?_
      exact J_42 _ (Option.some.inj H).symm
  · refine z_icmp_ge_t (M := M_X12_putRings) (tgt := 53) dX12_putRings_4 (by decide) rfl rfl (Int.not_lt.mp h_10) ?_
    exact J_46 _ _ (K_9 _ (Option.some.inj H).symm).symm
theorem c_X12_leadsOn (hl : l.stackTraces = false) {σ : SG} {r : Bool} {σ' : SG}  (H : fR_leadsOn σ = some (r, σ')) : en_S l E M_X12_leadsOn 2 0 0 [vr 277] σ (pS (some (zv r)) σ') := by
  unfold fR_leadsOn at H
  refine z_mk (lv := [some (vr 277)]) m_X12_leadsOn rfl hl (Nat.le_of_ble_eq_true rfl) rfl ?_
  obtain ⟨rl_5, hw_2, hk_3, hk_4⟩ := bx_e H
  have J_27 : ∀ σ_26, rl_5 = (.inl σ_26) → YY l E M_X12_leadsOn 2 0 0 (pS (some (zv r)) σ') 71 [some (vr 277)] [] σ_26 0 0 := by
    intro σ_26 e
    have H := hk_3 _ e
    refine z_zconst (M := M_X12_leadsOn) (b := false) dX12_leadsOn_71 rfl ?_
    cases H
    exact z_zret (M := M_X12_leadsOn) dX12_leadsOn_72 rfl (Nat.le_of_ble_eq_true rfl) (Nat.le_of_ble_eq_true rfl) ⟨rfl, rfl⟩
  refine whl_go hw_2 (fun σ_1 => YY l E M_X12_leadsOn 2 0 0 (pS (some (zv r)) σ') 0 [some (vr 277)] [] σ_1 0 0) ?_
  rintro σ_1 o_6 H K_7 K_8
  refine z_aload_n (M := M_X12_leadsOn) dX12_leadsOn_0 rfl ?_
  refine z_getI (M := M_X12_leadsOn) (ci := 15) (C := RX12) (T := TX12) (Nf := 135) (ty := tyX12) cl15 dX12_leadsOn_1 ly_277 29 (by decide) t_2420 rfl rfl ?_
  rcases if_e H with ⟨h_9, H⟩ | ⟨h_9, H⟩
  · refine z_if_le_f (M := M_X12_leadsOn) (tgt := 71) dX12_leadsOn_4 (by decide) rfl h_9 ?_
    refine z_aload_n (M := M_X12_leadsOn) dX12_leadsOn_7 rfl ?_
    refine z_getR (M := M_X12_leadsOn) (ci := 15) (C := RX12) (T := TX12) (Nf := 135) (ty := tyX12) cl15 dX12_leadsOn_8 ly_277 27 (by decide) t_2418 rfl ?_
    refine z_aload_n (M := M_X12_leadsOn) dX12_leadsOn_11 rfl ?_
    refine z_getI (M := M_X12_leadsOn) (ci := 15) (C := RX12) (T := TX12) (Nf := 135) (ty := tyX12) cl15 dX12_leadsOn_12 ly_277 29 (by decide) t_2420 rfl rfl ?_
    refine z_iconst (M := M_X12_leadsOn) dX12_leadsOn_15 ?_
    refine z_isub (M := M_X12_leadsOn) dX12_leadsOn_16 ?_
    refine z_dup2 (M := M_X12_leadsOn) dX12_leadsOn_17 rfl rfl ?_
    obtain ⟨x_10, x_10_e, hi_11, H⟩ := rd_e H
    refine z_lald (M := M_X12_leadsOn) dX12_leadsOn_18 ly_288 rfl rfl rfl hi_11 x_10_e ?_
    refine z_lconst (M := M_X12_leadsOn) (m := 1) dX12_leadsOn_19 (by decide +kernel) ?_
    refine z_lsub (M := M_X12_leadsOn) dX12_leadsOn_20 ?_
    obtain ⟨σ_12, σ_12_e, hi_13, H⟩ := wa_e H
    refine z_last (M := M_X12_leadsOn) dX12_leadsOn_21 ly_288 rfl rfl rfl hi_13 σ_12_e ?_
    refine z_aload_n (M := M_X12_leadsOn) dX12_leadsOn_22 rfl ?_
    refine z_getR (M := M_X12_leadsOn) (ci := 15) (C := RX12) (T := TX12) (Nf := 135) (ty := tyX12) cl15 dX12_leadsOn_23 ly_277 27 (by decide) t_2418 rfl ?_
    refine z_aload_n (M := M_X12_leadsOn) dX12_leadsOn_26 rfl ?_
    refine z_getI (M := M_X12_leadsOn) (ci := 15) (C := RX12) (T := TX12) (Nf := 135) (ty := tyX12) cl15 dX12_leadsOn_27 ly_277 29 (by decide) t_2420 rfl rfl ?_
    refine z_iconst (M := M_X12_leadsOn) dX12_leadsOn_30 ?_
    refine z_isub (M := M_X12_leadsOn) dX12_leadsOn_31 ?_
    obtain ⟨x_14, x_14_e, hi_15, H⟩ := rd_e H
    refine z_lald (M := M_X12_leadsOn) dX12_leadsOn_32 ly_288 rfl rfl rfl hi_15 x_14_e ?_
    refine z_lconst (M := M_X12_leadsOn) (m := 0) dX12_leadsOn_33 (by decide +kernel) ?_
    refine z_lcmp (M := M_X12_leadsOn) dX12_leadsOn_34 ?_
    rcases if_e H with ⟨h_16, H⟩ | ⟨h_16, H⟩
    · refine z_lif_le_f (M := M_X12_leadsOn) (tgt := 52) dX12_leadsOn_35 (by decide) rfl (by decide +kernel) h_16 ?_
      refine z_aload_n (M := M_X12_leadsOn) dX12_leadsOn_38 rfl ?_
      refine z_bipush (M := M_X12_leadsOn) dX12_leadsOn_39 (by decide +kernel) ?_
      obtain ⟨σ_18, hc_17, H⟩ := bd_e H
      refine z_callV (M := M_X12_leadsOn) (M' := M_X12_put) (as := [vi 44]) (rest := []) rfl rfl dX12_leadsOn_41 m_X12_put t_3045 t_3047 s_200 (c_X12_put hl  hc_17) rfl rfl ly_277 rfl (Nat.le_of_ble_eq_true rfl) (Nat.le_of_ble_eq_true rfl) (Nat.le_of_ble_eq_true rfl) (Nat.le_of_ble_eq_true rfl) ?_
      refine z_st (st' := []) rfl ?_
      refine z_aload_n (M := M_X12_leadsOn) dX12_leadsOn_44 rfl ?_
      refine z_bipush (M := M_X12_leadsOn) dX12_leadsOn_45 (by decide +kernel) ?_
      obtain ⟨σ_20, hc_19, H⟩ := bd_e H
      refine z_callV (M := M_X12_leadsOn) (M' := M_X12_put) (as := [vi 32]) (rest := []) rfl rfl dX12_leadsOn_47 m_X12_put t_3045 t_3047 s_200 (c_X12_put hl  hc_19) rfl rfl ly_277 rfl (Nat.le_of_ble_eq_true rfl) (Nat.le_of_ble_eq_true rfl) (Nat.le_of_ble_eq_true rfl) (Nat.le_of_ble_eq_true rfl) ?_
      refine z_st (st' := []) rfl ?_
      refine z_zconst (M := M_X12_leadsOn) (b := true) dX12_leadsOn_50 rfl ?_
      have H := congrArg some (hk_4 _ ((K_8 _ (Option.some.inj H).symm).symm))
      cases H
      exact z_zret (M := M_X12_leadsOn) dX12_leadsOn_51 rfl (Nat.le_of_ble_eq_true rfl) (Nat.le_of_ble_eq_true rfl) ⟨rfl, rfl⟩
    · refine z_lif_le_t (M := M_X12_leadsOn) (tgt := 52) dX12_leadsOn_35 (by decide) rfl (by decide +kernel) (Int.not_lt.mp h_16) ?_
      refine z_aload_n (M := M_X12_leadsOn) dX12_leadsOn_52 rfl ?_
      refine z_bipush (M := M_X12_leadsOn) dX12_leadsOn_53 (by decide +kernel) ?_
      obtain ⟨σ_22, hc_21, H⟩ := bd_e H
      refine z_callV (M := M_X12_leadsOn) (M' := M_X12_put) (as := [vi 41]) (rest := []) rfl rfl dX12_leadsOn_55 m_X12_put t_3045 t_3047 s_200 (c_X12_put hl  hc_21) rfl rfl ly_277 rfl (Nat.le_of_ble_eq_true rfl) (Nat.le_of_ble_eq_true rfl) (Nat.le_of_ble_eq_true rfl) (Nat.le_of_ble_eq_true rfl) ?_
      refine z_st (st' := []) rfl ?_
      refine z_aload_n (M := M_X12_leadsOn) dX12_leadsOn_58 rfl ?_
      refine z_dup (M := M_X12_leadsOn) dX12_leadsOn_59 rfl ?_
      refine z_getI (M := M_X12_leadsOn) (ci := 15) (C := RX12) (T := TX12) (Nf := 135) (ty := tyX12) cl15 dX12_leadsOn_60 ly_277 29 (by decide) t_2420 rfl rfl ?_
      refine z_iconst (M := M_X12_leadsOn) dX12_leadsOn_63 ?_
      refine z_isub (M := M_X12_leadsOn) dX12_leadsOn_64 ?_
      obtain ⟨σ_23, σ_23_e, H⟩ := wf_e H
      refine z_putI (M := M_X12_leadsOn) (ci := 15) (C := RX12) (T := TX12) (Nf := 135) (ty := tyX12) cl15 dX12_leadsOn_65 ly_277 29 (by decide) t_2420 rfl rfl rfl rfl σ_23_e ?_
      refine z_goto (M := M_X12_leadsOn) (tgt := 0) dX12_leadsOn_68 (by decide) ?_
      exact K_7 _ (Option.some.inj H).symm
  · refine z_if_le_t (M := M_X12_leadsOn) (tgt := 71) dX12_leadsOn_4 (by decide) rfl (Int.not_lt.mp h_9) ?_
    exact J_27 _ (K_8 _ (Option.some.inj H).symm).symm
theorem c_X12_putBytes (hl : l.stackTraces = false) {σ : SG} {v_0 : Int} {n_0 : Int} {order_0 : Int} {σ' : SG}  (H : fR_putBytes σ v_0 n_0 order_0 = some σ') : en_S l E M_X12_putBytes 2 0 0 [vr 277, vl v_0, vi n_0, vi order_0] σ (pS (none) σ') := by
  unfold fR_putBytes at H
  refine z_mk (lv := [some (vr 277), some (vl v_0), none, some (vi n_0), some (vi order_0), none, none]) m_X12_putBytes rfl hl (Nat.le_of_ble_eq_true rfl) rfl ?_
  refine z_iconst (M := M_X12_putBytes) dX12_putBytes_0 ?_
  refine z_istore (M := M_X12_putBytes) (lv' := [some (vr 277), some (vl v_0), none, some (vi n_0), some (vi order_0), some (vi 0), none]) dX12_putBytes_1 (Nat.le_of_ble_eq_true rfl) rfl rfl ?_
  obtain ⟨rl_6, hw_3, hk_4⟩ := bd_e H
  have J_19 : ∀ k_17 σ_18, rl_6 = (k_17, σ_18) → YY l E M_X12_putBytes 2 0 0 (pS (none) σ') 45 [some (vr 277), some (vl v_0), none, some (vi n_0), some (vi order_0), some (vi k_17), none] [] σ_18 0 0 := by
    intro k_17 σ_18 e
    have H := hk_4
    rw [e] at H
    cases H
    exact z_vret (M := M_X12_putBytes) dX12_putBytes_45 rfl (Nat.le_of_ble_eq_true rfl) (Nat.le_of_ble_eq_true rfl) ⟨rfl, rfl⟩
  refine whl_go hw_3 (fun (k_1, σ_2) => YY l E M_X12_putBytes 2 0 0 (pS (none) σ') 3 [some (vr 277), some (vl v_0), none, some (vi n_0), some (vi order_0), some (vi k_1), none] [] σ_2 0 0) ?_
  rintro ⟨k_1, σ_2⟩ o_7 H K_8 K_9
  refine z_iload (M := M_X12_putBytes) dX12_putBytes_3 rfl ?_
  refine z_iload_n (M := M_X12_putBytes) dX12_putBytes_5 rfl ?_
  rcases if_e H with ⟨h_10, H⟩ | ⟨h_10, H⟩
  · refine z_icmp_ge_f (M := M_X12_putBytes) (tgt := 45) dX12_putBytes_6 (by decide) rfl rfl h_10 ?_
    have J_11 : YY l E M_X12_putBytes 2 0 0 (pS (none) σ') 25 [some (vr 277), some (vl v_0), none, some (vi n_0), some (vi order_0), some (vi k_1), none] [vi (if (w32 order_0) = 0 then ((n_0 - 1) - k_1) else k_1)] σ_2 0 0 := by
      refine z_istore (M := M_X12_putBytes) (lv' := [some (vr 277), some (vl v_0), none, some (vi n_0), some (vi order_0), some (vi k_1), some (vi (if (w32 order_0) = 0 then ((n_0 - 1) - k_1) else k_1))]) dX12_putBytes_25 (Nat.le_of_ble_eq_true rfl) rfl rfl ?_
      refine z_aload_n (M := M_X12_putBytes) dX12_putBytes_27 rfl ?_
      refine z_lload_n (M := M_X12_putBytes) dX12_putBytes_28 rfl ?_
      refine z_bipush (M := M_X12_putBytes) dX12_putBytes_29 (by decide +kernel) ?_
      refine z_iload (M := M_X12_putBytes) dX12_putBytes_31 rfl ?_
      refine z_imul (M := M_X12_putBytes) dX12_putBytes_33 ?_
      refine z_lshr (M := M_X12_putBytes) dX12_putBytes_34 ?_
      refine z_l2i (M := M_X12_putBytes) dX12_putBytes_35 ?_
      obtain ⟨σ_13, hc_12, H⟩ := bd_e H
      refine z_callV (M := M_X12_putBytes) (M' := M_X12_put) (as := [vi (q_lsr v_0 (8 * (if (w32 order_0) = 0 then ((n_0 - 1) - k_1) else k_1)))]) (rest := []) rfl rfl dX12_putBytes_36 m_X12_put t_3045 t_3047 s_200 (c_X12_put hl  hc_12) rfl rfl ly_277 rfl (Nat.le_of_ble_eq_true rfl) (Nat.le_of_ble_eq_true rfl) (Nat.le_of_ble_eq_true rfl) (Nat.le_of_ble_eq_true rfl) ?_
      refine z_st (st' := []) rfl ?_
      refine z_iinc (M := M_X12_putBytes) (lv' := [some (vr 277), some (vl v_0), none, some (vi n_0), some (vi order_0), some (vi (k_1 + 1)), some (vi (if (w32 order_0) = 0 then ((n_0 - 1) - k_1) else k_1))]) dX12_putBytes_39 rfl (Nat.le_of_ble_eq_true rfl) rfl rfl ?_
      refine z_goto (M := M_X12_putBytes) (tgt := 3) dX12_putBytes_42 (by decide) ?_
      refine z_le (lv' := [some (vr 277), some (vl v_0), none, some (vi n_0), some (vi order_0), some (vi (k_1 + 1)), none]) ⟨Or.inr rfl, Or.inr rfl, Or.inl rfl, Or.inr rfl, Or.inr rfl, Or.inr rfl, Or.inl rfl, trivial⟩ ?_
      exact K_8 _ (Option.some.inj H).symm
    refine z_iload (M := M_X12_putBytes) dX12_putBytes_9 rfl ?_
    by_cases h_15 : (w32 order_0) = 0
    · refine z_if_ne_f (M := M_X12_putBytes) (tgt := 23) dX12_putBytes_11 (by decide) rfl h_15 ?_
      refine z_iload_n (M := M_X12_putBytes) dX12_putBytes_14 rfl ?_
      refine z_iconst (M := M_X12_putBytes) dX12_putBytes_15 ?_
      refine z_isub (M := M_X12_putBytes) dX12_putBytes_16 ?_
      refine z_iload (M := M_X12_putBytes) dX12_putBytes_17 rfl ?_
      refine z_isub (M := M_X12_putBytes) dX12_putBytes_19 ?_
      refine z_goto (M := M_X12_putBytes) (tgt := 25) dX12_putBytes_20 (by decide) ?_
      exact z_st (by rw [if_pos (c := (w32 order_0) = 0) h_15]) J_11
    · refine z_if_ne_t (M := M_X12_putBytes) (tgt := 23) dX12_putBytes_11 (by decide) rfl h_15 ?_
      refine z_iload (M := M_X12_putBytes) dX12_putBytes_23 rfl ?_
      exact z_st (by rw [if_neg (c := (w32 order_0) = 0) h_15]) J_11
  · refine z_icmp_ge_t (M := M_X12_putBytes) (tgt := 45) dX12_putBytes_6 (by decide) rfl rfl (Int.not_lt.mp h_10) ?_
    exact J_19 _ _ (K_9 _ (Option.some.inj H).symm).symm
theorem c_X12_fraction (hl : l.stackTraces = false) {σ : SG} {v_0 : Int} {r : Int}  (H : fR_fraction σ v_0 = some r) : en_S l E M_X12_fraction 1 0 0 [vr 277, vi v_0] σ (pS (some (vl r)) σ) := by
  unfold fR_fraction at H
  refine z_mk (lv := [some (vr 277), some (vi v_0), none, none, none, none, none, none, none, none, none]) m_X12_fraction rfl hl (Nat.le_of_ble_eq_true rfl) rfl ?_
  refine z_iload_n (M := M_X12_fraction) dX12_fraction_0 rfl ?_
  rcases if_e H with ⟨h_1, H⟩ | ⟨h_1, H⟩
  · refine z_if_ne_f (M := M_X12_fraction) (tgt := 6) dX12_fraction_1 (by decide) rfl h_1 ?_
    refine z_lconst (M := M_X12_fraction) (m := 0) dX12_fraction_4 (by decide +kernel) ?_
    cases H
    exact z_lret (M := M_X12_fraction) dX12_fraction_5 rfl (Nat.le_of_ble_eq_true rfl) (Nat.le_of_ble_eq_true rfl) ⟨rfl, rfl⟩
  · refine z_if_ne_t (M := M_X12_fraction) (tgt := 6) dX12_fraction_1 (by decide) rfl h_1 ?_
    have J_2 : YY l E M_X12_fraction 1 0 0 (pS (some (vl r)) σ) 18 [some (vr 277), some (vi v_0), none, none, none, none, none, none, none, none, none] [vl (if (w32 v_0) < 0 then (-(w32 v_0)) else (w32 v_0))] σ 0 0 := by
      refine z_lstore_n (M := M_X12_fraction) (lv' := [some (vr 277), some (vi v_0), some (vl (if (w32 v_0) < 0 then (-(w32 v_0)) else (w32 v_0))), none, none, none, none, none, none, none, none]) dX12_fraction_18 (Nat.le_of_ble_eq_true rfl) rfl rfl ?_
      refine z_aload_n (M := M_X12_fraction) dX12_fraction_19 rfl ?_
      refine z_getL (M := M_X12_fraction) (ci := 15) (C := RX12) (T := TX12) (Nf := 135) (ty := tyX12) cl15 dX12_fraction_20 ly_277 2 (by decide) t_2393 rfl rfl ?_
      refine z_lstore (M := M_X12_fraction) (lv' := [some (vr 277), some (vi v_0), some (vl (if (w32 v_0) < 0 then (-(w32 v_0)) else (w32 v_0))), none, some (vl (σ kR_unit 0)), none, none, none, none, none, none]) dX12_fraction_23 (Nat.le_of_ble_eq_true rfl) rfl rfl ?_
      refine z_iconst (M := M_X12_fraction) dX12_fraction_25 ?_
      refine z_istore (M := M_X12_fraction) (lv' := [some (vr 277), some (vi v_0), some (vl (if (w32 v_0) < 0 then (-(w32 v_0)) else (w32 v_0))), none, some (vl (σ kR_unit 0)), none, some (vi 0), none, none, none, none]) dX12_fraction_26 (Nat.le_of_ble_eq_true rfl) rfl rfl ?_
      obtain ⟨rl_8, hw_5, hk_6⟩ := bd_e H
      have J_89 : ∀ b_15 e_16, rl_8 = (b_15, e_16) → YY l E M_X12_fraction 1 0 0 (pS (some (vl r)) σ) 53 [some (vr 277), some (vi v_0), some (vl (if (w32 v_0) < 0 then (-(w32 v_0)) else (w32 v_0))), none, some (vl b_15), none, some (vi e_16), none, none, none, none] [] σ 0 0 := by
        intro b_15 e_16 e
        have H := hk_6
        rw [e] at H
        obtain ⟨rl_22, hw_19, hk_20⟩ := bd_e H
        have J_88 : ∀ a_29 e_30, rl_22 = (a_29, e_30) → YY l E M_X12_fraction 1 0 0 (pS (some (vl r)) σ) 72 [some (vr 277), some (vi v_0), some (vl a_29), none, some (vl b_15), none, some (vi e_30), none, none, none, none] [] σ 0 0 := by
          intro a_29 e_30 e
          have H := hk_20
          rw [e] at H
          refine z_lconst (M := M_X12_fraction) (m := 0) dX12_fraction_72 (by decide +kernel) ?_
          refine z_lstore (M := M_X12_fraction) (lv' := [some (vr 277), some (vi v_0), some (vl a_29), none, some (vl b_15), none, some (vi e_30), some (vl 0), none, none, none]) dX12_fraction_73 (Nat.le_of_ble_eq_true rfl) rfl rfl ?_
          refine z_iconst (M := M_X12_fraction) dX12_fraction_75 ?_
          refine z_istore (M := M_X12_fraction) (lv' := [some (vr 277), some (vi v_0), some (vl a_29), none, some (vl b_15), none, some (vi e_30), some (vl 0), none, some (vi 0), none]) dX12_fraction_76 (Nat.le_of_ble_eq_true rfl) rfl rfl ?_
          obtain ⟨rl_37, hw_34, hk_35⟩ := bd_e H
          have J_87 : ∀ a_54 m_55 k_56, rl_37 = (a_54, m_55, k_56) → YY l E M_X12_fraction 1 0 0 (pS (some (vl r)) σ) 123 [some (vr 277), some (vi v_0), some (vl a_54), none, some (vl b_15), none, some (vi e_30), some (vl m_55), none, some (vi k_56), none] [] σ 0 0 := by
            intro a_54 m_55 k_56 e
            have H := hk_35
            rw [e] at H
            obtain ⟨v_60, he_57, hk_58⟩ := bd_e H
            have J_86 : ∀ m_72, v_60 = m_72 → YY l E M_X12_fraction 1 0 0 (pS (some (vl r)) σ) 152 [some (vr 277), some (vi v_0), some (vl a_54), none, some (vl b_15), none, some (vi e_30), some (vl m_72), none, none, none] [] σ 0 0 := by
              intro m_72 e
              have H := hk_58
              rw [e] at H
              obtain ⟨v_76, he_73, hk_74⟩ := bd_e H
              have J_85 : ∀ e_80 m_81, v_76 = (e_80, m_81) → YY l E M_X12_fraction 1 0 0 (pS (some (vl r)) σ) 169 [some (vr 277), some (vi v_0), some (vl a_54), none, some (vl b_15), none, some (vi e_80), some (vl m_81), none, none, none] [] σ 0 0 := by
                intro e_80 m_81 e
                have H := hk_74
                rw [e] at H
                refine z_iload (M := M_X12_fraction) dX12_fraction_169 rfl ?_
                refine z_sipush (M := M_X12_fraction) dX12_fraction_171 (by decide +kernel) ?_
                refine z_iadd (M := M_X12_fraction) dX12_fraction_174 ?_
                refine z_i2l (M := M_X12_fraction) dX12_fraction_175 ?_
                refine z_bipush (M := M_X12_fraction) dX12_fraction_176 (by decide +kernel) ?_
                refine z_lshl (M := M_X12_fraction) dX12_fraction_178 ?_
                refine z_lload (M := M_X12_fraction) dX12_fraction_179 rfl ?_
                refine z_ldc2 (M := M_X12_fraction) (n := 4503599627370495) dX12_fraction_181 t_2995 (by decide +kernel) ?_
                refine z_land (M := M_X12_fraction) dX12_fraction_184 ?_
                refine z_lor (M := M_X12_fraction) dX12_fraction_185 ?_
                obtain ⟨x_82, x_82_e, H⟩ := lt_e H
                refine z_st (congrArg (fun z => vl z :: []) x_82_e) ?_
                refine z_lstore (M := M_X12_fraction) (lv' := [some (vr 277), some (vi v_0), some (vl a_54), none, some (vl b_15), none, some (vi e_80), some (vl m_81), none, some (vl x_82), none]) dX12_fraction_186 (Nat.le_of_ble_eq_true rfl) rfl rfl ?_
                have J_83 : YY l E M_X12_fraction 1 0 0 (pS (some (vl r)) σ) 203 [some (vr 277), some (vi v_0), some (vl a_54), none, some (vl b_15), none, some (vi e_80), some (vl m_81), none, some (vl x_82), none] [vl (if (w32 v_0) < 0 then (q_lor x_82 (-9223372036854775808)) else x_82)] σ 0 0 := by
                  cases H
                  exact z_lret (M := M_X12_fraction) dX12_fraction_203 rfl (Nat.le_of_ble_eq_true rfl) (Nat.le_of_ble_eq_true rfl) ⟨rfl, rfl⟩
                refine z_iload_n (M := M_X12_fraction) dX12_fraction_188 rfl ?_
                by_cases h_84 : (w32 v_0) < 0
                · refine z_if_ge_f (M := M_X12_fraction) (tgt := 201) dX12_fraction_189 (by decide) rfl h_84 ?_
                  refine z_lload (M := M_X12_fraction) dX12_fraction_192 rfl ?_
                  refine z_ldc2 (M := M_X12_fraction) (n := (-9223372036854775808)) dX12_fraction_194 t_3093 (by decide +kernel) ?_
                  refine z_lor (M := M_X12_fraction) dX12_fraction_197 ?_
                  refine z_goto (M := M_X12_fraction) (tgt := 203) dX12_fraction_198 (by decide) ?_
                  exact z_st (by rw [if_pos (c := (w32 v_0) < 0) h_84]) J_83
                · refine z_if_ge_t (M := M_X12_fraction) (tgt := 201) dX12_fraction_189 (by decide) rfl (Int.not_lt.mp h_84) ?_
                  refine z_lload (M := M_X12_fraction) dX12_fraction_201 rfl ?_
                  exact z_st (by rw [if_neg (c := (w32 v_0) < 0) h_84]) J_83
              have H := he_73
              refine z_lload (M := M_X12_fraction) dX12_fraction_152 rfl ?_
              refine z_ldc2 (M := M_X12_fraction) (n := 9007199254740992) dX12_fraction_154 t_3092 (by decide +kernel) ?_
              refine z_lcmp (M := M_X12_fraction) dX12_fraction_157 ?_
              rcases if_e H with ⟨h_77, H⟩ | ⟨h_77, H⟩
              · refine z_lif_ne_f (M := M_X12_fraction) (tgt := 169) dX12_fraction_158 (by decide) rfl (by decide +kernel) h_77 ?_
                refine z_ldc2 (M := M_X12_fraction) (n := 4503599627370496) dX12_fraction_161 t_3008 (by decide +kernel) ?_
                refine z_lstore (M := M_X12_fraction) (lv' := [some (vr 277), some (vi v_0), some (vl a_54), none, some (vl b_15), none, some (vi e_30), some (vl 4503599627370496), none, none, none]) dX12_fraction_164 (Nat.le_of_ble_eq_true rfl) rfl rfl ?_
                refine z_iinc (M := M_X12_fraction) (lv' := [some (vr 277), some (vi v_0), some (vl a_54), none, some (vl b_15), none, some (vi (e_30 + 1)), some (vl 4503599627370496), none, none, none]) dX12_fraction_166 rfl (Nat.le_of_ble_eq_true rfl) rfl rfl ?_
                exact J_85 _ _ (Option.some.inj H).symm
              · refine z_lif_ne_t (M := M_X12_fraction) (tgt := 169) dX12_fraction_158 (by decide) rfl (by decide +kernel) h_77 ?_
                exact J_85 _ _ (Option.some.inj H).symm
            have H := he_57
            rcases if_e H with ⟨h_63, H⟩ | ⟨h_63, H⟩
            · have J_64 : YY l E M_X12_fraction 1 0 0 (pS (some (vl r)) σ) 146 [some (vr 277), some (vi v_0), some (vl a_54), none, some (vl b_15), none, some (vi e_30), some (vl m_55), none, some (vi k_56), none] [] σ 0 0 := by
                refine z_lload (M := M_X12_fraction) dX12_fraction_146 rfl ?_
                refine z_lconst (M := M_X12_fraction) (m := 1) dX12_fraction_148 (by decide +kernel) ?_
                refine z_ladd (M := M_X12_fraction) dX12_fraction_149 ?_
                refine z_lstore (M := M_X12_fraction) (lv' := [some (vr 277), some (vi v_0), some (vl a_54), none, some (vl b_15), none, some (vi e_30), some (vl (m_55 + 1)), none, some (vi k_56), none]) dX12_fraction_150 (Nat.le_of_ble_eq_true rfl) rfl rfl ?_
                refine z_le (lv' := [some (vr 277), some (vi v_0), some (vl a_54), none, some (vl b_15), none, some (vi e_30), some (vl (m_55 + 1)), none, none, none]) ⟨Or.inr rfl, Or.inr rfl, Or.inr rfl, Or.inl rfl, Or.inr rfl, Or.inl rfl, Or.inr rfl, Or.inr rfl, Or.inl rfl, Or.inl rfl, Or.inl rfl, trivial⟩ ?_
                exact J_86 _ (Option.some.inj H).symm
              refine z_lload_n (M := M_X12_fraction) dX12_fraction_123 rfl ?_
              refine z_lload (M := M_X12_fraction) dX12_fraction_124 rfl ?_
              refine z_lcmp (M := M_X12_fraction) dX12_fraction_126 ?_
              by_cases h_66 : (w64 b_15) < (w64 a_54)
              · refine z_lif_gt_t (M := M_X12_fraction) (tgt := 146) dX12_fraction_127 (by decide) rfl rfl h_66 ?_
                exact J_64
              · refine z_lif_gt_f (M := M_X12_fraction) (tgt := 146) dX12_fraction_127 (by decide) rfl rfl (Int.not_lt.mp h_66) ?_
                refine z_lload_n (M := M_X12_fraction) dX12_fraction_130 rfl ?_
                refine z_lload (M := M_X12_fraction) dX12_fraction_131 rfl ?_
                refine z_lcmp (M := M_X12_fraction) dX12_fraction_133 ?_
                by_cases h_67 : (w64 a_54) = (w64 b_15)
                · refine z_lif_ne_f (M := M_X12_fraction) (tgt := 152) dX12_fraction_134 (by decide) rfl rfl h_67 ?_
                  refine z_lload (M := M_X12_fraction) dX12_fraction_137 rfl ?_
                  refine z_lconst (M := M_X12_fraction) (m := 1) dX12_fraction_139 (by decide +kernel) ?_
                  refine z_land (M := M_X12_fraction) dX12_fraction_140 ?_
                  refine z_lconst (M := M_X12_fraction) (m := 1) dX12_fraction_141 (by decide +kernel) ?_
                  refine z_lcmp (M := M_X12_fraction) dX12_fraction_142 ?_
                  by_cases h_68 : (w64 (q_lan m_55 1)) = 1
                  · refine z_lif_ne_f (M := M_X12_fraction) (tgt := 152) dX12_fraction_143 (by decide) rfl (by decide +kernel) h_68 ?_
                    exact J_64
                  · refine z_lif_ne_t (M := M_X12_fraction) (tgt := 152) dX12_fraction_143 (by decide) rfl (by decide +kernel) h_68 ?_
                    exact absurd h_63 (fun q => q.elim h_66 (fun q => h_68 q.2))
                · refine z_lif_ne_t (M := M_X12_fraction) (tgt := 152) dX12_fraction_134 (by decide) rfl rfl h_67 ?_
                  exact absurd h_63 (fun q => q.elim h_66 (fun q => h_67 q.1))
            · have J_65 : YY l E M_X12_fraction 1 0 0 (pS (some (vl r)) σ) 152 [some (vr 277), some (vi v_0), some (vl a_54), none, some (vl b_15), none, some (vi e_30), some (vl m_55), none, some (vi k_56), none] [] σ 0 0 := by
                refine z_le (lv' := [some (vr 277), some (vi v_0), some (vl a_54), none, some (vl b_15), none, some (vi e_30), some (vl m_55), none, none, none]) ⟨Or.inr rfl, Or.inr rfl, Or.inr rfl, Or.inl rfl, Or.inr rfl, Or.inl rfl, Or.inr rfl, Or.inr rfl, Or.inl rfl, Or.inl rfl, Or.inl rfl, trivial⟩ ?_
                exact J_86 _ (Option.some.inj H).symm
              refine z_lload_n (M := M_X12_fraction) dX12_fraction_123 rfl ?_
              refine z_lload (M := M_X12_fraction) dX12_fraction_124 rfl ?_
              refine z_lcmp (M := M_X12_fraction) dX12_fraction_126 ?_
              by_cases h_69 : (w64 b_15) < (w64 a_54)
              · refine z_lif_gt_t (M := M_X12_fraction) (tgt := 146) dX12_fraction_127 (by decide) rfl rfl h_69 ?_
                exact absurd (Or.inl h_69) h_63
              · refine z_lif_gt_f (M := M_X12_fraction) (tgt := 146) dX12_fraction_127 (by decide) rfl rfl (Int.not_lt.mp h_69) ?_
                refine z_lload_n (M := M_X12_fraction) dX12_fraction_130 rfl ?_
                refine z_lload (M := M_X12_fraction) dX12_fraction_131 rfl ?_
                refine z_lcmp (M := M_X12_fraction) dX12_fraction_133 ?_
                by_cases h_70 : (w64 a_54) = (w64 b_15)
                · refine z_lif_ne_f (M := M_X12_fraction) (tgt := 152) dX12_fraction_134 (by decide) rfl rfl h_70 ?_
                  refine z_lload (M := M_X12_fraction) dX12_fraction_137 rfl ?_
                  refine z_lconst (M := M_X12_fraction) (m := 1) dX12_fraction_139 (by decide +kernel) ?_
                  refine z_land (M := M_X12_fraction) dX12_fraction_140 ?_
                  refine z_lconst (M := M_X12_fraction) (m := 1) dX12_fraction_141 (by decide +kernel) ?_
                  refine z_lcmp (M := M_X12_fraction) dX12_fraction_142 ?_
                  by_cases h_71 : (w64 (q_lan m_55 1)) = 1
                  · refine z_lif_ne_f (M := M_X12_fraction) (tgt := 152) dX12_fraction_143 (by decide) rfl (by decide +kernel) h_71 ?_
                    exact absurd (Or.inr ⟨h_70, h_71⟩) h_63
                  · refine z_lif_ne_t (M := M_X12_fraction) (tgt := 152) dX12_fraction_143 (by decide) rfl (by decide +kernel) h_71 ?_
                    exact J_65
                · refine z_lif_ne_t (M := M_X12_fraction) (tgt := 152) dX12_fraction_134 (by decide) rfl rfl h_70 ?_
                  exact J_65
          refine whl_go hw_34 (fun (a_31, m_32, k_33) => YY l E M_X12_fraction 1 0 0 (pS (some (vl r)) σ) 78 [some (vr 277), some (vi v_0), some (vl a_31), none, some (vl b_15), none, some (vi e_30), some (vl m_32), none, some (vi k_33), none] [] σ 0 0) ?_
          rintro ⟨a_31, m_32, k_33⟩ o_38 H K_39 K_40
          refine z_iload (M := M_X12_fraction) dX12_fraction_78 rfl ?_
          refine z_bipush (M := M_X12_fraction) dX12_fraction_80 (by decide +kernel) ?_
          rcases if_e H with ⟨h_41, H⟩ | ⟨h_41, H⟩
          · refine z_icmp_ge_f (M := M_X12_fraction) (tgt := 123) dX12_fraction_82 (by decide) rfl (by decide +kernel) h_41 ?_
            refine z_ldc2 (M := M_X12_fraction) (n := 2) dX12_fraction_85 t_3091 (by decide +kernel) ?_
            refine z_lload (M := M_X12_fraction) dX12_fraction_88 rfl ?_
            refine z_lmul (M := M_X12_fraction) dX12_fraction_90 ?_
            refine z_lstore (M := M_X12_fraction) (lv' := [some (vr 277), some (vi v_0), some (vl a_31), none, some (vl b_15), none, some (vi e_30), some (vl (2 * m_32)), none, some (vi k_33), none]) dX12_fraction_91 (Nat.le_of_ble_eq_true rfl) rfl rfl ?_
            obtain ⟨v_45, he_42, hk_43⟩ := bd_e H
            have J_52 : ∀ a_49 m_50, v_45 = (a_49, m_50) → YY l E M_X12_fraction 1 0 0 (pS (some (vl r)) σ) 111 [some (vr 277), some (vi v_0), some (vl a_49), none, some (vl b_15), none, some (vi e_30), some (vl m_50), none, some (vi k_33), none] [] σ 0 0 := by
              intro a_49 m_50 e
              have H := hk_43
              rw [e] at H
              refine z_ldc2 (M := M_X12_fraction) (n := 2) dX12_fraction_111 t_3091 (by decide +kernel) ?_
              refine z_lload_n (M := M_X12_fraction) dX12_fraction_114 rfl ?_
              refine z_lmul (M := M_X12_fraction) dX12_fraction_115 ?_
              refine z_lstore_n (M := M_X12_fraction) (lv' := [some (vr 277), some (vi v_0), some (vl (2 * a_49)), none, some (vl b_15), none, some (vi e_30), some (vl m_50), none, some (vi k_33), none]) dX12_fraction_116 (Nat.le_of_ble_eq_true rfl) rfl rfl ?_
              refine z_iinc (M := M_X12_fraction) (lv' := [some (vr 277), some (vi v_0), some (vl (2 * a_49)), none, some (vl b_15), none, some (vi e_30), some (vl m_50), none, some (vi (k_33 + 1)), none]) dX12_fraction_117 rfl (Nat.le_of_ble_eq_true rfl) rfl rfl ?_
              refine z_goto (M := M_X12_fraction) (tgt := 78) dX12_fraction_120 (by decide) ?_
              exact K_39 _ (Option.some.inj H).symm
            have H := he_42
            refine z_lload_n (M := M_X12_fraction) dX12_fraction_93 rfl ?_
            refine z_lload (M := M_X12_fraction) dX12_fraction_94 rfl ?_
            refine z_lcmp (M := M_X12_fraction) dX12_fraction_96 ?_
            rcases if_e H with ⟨h_46, H⟩ | ⟨h_46, H⟩
            · refine z_lif_lt_f (M := M_X12_fraction) (tgt := 111) dX12_fraction_97 (by decide) rfl rfl h_46 ?_
              refine z_lload (M := M_X12_fraction) dX12_fraction_100 rfl ?_
              refine z_lconst (M := M_X12_fraction) (m := 1) dX12_fraction_102 (by decide +kernel) ?_
              refine z_ladd (M := M_X12_fraction) dX12_fraction_103 ?_
              refine z_lstore (M := M_X12_fraction) (lv' := [some (vr 277), some (vi v_0), some (vl a_31), none, some (vl b_15), none, some (vi e_30), some (vl ((2 * m_32) + 1)), none, some (vi k_33), none]) dX12_fraction_104 (Nat.le_of_ble_eq_true rfl) rfl rfl ?_
              refine z_lload_n (M := M_X12_fraction) dX12_fraction_106 rfl ?_
              refine z_lload (M := M_X12_fraction) dX12_fraction_107 rfl ?_
              refine z_lsub (M := M_X12_fraction) dX12_fraction_109 ?_
              refine z_lstore_n (M := M_X12_fraction) (lv' := [some (vr 277), some (vi v_0), some (vl (a_31 - b_15)), none, some (vl b_15), none, some (vi e_30), some (vl ((2 * m_32) + 1)), none, some (vi k_33), none]) dX12_fraction_110 (Nat.le_of_ble_eq_true rfl) rfl rfl ?_
              exact J_52 _ _ (Option.some.inj H).symm
            · refine z_lif_lt_t (M := M_X12_fraction) (tgt := 111) dX12_fraction_97 (by decide) rfl rfl (Int.not_le.mp h_46) ?_
              exact J_52 _ _ (Option.some.inj H).symm
          · refine z_icmp_ge_t (M := M_X12_fraction) (tgt := 123) dX12_fraction_82 (by decide) rfl (by decide +kernel) (Int.not_lt.mp h_41) ?_
            exact J_87 _ _ _ (K_40 _ (Option.some.inj H).symm).symm
        refine whl_go hw_19 (fun (a_17, e_18) => YY l E M_X12_fraction 1 0 0 (pS (some (vl r)) σ) 53 [some (vr 277), some (vi v_0), some (vl a_17), none, some (vl b_15), none, some (vi e_18), none, none, none, none] [] σ 0 0) ?_
        rintro ⟨a_17, e_18⟩ o_23 H K_24 K_25
        refine z_lload_n (M := M_X12_fraction) dX12_fraction_53 rfl ?_
        refine z_lload (M := M_X12_fraction) dX12_fraction_54 rfl ?_
        refine z_lcmp (M := M_X12_fraction) dX12_fraction_56 ?_
        rcases if_e H with ⟨h_26, H⟩ | ⟨h_26, H⟩
        · refine z_lif_ge_f (M := M_X12_fraction) (tgt := 72) dX12_fraction_57 (by decide) rfl rfl h_26 ?_
          refine z_ldc2 (M := M_X12_fraction) (n := 2) dX12_fraction_60 t_3091 (by decide +kernel) ?_
          refine z_lload_n (M := M_X12_fraction) dX12_fraction_63 rfl ?_
          refine z_lmul (M := M_X12_fraction) dX12_fraction_64 ?_
          refine z_lstore_n (M := M_X12_fraction) (lv' := [some (vr 277), some (vi v_0), some (vl (2 * a_17)), none, some (vl b_15), none, some (vi e_18), none, none, none, none]) dX12_fraction_65 (Nat.le_of_ble_eq_true rfl) rfl rfl ?_
          refine z_iinc (M := M_X12_fraction) (lv' := [some (vr 277), some (vi v_0), some (vl (2 * a_17)), none, some (vl b_15), none, some (vi (e_18 + (-1))), none, none, none, none]) dX12_fraction_66 rfl (Nat.le_of_ble_eq_true rfl) rfl rfl ?_
          refine z_goto (M := M_X12_fraction) (tgt := 53) dX12_fraction_69 (by decide) ?_
          exact K_24 _ (Option.some.inj H).symm
        · refine z_lif_ge_t (M := M_X12_fraction) (tgt := 72) dX12_fraction_57 (by decide) rfl rfl (Int.not_lt.mp h_26) ?_
          exact J_88 _ _ (K_25 _ (Option.some.inj H).symm).symm
      refine whl_go hw_5 (fun (b_3, e_4) => YY l E M_X12_fraction 1 0 0 (pS (some (vl r)) σ) 28 [some (vr 277), some (vi v_0), some (vl (if (w32 v_0) < 0 then (-(w32 v_0)) else (w32 v_0))), none, some (vl b_3), none, some (vi e_4), none, none, none, none] [] σ 0 0) ?_
      rintro ⟨b_3, e_4⟩ o_9 H K_10 K_11
      refine z_lload_n (M := M_X12_fraction) dX12_fraction_28 rfl ?_
      refine z_ldc2 (M := M_X12_fraction) (n := 2) dX12_fraction_29 t_3091 (by decide +kernel) ?_
      refine z_lload (M := M_X12_fraction) dX12_fraction_32 rfl ?_
      refine z_lmul (M := M_X12_fraction) dX12_fraction_34 ?_
      refine z_lcmp (M := M_X12_fraction) dX12_fraction_35 ?_
      rcases if_e H with ⟨h_12, H⟩ | ⟨h_12, H⟩
      · refine z_lif_lt_f (M := M_X12_fraction) (tgt := 53) dX12_fraction_36 (by decide) rfl rfl h_12 ?_
        refine z_ldc2 (M := M_X12_fraction) (n := 2) dX12_fraction_39 t_3091 (by decide +kernel) ?_
        refine z_lload (M := M_X12_fraction) dX12_fraction_42 rfl ?_
        refine z_lmul (M := M_X12_fraction) dX12_fraction_44 ?_
        refine z_lstore (M := M_X12_fraction) (lv' := [some (vr 277), some (vi v_0), some (vl (if (w32 v_0) < 0 then (-(w32 v_0)) else (w32 v_0))), none, some (vl (2 * b_3)), none, some (vi e_4), none, none, none, none]) dX12_fraction_45 (Nat.le_of_ble_eq_true rfl) rfl rfl ?_
        refine z_iinc (M := M_X12_fraction) (lv' := [some (vr 277), some (vi v_0), some (vl (if (w32 v_0) < 0 then (-(w32 v_0)) else (w32 v_0))), none, some (vl (2 * b_3)), none, some (vi (e_4 + 1)), none, none, none, none]) dX12_fraction_47 rfl (Nat.le_of_ble_eq_true rfl) rfl rfl ?_
        refine z_goto (M := M_X12_fraction) (tgt := 28) dX12_fraction_50 (by decide) ?_
        exact K_10 _ (Option.some.inj H).symm
      · refine z_lif_lt_t (M := M_X12_fraction) (tgt := 53) dX12_fraction_36 (by decide) rfl rfl (Int.not_le.mp h_12) ?_
        exact J_89 _ _ (K_11 _ (Option.some.inj H).symm).symm
    refine z_iload_n (M := M_X12_fraction) dX12_fraction_6 rfl ?_
    by_cases h_90 : (w32 v_0) < 0
    · refine z_if_ge_f (M := M_X12_fraction) (tgt := 16) dX12_fraction_7 (by decide) rfl h_90 ?_
      refine z_iload_n (M := M_X12_fraction) dX12_fraction_10 rfl ?_
      refine z_i2l (M := M_X12_fraction) dX12_fraction_11 ?_
      refine z_lneg (M := M_X12_fraction) dX12_fraction_12 ?_
      refine z_goto (M := M_X12_fraction) (tgt := 18) dX12_fraction_13 (by decide) ?_
      exact z_st (by rw [if_pos (c := (w32 v_0) < 0) h_90]) J_2
    · refine z_if_ge_t (M := M_X12_fraction) (tgt := 16) dX12_fraction_7 (by decide) rfl (Int.not_lt.mp h_90) ?_
      refine z_iload_n (M := M_X12_fraction) dX12_fraction_16 rfl ?_
      refine z_i2l (M := M_X12_fraction) dX12_fraction_17 ?_
      exact z_st (by rw [if_neg (c := (w32 v_0) < 0) h_90]) J_2
theorem c_X12_putPoints (hl : l.stackTraces = false) {σ : SG} {n_0 : Int} {order_0 : Int} {σ' : SG}  (H : fR_putPoints σ n_0 order_0 = some σ') : en_S l E M_X12_putPoints 3 0 0 [vr 277, vi n_0, vi order_0] σ (pS (none) σ') := by
  unfold fR_putPoints at H
  refine z_mk (lv := [some (vr 277), some (vi n_0), some (vi order_0), none]) m_X12_putPoints rfl hl (Nat.le_of_ble_eq_true rfl) rfl ?_
  refine z_iconst (M := M_X12_putPoints) dX12_putPoints_0 ?_
  refine z_istore_n (M := M_X12_putPoints) (lv' := [some (vr 277), some (vi n_0), some (vi order_0), some (vi 0)]) dX12_putPoints_1 (Nat.le_of_ble_eq_true rfl) rfl rfl ?_
  obtain ⟨rl_6, hw_3, hk_4⟩ := bd_e H
  have J_28 : ∀ k_26 σ_27, rl_6 = (k_26, σ_27) → YY l E M_X12_putPoints 3 0 0 (pS (none) σ') 63 [some (vr 277), some (vi n_0), some (vi order_0), some (vi k_26)] [] σ_27 0 0 := by
    intro k_26 σ_27 e
    have H := hk_4
    rw [e] at H
    cases H
    exact z_vret (M := M_X12_putPoints) dX12_putPoints_63 rfl (Nat.le_of_ble_eq_true rfl) (Nat.le_of_ble_eq_true rfl) ⟨rfl, rfl⟩
  refine whl_go hw_3 (fun (k_1, σ_2) => YY l E M_X12_putPoints 3 0 0 (pS (none) σ') 2 [some (vr 277), some (vi n_0), some (vi order_0), some (vi k_1)] [] σ_2 0 0) ?_
  rintro ⟨k_1, σ_2⟩ o_7 H K_8 K_9
  refine z_iload_n (M := M_X12_putPoints) dX12_putPoints_2 rfl ?_
  refine z_iload_n (M := M_X12_putPoints) dX12_putPoints_3 rfl ?_
  rcases if_e H with ⟨h_10, H⟩ | ⟨h_10, H⟩
  · refine z_icmp_ge_f (M := M_X12_putPoints) (tgt := 63) dX12_putPoints_4 (by decide) rfl rfl h_10 ?_
    refine z_aload_n (M := M_X12_putPoints) dX12_putPoints_7 rfl ?_
    refine z_aload_n (M := M_X12_putPoints) dX12_putPoints_8 rfl ?_
    refine z_aload_n (M := M_X12_putPoints) dX12_putPoints_9 rfl ?_
    refine z_getR (M := M_X12_putPoints) (ci := 15) (C := RX12) (T := TX12) (Nf := 135) (ty := tyX12) cl15 dX12_putPoints_10 ly_277 12 (by decide) t_2403 rfl ?_
    refine z_aload_n (M := M_X12_putPoints) dX12_putPoints_13 rfl ?_
    refine z_getI (M := M_X12_putPoints) (ci := 15) (C := RX12) (T := TX12) (Nf := 135) (ty := tyX12) cl15 dX12_putPoints_14 ly_277 31 (by decide) t_2422 rfl rfl ?_
    obtain ⟨x_11, x_11_e, hi_12, H⟩ := rd_e H
    refine z_iald (M := M_X12_putPoints) dX12_putPoints_17 ly_283 rfl rfl rfl hi_12 x_11_e ?_
    obtain ⟨x_14, hc_13, H⟩ := bd_e H
    refine z_callV (M := M_X12_putPoints) (M' := M_X12_fraction) (as := [vi x_11]) (rest := [vr 277]) rfl rfl dX12_putPoints_18 m_X12_fraction t_3087 t_3089 s_209 (c_X12_fraction hl  hc_13) rfl rfl ly_277 rfl (Nat.le_of_ble_eq_true rfl) (Nat.le_of_ble_eq_true rfl) (Nat.le_of_ble_eq_true rfl) (Nat.le_of_ble_eq_true rfl) ?_
    refine z_st (st' := [vl x_14, vr 277]) rfl ?_
    refine z_bipush (M := M_X12_putPoints) dX12_putPoints_21 (by decide +kernel) ?_
    refine z_iload_n (M := M_X12_putPoints) dX12_putPoints_23 rfl ?_
    obtain ⟨σ_16, hc_15, H⟩ := bd_e H
    refine z_callV (M := M_X12_putPoints) (M' := M_X12_putBytes) (as := [vl x_14, vi 8, vi order_0]) (rest := []) rfl rfl dX12_putPoints_24 m_X12_putBytes t_3078 t_3080 s_207 (c_X12_putBytes hl  hc_15) rfl rfl ly_277 rfl (Nat.le_of_ble_eq_true rfl) (Nat.le_of_ble_eq_true rfl) (Nat.le_of_ble_eq_true rfl) (Nat.le_of_ble_eq_true rfl) ?_
    refine z_st (st' := []) rfl ?_
    refine z_aload_n (M := M_X12_putPoints) dX12_putPoints_27 rfl ?_
    refine z_aload_n (M := M_X12_putPoints) dX12_putPoints_28 rfl ?_
    refine z_aload_n (M := M_X12_putPoints) dX12_putPoints_29 rfl ?_
    refine z_getR (M := M_X12_putPoints) (ci := 15) (C := RX12) (T := TX12) (Nf := 135) (ty := tyX12) cl15 dX12_putPoints_30 ly_277 13 (by decide) t_2404 rfl ?_
    refine z_aload_n (M := M_X12_putPoints) dX12_putPoints_33 rfl ?_
    refine z_getI (M := M_X12_putPoints) (ci := 15) (C := RX12) (T := TX12) (Nf := 135) (ty := tyX12) cl15 dX12_putPoints_34 ly_277 31 (by decide) t_2422 rfl rfl ?_
    obtain ⟨x_17, x_17_e, hi_18, H⟩ := rd_e H
    refine z_iald (M := M_X12_putPoints) dX12_putPoints_37 ly_284 rfl rfl rfl hi_18 x_17_e ?_
    obtain ⟨x_20, hc_19, H⟩ := bd_e H
    refine z_callV (M := M_X12_putPoints) (M' := M_X12_fraction) (as := [vi x_17]) (rest := [vr 277]) rfl rfl dX12_putPoints_38 m_X12_fraction t_3087 t_3089 s_209 (c_X12_fraction hl  hc_19) rfl rfl ly_277 rfl (Nat.le_of_ble_eq_true rfl) (Nat.le_of_ble_eq_true rfl) (Nat.le_of_ble_eq_true rfl) (Nat.le_of_ble_eq_true rfl) ?_
    refine z_st (st' := [vl x_20, vr 277]) rfl ?_
    refine z_bipush (M := M_X12_putPoints) dX12_putPoints_41 (by decide +kernel) ?_
    refine z_iload_n (M := M_X12_putPoints) dX12_putPoints_43 rfl ?_
    obtain ⟨σ_22, hc_21, H⟩ := bd_e H
    refine z_callV (M := M_X12_putPoints) (M' := M_X12_putBytes) (as := [vl x_20, vi 8, vi order_0]) (rest := []) rfl rfl dX12_putPoints_44 m_X12_putBytes t_3078 t_3080 s_207 (c_X12_putBytes hl  hc_21) rfl rfl ly_277 rfl (Nat.le_of_ble_eq_true rfl) (Nat.le_of_ble_eq_true rfl) (Nat.le_of_ble_eq_true rfl) (Nat.le_of_ble_eq_true rfl) ?_
    refine z_st (st' := []) rfl ?_
    refine z_aload_n (M := M_X12_putPoints) dX12_putPoints_47 rfl ?_
    refine z_dup (M := M_X12_putPoints) dX12_putPoints_48 rfl ?_
    refine z_getI (M := M_X12_putPoints) (ci := 15) (C := RX12) (T := TX12) (Nf := 135) (ty := tyX12) cl15 dX12_putPoints_49 ly_277 31 (by decide) t_2422 rfl rfl ?_
    refine z_iconst (M := M_X12_putPoints) dX12_putPoints_52 ?_
    refine z_iadd (M := M_X12_putPoints) dX12_putPoints_53 ?_
    obtain ⟨σ_23, σ_23_e, H⟩ := wf_e H
    refine z_putI (M := M_X12_putPoints) (ci := 15) (C := RX12) (T := TX12) (Nf := 135) (ty := tyX12) cl15 dX12_putPoints_54 ly_277 31 (by decide) t_2422 rfl rfl rfl rfl σ_23_e ?_
    refine z_iinc (M := M_X12_putPoints) (lv' := [some (vr 277), some (vi n_0), some (vi order_0), some (vi (k_1 + 1))]) dX12_putPoints_57 rfl (Nat.le_of_ble_eq_true rfl) rfl rfl ?_
    refine z_goto (M := M_X12_putPoints) (tgt := 2) dX12_putPoints_60 (by decide) ?_
    exact K_8 _ (Option.some.inj H).symm
  · refine z_icmp_ge_t (M := M_X12_putPoints) (tgt := 63) dX12_putPoints_4 (by decide) rfl rfl (Int.not_lt.mp h_10) ?_
    exact J_28 _ _ (K_9 _ (Option.some.inj H).symm).symm
theorem c_X12_writeBytes (hl : l.stackTraces = false) {σ : SG} {slot_0 : Int} {order_0 : Int} {r : Int} {σ' : SG}  (H : fR_writeBytes σ slot_0 order_0 = some (r, σ')) : en_S l E M_X12_writeBytes 4 0 0 [vr 277, vi slot_0, vi order_0] σ (pS (some (vi r)) σ') := by
  unfold fR_writeBytes at H
  refine z_mk (lv := [some (vr 277), some (vi slot_0), some (vi order_0), none, none, none, none, none]) m_X12_writeBytes rfl hl (Nat.le_of_ble_eq_true rfl) rfl ?_
  refine z_aload_n (M := M_X12_writeBytes) dX12_writeBytes_0 rfl ?_
  refine z_iconst (M := M_X12_writeBytes) dX12_writeBytes_1 ?_
  obtain ⟨σ_1, σ_1_e, H⟩ := wf_e H
  refine z_putI (M := M_X12_writeBytes) (ci := 15) (C := RX12) (T := TX12) (Nf := 135) (ty := tyX12) cl15 dX12_writeBytes_2 ly_277 0 (by decide) t_2391 rfl rfl rfl rfl σ_1_e ?_
  refine z_aload_n (M := M_X12_writeBytes) dX12_writeBytes_5 rfl ?_
  have J_32 : YY l E M_X12_writeBytes 4 0 0 (pS (some (vi r)) σ') 18 [some (vr 277), some (vi slot_0), some (vi order_0), none, none, none, none, none] [zv (decide (¬ ((fR_isSlot slot_0) = true))), vr 277] σ_1 0 0 := by
    refine z_iconst (M := M_X12_writeBytes) dX12_writeBytes_18 ?_
    obtain ⟨⟨x_35, σ_34⟩, hc_33, H⟩ := bd_e H
    refine z_callV (M := M_X12_writeBytes) (M' := M_X12_fails) (as := [zv (decide (¬ ((fR_isSlot slot_0) = true))), vi 1]) (rest := []) rfl rfl dX12_writeBytes_19 m_X12_fails t_2805 t_2807 s_157 (c_X12_fails hl  hc_33) rfl rfl ly_277 rfl (Nat.le_of_ble_eq_true rfl) (Nat.le_of_ble_eq_true rfl) (Nat.le_of_ble_eq_true rfl) (Nat.le_of_ble_eq_true rfl) ?_
    refine z_st (st' := [zv x_35]) rfl ?_
    rcases if_e H with ⟨h_36, H⟩ | ⟨h_36, H⟩
    · refine z_zne_t (M := M_X12_writeBytes) (tgt := 69) dX12_writeBytes_22 (by decide) h_36 ?_
      refine z_iconst (M := M_X12_writeBytes) dX12_writeBytes_69 ?_
      cases H
      exact z_iret (M := M_X12_writeBytes) dX12_writeBytes_70 rfl (Nat.le_of_ble_eq_true rfl) (Nat.le_of_ble_eq_true rfl) ⟨rfl, rfl⟩
    · refine z_zne_f (M := M_X12_writeBytes) (tgt := 69) dX12_writeBytes_22 (by decide) h_36 ?_
      refine z_aload_n (M := M_X12_writeBytes) dX12_writeBytes_25 rfl ?_
      obtain ⟨v_143, he_144, hk_145⟩ := bd_e H
      have J_146 : ∀ x_42, v_143 = x_42 → YY l E M_X12_writeBytes 4 0 0 (pS (some (vi r)) σ') 39 [some (vr 277), some (vi slot_0), some (vi order_0), none, none, none, none, none] [zv x_42, vr 277] σ_34 0 0 := by
        intro x_42 e
        have H := hk_145
        rw [e] at H
        refine z_iconst (M := M_X12_writeBytes) dX12_writeBytes_39 ?_
        obtain ⟨⟨x_45, σ_44⟩, hc_43, H⟩ := bd_e H
        refine z_callV (M := M_X12_writeBytes) (M' := M_X12_fails) (as := [zv x_42, vi 2]) (rest := []) rfl rfl dX12_writeBytes_40 m_X12_fails t_2805 t_2807 s_157 (c_X12_fails hl  hc_43) rfl rfl ly_277 rfl (Nat.le_of_ble_eq_true rfl) (Nat.le_of_ble_eq_true rfl) (Nat.le_of_ble_eq_true rfl) (Nat.le_of_ble_eq_true rfl) ?_
        refine z_st (st' := [zv x_45]) rfl ?_
        rcases if_e H with ⟨h_46, H⟩ | ⟨h_46, H⟩
        · refine z_zne_t (M := M_X12_writeBytes) (tgt := 69) dX12_writeBytes_43 (by decide) h_46 ?_
          refine z_iconst (M := M_X12_writeBytes) dX12_writeBytes_69 ?_
          cases H
          exact z_iret (M := M_X12_writeBytes) dX12_writeBytes_70 rfl (Nat.le_of_ble_eq_true rfl) (Nat.le_of_ble_eq_true rfl) ⟨rfl, rfl⟩
        · refine z_zne_f (M := M_X12_writeBytes) (tgt := 69) dX12_writeBytes_43 (by decide) h_46 ?_
          refine z_aload_n (M := M_X12_writeBytes) dX12_writeBytes_46 rfl ?_
          have J_47 : YY l E M_X12_writeBytes 4 0 0 (pS (some (vi r)) σ') 62 [some (vr 277), some (vi slot_0), some (vi order_0), none, none, none, none, none] [zv (decide (¬ ((fR_in (w32 order_0) 0 1) = true))), vr 277] σ_44 0 0 := by
            refine z_iconst (M := M_X12_writeBytes) dX12_writeBytes_62 ?_
            obtain ⟨⟨x_50, σ_49⟩, hc_48, H⟩ := bd_e H
            refine z_callV (M := M_X12_writeBytes) (M' := M_X12_fails) (as := [zv (decide (¬ ((fR_in (w32 order_0) 0 1) = true))), vi 3]) (rest := []) rfl rfl dX12_writeBytes_63 m_X12_fails t_2805 t_2807 s_157 (c_X12_fails hl  hc_48) rfl rfl ly_277 rfl (Nat.le_of_ble_eq_true rfl) (Nat.le_of_ble_eq_true rfl) (Nat.le_of_ble_eq_true rfl) (Nat.le_of_ble_eq_true rfl) ?_
            refine z_st (st' := [zv x_50]) rfl ?_
            rcases if_e H with ⟨h_51, H⟩ | ⟨h_51, H⟩
            · refine z_zeq_f (M := M_X12_writeBytes) (tgt := 71) dX12_writeBytes_66 (by decide) h_51 ?_
              refine z_iconst (M := M_X12_writeBytes) dX12_writeBytes_69 ?_
              cases H
              exact z_iret (M := M_X12_writeBytes) dX12_writeBytes_70 rfl (Nat.le_of_ble_eq_true rfl) (Nat.le_of_ble_eq_true rfl) ⟨rfl, rfl⟩
            · refine z_zeq_t (M := M_X12_writeBytes) (tgt := 71) dX12_writeBytes_66 (by decide) h_51 ?_
              refine z_aload_n (M := M_X12_writeBytes) dX12_writeBytes_71 rfl ?_
              refine z_iconst (M := M_X12_writeBytes) dX12_writeBytes_72 ?_
              obtain ⟨σ_52, σ_52_e, H⟩ := wf_e H
              refine z_putI (M := M_X12_writeBytes) (ci := 15) (C := RX12) (T := TX12) (Nf := 135) (ty := tyX12) cl15 dX12_writeBytes_73 ly_277 6 (by decide) t_2397 rfl rfl rfl rfl σ_52_e ?_
              refine z_aload_n (M := M_X12_writeBytes) dX12_writeBytes_76 rfl ?_
              refine z_sipush (M := M_X12_writeBytes) dX12_writeBytes_77 (by decide +kernel) ?_
              refine z_iload_n (M := M_X12_writeBytes) dX12_writeBytes_80 rfl ?_
              refine z_imul (M := M_X12_writeBytes) dX12_writeBytes_81 ?_
              obtain ⟨σ_53, σ_53_e, H⟩ := wf_e H
              refine z_putI (M := M_X12_writeBytes) (ci := 15) (C := RX12) (T := TX12) (Nf := 135) (ty := tyX12) cl15 dX12_writeBytes_82 ly_277 30 (by decide) t_2421 rfl rfl rfl rfl σ_53_e ?_
              refine z_aload_n (M := M_X12_writeBytes) dX12_writeBytes_85 rfl ?_
              refine z_sipush (M := M_X12_writeBytes) dX12_writeBytes_86 (by decide +kernel) ?_
              refine z_iload_n (M := M_X12_writeBytes) dX12_writeBytes_89 rfl ?_
              refine z_imul (M := M_X12_writeBytes) dX12_writeBytes_90 ?_
              obtain ⟨σ_54, σ_54_e, H⟩ := wf_e H
              refine z_putI (M := M_X12_writeBytes) (ci := 15) (C := RX12) (T := TX12) (Nf := 135) (ty := tyX12) cl15 dX12_writeBytes_91 ly_277 31 (by decide) t_2422 rfl rfl rfl rfl σ_54_e ?_
              refine z_aload_n (M := M_X12_writeBytes) dX12_writeBytes_94 rfl ?_
              refine z_getI (M := M_X12_writeBytes) (ci := 15) (C := RX12) (T := TX12) (Nf := 135) (ty := tyX12) cl15 dX12_writeBytes_95 ly_277 30 (by decide) t_2421 rfl rfl ?_
              refine z_aload_n (M := M_X12_writeBytes) dX12_writeBytes_98 rfl ?_
              refine z_getR (M := M_X12_writeBytes) (ci := 15) (C := RX12) (T := TX12) (Nf := 135) (ty := tyX12) cl15 dX12_writeBytes_99 ly_277 9 (by decide) t_2400 rfl ?_
              refine z_iload_n (M := M_X12_writeBytes) dX12_writeBytes_102 rfl ?_
              obtain ⟨x_55, x_55_e, hi_56, H⟩ := rd_e H
              refine z_iald (M := M_X12_writeBytes) dX12_writeBytes_103 ly_280 rfl rfl rfl hi_56 x_55_e ?_
              refine z_iadd (M := M_X12_writeBytes) dX12_writeBytes_104 ?_
              refine z_istore_n (M := M_X12_writeBytes) (lv' := [some (vr 277), some (vi slot_0), some (vi order_0), some (vi ((σ_54 kR_planAt 0) + x_55)), none, none, none, none]) dX12_writeBytes_105 (Nat.le_of_ble_eq_true rfl) rfl rfl ?_
              obtain ⟨rl_61, hw_58, hk_59⟩ := bd_e H
              have J_141 : ∀ σ_140, rl_61 = σ_140 → YY l E M_X12_writeBytes 4 0 0 (pS (some (vi r)) σ') 249 [some (vr 277), some (vi slot_0), some (vi order_0), some (vi ((σ_54 kR_planAt 0) + x_55)), none, none, none, none] [] σ_140 0 0 := by
                intro σ_140 e
                have H := hk_59
                rw [e] at H
                refine z_aload_n (M := M_X12_writeBytes) dX12_writeBytes_249 rfl ?_
                refine z_getI (M := M_X12_writeBytes) (ci := 15) (C := RX12) (T := TX12) (Nf := 135) (ty := tyX12) cl15 dX12_writeBytes_250 ly_277 6 (by decide) t_2397 rfl rfl ?_
                cases H
                exact z_iret (M := M_X12_writeBytes) dX12_writeBytes_253 rfl (Nat.le_of_ble_eq_true rfl) (Nat.le_of_ble_eq_true rfl) ⟨rfl, rfl⟩
              refine whl_go hw_58 (fun σ_57 => YY l E M_X12_writeBytes 4 0 0 (pS (some (vi r)) σ') 106 [some (vr 277), some (vi slot_0), some (vi order_0), some (vi ((σ_54 kR_planAt 0) + x_55)), none, none, none, none] [] σ_57 0 0) ?_
              rintro σ_57 o_62 H K_63 K_64
              refine z_aload_n (M := M_X12_writeBytes) dX12_writeBytes_106 rfl ?_
              refine z_getI (M := M_X12_writeBytes) (ci := 15) (C := RX12) (T := TX12) (Nf := 135) (ty := tyX12) cl15 dX12_writeBytes_107 ly_277 30 (by decide) t_2421 rfl rfl ?_
              refine z_iload_n (M := M_X12_writeBytes) dX12_writeBytes_110 rfl ?_
              rcases if_e H with ⟨h_65, H⟩ | ⟨h_65, H⟩
              · refine z_icmp_ge_f (M := M_X12_writeBytes) (tgt := 249) dX12_writeBytes_111 (by decide) rfl rfl h_65 ?_
                refine z_aload_n (M := M_X12_writeBytes) dX12_writeBytes_114 rfl ?_
                obtain ⟨⟨x_68, σ_67⟩, hc_66, H⟩ := bd_e H
                refine z_callV (M := M_X12_writeBytes) (M' := M_X12_next) (as := []) (rest := []) rfl rfl dX12_writeBytes_115 m_X12_next t_3037 t_3039 s_198 (c_X12_next hl  hc_66) rfl rfl ly_277 rfl (Nat.le_of_ble_eq_true rfl) (Nat.le_of_ble_eq_true rfl) (Nat.le_of_ble_eq_true rfl) (Nat.le_of_ble_eq_true rfl) ?_
                refine z_st (st' := [vi x_68]) rfl ?_
                refine z_istore (M := M_X12_writeBytes) (lv' := [some (vr 277), some (vi slot_0), some (vi order_0), some (vi ((σ_54 kR_planAt 0) + x_55)), some (vi x_68), none, none, none]) dX12_writeBytes_118 (Nat.le_of_ble_eq_true rfl) rfl rfl ?_
                refine z_aload_n (M := M_X12_writeBytes) dX12_writeBytes_120 rfl ?_
                obtain ⟨⟨x_71, σ_70⟩, hc_69, H⟩ := bd_e H
                refine z_callV (M := M_X12_writeBytes) (M' := M_X12_next) (as := []) (rest := []) rfl rfl dX12_writeBytes_121 m_X12_next t_3037 t_3039 s_198 (c_X12_next hl  hc_69) rfl rfl ly_277 rfl (Nat.le_of_ble_eq_true rfl) (Nat.le_of_ble_eq_true rfl) (Nat.le_of_ble_eq_true rfl) (Nat.le_of_ble_eq_true rfl) ?_
                refine z_st (st' := [vi x_71]) rfl ?_
                refine z_istore (M := M_X12_writeBytes) (lv' := [some (vr 277), some (vi slot_0), some (vi order_0), some (vi ((σ_54 kR_planAt 0) + x_55)), some (vi x_68), some (vi x_71), none, none]) dX12_writeBytes_124 (Nat.le_of_ble_eq_true rfl) rfl rfl ?_
                refine z_aload_n (M := M_X12_writeBytes) dX12_writeBytes_126 rfl ?_
                refine z_iload_n (M := M_X12_writeBytes) dX12_writeBytes_127 rfl ?_
                obtain ⟨σ_73, hc_72, H⟩ := bd_e H
                refine z_callV (M := M_X12_writeBytes) (M' := M_X12_put) (as := [vi order_0]) (rest := []) rfl rfl dX12_writeBytes_128 m_X12_put t_3045 t_3047 s_200 (c_X12_put hl  hc_72) rfl rfl ly_277 rfl (Nat.le_of_ble_eq_true rfl) (Nat.le_of_ble_eq_true rfl) (Nat.le_of_ble_eq_true rfl) (Nat.le_of_ble_eq_true rfl) ?_
                refine z_st (st' := []) rfl ?_
                refine z_aload_n (M := M_X12_writeBytes) dX12_writeBytes_131 rfl ?_
                refine z_iload (M := M_X12_writeBytes) dX12_writeBytes_132 rfl ?_
                refine z_i2l (M := M_X12_writeBytes) dX12_writeBytes_134 ?_
                refine z_iconst (M := M_X12_writeBytes) dX12_writeBytes_135 ?_
                refine z_iload_n (M := M_X12_writeBytes) dX12_writeBytes_136 rfl ?_
                obtain ⟨σ_75, hc_74, H⟩ := bd_e H
                refine z_callV (M := M_X12_writeBytes) (M' := M_X12_putBytes) (as := [vl (w32 x_68), vi 4, vi order_0]) (rest := []) rfl rfl dX12_writeBytes_137 m_X12_putBytes t_3078 t_3080 s_207 (c_X12_putBytes hl  hc_74) rfl rfl ly_277 rfl (Nat.le_of_ble_eq_true rfl) (Nat.le_of_ble_eq_true rfl) (Nat.le_of_ble_eq_true rfl) (Nat.le_of_ble_eq_true rfl) ?_
                refine z_st (st' := []) rfl ?_
                rcases if_e H with ⟨h_132, H⟩ | ⟨h_132, H⟩
                · have J_133 : YY l E M_X12_writeBytes 4 0 0 (pS (some (vi r)) σ') 151 [some (vr 277), some (vi slot_0), some (vi order_0), some (vi ((σ_54 kR_planAt 0) + x_55)), some (vi x_68), some (vi x_71), none, none] [] σ_75 0 0 := by
                    refine z_aload_n (M := M_X12_writeBytes) dX12_writeBytes_151 rfl ?_
                    refine z_ldc2 (M := M_X12_writeBytes) (n := 9221120237041090560) dX12_writeBytes_152 t_3082 (by decide +kernel) ?_
                    refine z_bipush (M := M_X12_writeBytes) dX12_writeBytes_155 (by decide +kernel) ?_
                    refine z_iload_n (M := M_X12_writeBytes) dX12_writeBytes_157 rfl ?_
                    obtain ⟨σ_77, hc_76, H⟩ := bd_e H
                    refine z_callV (M := M_X12_writeBytes) (M' := M_X12_putBytes) (as := [vl 9221120237041090560, vi 8, vi order_0]) (rest := []) rfl rfl dX12_writeBytes_158 m_X12_putBytes t_3078 t_3080 s_207 (c_X12_putBytes hl  hc_76) rfl rfl ly_277 rfl (Nat.le_of_ble_eq_true rfl) (Nat.le_of_ble_eq_true rfl) (Nat.le_of_ble_eq_true rfl) (Nat.le_of_ble_eq_true rfl) ?_
                    refine z_st (st' := []) rfl ?_
                    refine z_aload_n (M := M_X12_writeBytes) dX12_writeBytes_161 rfl ?_
                    refine z_ldc2 (M := M_X12_writeBytes) (n := 9221120237041090560) dX12_writeBytes_162 t_3082 (by decide +kernel) ?_
                    refine z_bipush (M := M_X12_writeBytes) dX12_writeBytes_165 (by decide +kernel) ?_
                    refine z_iload_n (M := M_X12_writeBytes) dX12_writeBytes_167 rfl ?_
                    obtain ⟨σ_79, hc_78, H⟩ := bd_e H
                    refine z_callV (M := M_X12_writeBytes) (M' := M_X12_putBytes) (as := [vl 9221120237041090560, vi 8, vi order_0]) (rest := []) rfl rfl dX12_writeBytes_168 m_X12_putBytes t_3078 t_3080 s_207 (c_X12_putBytes hl  hc_78) rfl rfl ly_277 rfl (Nat.le_of_ble_eq_true rfl) (Nat.le_of_ble_eq_true rfl) (Nat.le_of_ble_eq_true rfl) (Nat.le_of_ble_eq_true rfl) ?_
                    refine z_st (st' := []) rfl ?_
                    refine z_goto (M := M_X12_writeBytes) (tgt := 106) dX12_writeBytes_171 (by decide) ?_
                    refine z_le (lv' := [some (vr 277), some (vi slot_0), some (vi order_0), some (vi ((σ_54 kR_planAt 0) + x_55)), none, none, none, none]) ⟨Or.inr rfl, Or.inr rfl, Or.inr rfl, Or.inr rfl, Or.inl rfl, Or.inl rfl, Or.inl rfl, Or.inl rfl, trivial⟩ ?_
                    exact K_63 _ (Option.some.inj H).symm
                  refine z_iload (M := M_X12_writeBytes) dX12_writeBytes_140 rfl ?_
                  refine z_iconst (M := M_X12_writeBytes) dX12_writeBytes_142 ?_
                  by_cases h_135 : (w32 x_68) = 1
                  · refine z_icmp_ne_f (M := M_X12_writeBytes) (tgt := 174) dX12_writeBytes_143 (by decide) rfl (by decide +kernel) h_135 ?_
                    refine z_iload (M := M_X12_writeBytes) dX12_writeBytes_146 rfl ?_
                    by_cases h_136 : (w32 x_71) = 0
                    · refine z_if_ne_f (M := M_X12_writeBytes) (tgt := 174) dX12_writeBytes_148 (by decide) rfl h_136 ?_
                      exact J_133
                    · refine z_if_ne_t (M := M_X12_writeBytes) (tgt := 174) dX12_writeBytes_148 (by decide) rfl h_136 ?_
                      exact absurd h_132 (fun q => h_136 q.2)
                  · refine z_icmp_ne_t (M := M_X12_writeBytes) (tgt := 174) dX12_writeBytes_143 (by decide) rfl (by decide +kernel) h_135 ?_
                    exact absurd h_132 (fun q => h_135 q.1)
                · have J_134 : YY l E M_X12_writeBytes 4 0 0 (pS (some (vi r)) σ') 174 [some (vr 277), some (vi slot_0), some (vi order_0), some (vi ((σ_54 kR_planAt 0) + x_55)), some (vi x_68), some (vi x_71), none, none] [] σ_75 0 0 := by
                    obtain ⟨v_84, he_81, hk_82⟩ := bd_e H
                    have J_131 : ∀ σ_90, v_84 = σ_90 → YY l E M_X12_writeBytes 4 0 0 (pS (some (vi r)) σ') 189 [some (vr 277), some (vi slot_0), some (vi order_0), some (vi ((σ_54 kR_planAt 0) + x_55)), some (vi x_68), some (vi x_71), none, none] [] σ_90 0 0 := by
                      intro σ_90 e
                      have H := hk_82
                      rw [e] at H
                      obtain ⟨v_94, he_91, hk_92⟩ := bd_e H
                      have J_130 : ∀ σ_100, v_94 = σ_100 → YY l E M_X12_writeBytes 4 0 0 (pS (some (vi r)) σ') 202 [some (vr 277), some (vi slot_0), some (vi order_0), some (vi ((σ_54 kR_planAt 0) + x_55)), some (vi x_68), some (vi x_71), none, none] [] σ_100 0 0 := by
                        intro σ_100 e
                        have H := hk_92
                        rw [e] at H
                        refine z_iconst (M := M_X12_writeBytes) dX12_writeBytes_202 ?_
                        refine z_istore (M := M_X12_writeBytes) (lv' := [some (vr 277), some (vi slot_0), some (vi order_0), some (vi ((σ_54 kR_planAt 0) + x_55)), some (vi x_68), some (vi x_71), some (vi 0), none]) dX12_writeBytes_203 (Nat.le_of_ble_eq_true rfl) rfl rfl ?_
                        obtain ⟨rl_106, hw_103, hk_104⟩ := bd_e H
                        have J_129 : ∀ k_126 σ_127, rl_106 = (k_126, σ_127) → YY l E M_X12_writeBytes 4 0 0 (pS (some (vi r)) σ') 246 [some (vr 277), some (vi slot_0), some (vi order_0), some (vi ((σ_54 kR_planAt 0) + x_55)), some (vi x_68), some (vi x_71), some (vi k_126), none] [] σ_127 0 0 := by
                          intro k_126 σ_127 e
                          have H := hk_104
                          rw [e] at H
                          refine z_goto (M := M_X12_writeBytes) (tgt := 106) dX12_writeBytes_246 (by decide) ?_
                          refine z_le (lv' := [some (vr 277), some (vi slot_0), some (vi order_0), some (vi ((σ_54 kR_planAt 0) + x_55)), none, none, none, none]) ⟨Or.inr rfl, Or.inr rfl, Or.inr rfl, Or.inr rfl, Or.inl rfl, Or.inl rfl, Or.inl rfl, Or.inl rfl, trivial⟩ ?_
                          exact K_63 _ (Option.some.inj H).symm
                        refine whl_go hw_103 (fun (k_101, σ_102) => YY l E M_X12_writeBytes 4 0 0 (pS (some (vi r)) σ') 205 [some (vr 277), some (vi slot_0), some (vi order_0), some (vi ((σ_54 kR_planAt 0) + x_55)), some (vi x_68), some (vi x_71), some (vi k_101), none] [] σ_102 0 0) ?_
                        rintro ⟨k_101, σ_102⟩ o_107 H K_108 K_109
                        rcases if_e H with ⟨h_119, H⟩ | ⟨h_119, H⟩
                        · have J_120 : YY l E M_X12_writeBytes 4 0 0 (pS (some (vi r)) σ') 218 [some (vr 277), some (vi slot_0), some (vi order_0), some (vi ((σ_54 kR_planAt 0) + x_55)), some (vi x_68), some (vi x_71), some (vi k_101), none] [] σ_102 0 0 := by
                            refine z_aload_n (M := M_X12_writeBytes) dX12_writeBytes_218 rfl ?_
                            obtain ⟨⟨x_112, σ_111⟩, hc_110, H⟩ := bd_e H
                            refine z_callV (M := M_X12_writeBytes) (M' := M_X12_next) (as := []) (rest := []) rfl rfl dX12_writeBytes_219 m_X12_next t_3037 t_3039 s_198 (c_X12_next hl  hc_110) rfl rfl ly_277 rfl (Nat.le_of_ble_eq_true rfl) (Nat.le_of_ble_eq_true rfl) (Nat.le_of_ble_eq_true rfl) (Nat.le_of_ble_eq_true rfl) ?_
                            refine z_st (st' := [vi x_112]) rfl ?_
                            refine z_istore (M := M_X12_writeBytes) (lv' := [some (vr 277), some (vi slot_0), some (vi order_0), some (vi ((σ_54 kR_planAt 0) + x_55)), some (vi x_68), some (vi x_71), some (vi k_101), some (vi x_112)]) dX12_writeBytes_222 (Nat.le_of_ble_eq_true rfl) rfl rfl ?_
                            refine z_aload_n (M := M_X12_writeBytes) dX12_writeBytes_224 rfl ?_
                            refine z_iload (M := M_X12_writeBytes) dX12_writeBytes_225 rfl ?_
                            refine z_i2l (M := M_X12_writeBytes) dX12_writeBytes_227 ?_
                            refine z_iconst (M := M_X12_writeBytes) dX12_writeBytes_228 ?_
                            refine z_iload_n (M := M_X12_writeBytes) dX12_writeBytes_229 rfl ?_
                            obtain ⟨σ_114, hc_113, H⟩ := bd_e H
                            refine z_callV (M := M_X12_writeBytes) (M' := M_X12_putBytes) (as := [vl (w32 x_112), vi 4, vi order_0]) (rest := []) rfl rfl dX12_writeBytes_230 m_X12_putBytes t_3078 t_3080 s_207 (c_X12_putBytes hl  hc_113) rfl rfl ly_277 rfl (Nat.le_of_ble_eq_true rfl) (Nat.le_of_ble_eq_true rfl) (Nat.le_of_ble_eq_true rfl) (Nat.le_of_ble_eq_true rfl) ?_
                            refine z_st (st' := []) rfl ?_
                            refine z_aload_n (M := M_X12_writeBytes) dX12_writeBytes_233 rfl ?_
                            refine z_iload (M := M_X12_writeBytes) dX12_writeBytes_234 rfl ?_
                            refine z_iload_n (M := M_X12_writeBytes) dX12_writeBytes_236 rfl ?_
                            obtain ⟨σ_116, hc_115, H⟩ := bd_e H
                            refine z_callV (M := M_X12_writeBytes) (M' := M_X12_putPoints) (as := [vi x_112, vi order_0]) (rest := []) rfl rfl dX12_writeBytes_237 m_X12_putPoints t_3083 t_3085 s_208 (c_X12_putPoints hl  hc_115) rfl rfl ly_277 rfl (Nat.le_of_ble_eq_true rfl) (Nat.le_of_ble_eq_true rfl) (Nat.le_of_ble_eq_true rfl) (Nat.le_of_ble_eq_true rfl) ?_
                            refine z_st (st' := []) rfl ?_
                            refine z_iinc (M := M_X12_writeBytes) (lv' := [some (vr 277), some (vi slot_0), some (vi order_0), some (vi ((σ_54 kR_planAt 0) + x_55)), some (vi x_68), some (vi x_71), some (vi (k_101 + 1)), some (vi x_112)]) dX12_writeBytes_240 rfl (Nat.le_of_ble_eq_true rfl) rfl rfl ?_
                            refine z_goto (M := M_X12_writeBytes) (tgt := 205) dX12_writeBytes_243 (by decide) ?_
                            refine z_le (lv' := [some (vr 277), some (vi slot_0), some (vi order_0), some (vi ((σ_54 kR_planAt 0) + x_55)), some (vi x_68), some (vi x_71), some (vi (k_101 + 1)), none]) ⟨Or.inr rfl, Or.inr rfl, Or.inr rfl, Or.inr rfl, Or.inr rfl, Or.inr rfl, Or.inr rfl, Or.inl rfl, trivial⟩ ?_
                            exact K_108 _ (Option.some.inj H).symm
                          refine z_iload (M := M_X12_writeBytes) dX12_writeBytes_205 rfl ?_
                          refine z_iconst (M := M_X12_writeBytes) dX12_writeBytes_207 ?_
                          by_cases h_122 : (w32 x_68) = 3
                          · refine z_icmp_ne_f (M := M_X12_writeBytes) (tgt := 246) dX12_writeBytes_208 (by decide) rfl (by decide +kernel) h_122 ?_
                            refine z_iload (M := M_X12_writeBytes) dX12_writeBytes_211 rfl ?_
                            refine z_iload (M := M_X12_writeBytes) dX12_writeBytes_213 rfl ?_
                            by_cases h_123 : (w32 k_101) < (w32 x_71)
                            · refine z_icmp_ge_f (M := M_X12_writeBytes) (tgt := 246) dX12_writeBytes_215 (by decide) rfl rfl h_123 ?_
                              exact J_120
                            · refine z_icmp_ge_t (M := M_X12_writeBytes) (tgt := 246) dX12_writeBytes_215 (by decide) rfl rfl (Int.not_lt.mp h_123) ?_
                              exact absurd h_119 (fun q => h_123 q.2)
                          · refine z_icmp_ne_t (M := M_X12_writeBytes) (tgt := 246) dX12_writeBytes_208 (by decide) rfl (by decide +kernel) h_122 ?_
                            exact absurd h_119 (fun q => h_122 q.1)
                        · have J_121 : YY l E M_X12_writeBytes 4 0 0 (pS (some (vi r)) σ') 246 [some (vr 277), some (vi slot_0), some (vi order_0), some (vi ((σ_54 kR_planAt 0) + x_55)), some (vi x_68), some (vi x_71), some (vi k_101), none] [] σ_102 0 0 := by
                            exact J_129 _ _ (K_109 _ (Option.some.inj H).symm).symm
                          refine z_iload (M := M_X12_writeBytes) dX12_writeBytes_205 rfl ?_
                          refine z_iconst (M := M_X12_writeBytes) dX12_writeBytes_207 ?_
                          by_cases h_124 : (w32 x_68) = 3
                          · refine z_icmp_ne_f (M := M_X12_writeBytes) (tgt := 246) dX12_writeBytes_208 (by decide) rfl (by decide +kernel) h_124 ?_
                            refine z_iload (M := M_X12_writeBytes) dX12_writeBytes_211 rfl ?_
                            refine z_iload (M := M_X12_writeBytes) dX12_writeBytes_213 rfl ?_
                            by_cases h_125 : (w32 k_101) < (w32 x_71)
                            · refine z_icmp_ge_f (M := M_X12_writeBytes) (tgt := 246) dX12_writeBytes_215 (by decide) rfl rfl h_125 ?_
                              exact absurd ⟨h_124, h_125⟩ h_119
                            · refine z_icmp_ge_t (M := M_X12_writeBytes) (tgt := 246) dX12_writeBytes_215 (by decide) rfl rfl (Int.not_lt.mp h_125) ?_
                              exact J_121
                          · refine z_icmp_ne_t (M := M_X12_writeBytes) (tgt := 246) dX12_writeBytes_208 (by decide) rfl (by decide +kernel) h_124 ?_
                            exact J_121
                      have H := he_91
                      refine z_iload (M := M_X12_writeBytes) dX12_writeBytes_189 rfl ?_
                      refine z_iconst (M := M_X12_writeBytes) dX12_writeBytes_191 ?_
                      rcases if_e H with ⟨h_95, H⟩ | ⟨h_95, H⟩
                      · refine z_icmp_ge_f (M := M_X12_writeBytes) (tgt := 202) dX12_writeBytes_192 (by decide) rfl (by decide +kernel) h_95 ?_
                        refine z_aload_n (M := M_X12_writeBytes) dX12_writeBytes_195 rfl ?_
                        refine z_iload (M := M_X12_writeBytes) dX12_writeBytes_196 rfl ?_
                        refine z_iload_n (M := M_X12_writeBytes) dX12_writeBytes_198 rfl ?_
                        obtain ⟨σ_97, hc_96, H⟩ := bd_e H
                        refine z_callV (M := M_X12_writeBytes) (M' := M_X12_putPoints) (as := [vi x_71, vi order_0]) (rest := []) rfl rfl dX12_writeBytes_199 m_X12_putPoints t_3083 t_3085 s_208 (c_X12_putPoints hl  hc_96) rfl rfl ly_277 rfl (Nat.le_of_ble_eq_true rfl) (Nat.le_of_ble_eq_true rfl) (Nat.le_of_ble_eq_true rfl) (Nat.le_of_ble_eq_true rfl) ?_
                        refine z_st (st' := []) rfl ?_
                        exact J_130 _ (Option.some.inj H).symm
                      · refine z_icmp_ge_t (M := M_X12_writeBytes) (tgt := 202) dX12_writeBytes_192 (by decide) rfl (by decide +kernel) (Int.not_lt.mp h_95) ?_
                        exact J_130 _ (Option.some.inj H).symm
                    have H := he_81
                    refine z_iload (M := M_X12_writeBytes) dX12_writeBytes_174 rfl ?_
                    refine z_iconst (M := M_X12_writeBytes) dX12_writeBytes_176 ?_
                    rcases if_e H with ⟨h_85, H⟩ | ⟨h_85, H⟩
                    · refine z_icmp_le_f (M := M_X12_writeBytes) (tgt := 189) dX12_writeBytes_177 (by decide) rfl (by decide +kernel) h_85 ?_
                      refine z_aload_n (M := M_X12_writeBytes) dX12_writeBytes_180 rfl ?_
                      refine z_iload (M := M_X12_writeBytes) dX12_writeBytes_181 rfl ?_
                      refine z_i2l (M := M_X12_writeBytes) dX12_writeBytes_183 ?_
                      refine z_iconst (M := M_X12_writeBytes) dX12_writeBytes_184 ?_
                      refine z_iload_n (M := M_X12_writeBytes) dX12_writeBytes_185 rfl ?_
                      obtain ⟨σ_87, hc_86, H⟩ := bd_e H
                      refine z_callV (M := M_X12_writeBytes) (M' := M_X12_putBytes) (as := [vl (w32 x_71), vi 4, vi order_0]) (rest := []) rfl rfl dX12_writeBytes_186 m_X12_putBytes t_3078 t_3080 s_207 (c_X12_putBytes hl  hc_86) rfl rfl ly_277 rfl (Nat.le_of_ble_eq_true rfl) (Nat.le_of_ble_eq_true rfl) (Nat.le_of_ble_eq_true rfl) (Nat.le_of_ble_eq_true rfl) ?_
                      refine z_st (st' := []) rfl ?_
                      exact J_131 _ (Option.some.inj H).symm
                    · refine z_icmp_le_t (M := M_X12_writeBytes) (tgt := 189) dX12_writeBytes_177 (by decide) rfl (by decide +kernel) (Int.not_lt.mp h_85) ?_
                      exact J_131 _ (Option.some.inj H).symm
                  refine z_iload (M := M_X12_writeBytes) dX12_writeBytes_140 rfl ?_
                  refine z_iconst (M := M_X12_writeBytes) dX12_writeBytes_142 ?_
                  by_cases h_137 : (w32 x_68) = 1
                  · refine z_icmp_ne_f (M := M_X12_writeBytes) (tgt := 174) dX12_writeBytes_143 (by decide) rfl (by decide +kernel) h_137 ?_
                    refine z_iload (M := M_X12_writeBytes) dX12_writeBytes_146 rfl ?_
                    by_cases h_138 : (w32 x_71) = 0
                    · refine z_if_ne_f (M := M_X12_writeBytes) (tgt := 174) dX12_writeBytes_148 (by decide) rfl h_138 ?_
                      exact absurd ⟨h_137, h_138⟩ h_132
                    · refine z_if_ne_t (M := M_X12_writeBytes) (tgt := 174) dX12_writeBytes_148 (by decide) rfl h_138 ?_
                      exact J_134
                  · refine z_icmp_ne_t (M := M_X12_writeBytes) (tgt := 174) dX12_writeBytes_143 (by decide) rfl (by decide +kernel) h_137 ?_
                    exact J_134
              · refine z_icmp_ge_t (M := M_X12_writeBytes) (tgt := 249) dX12_writeBytes_111 (by decide) rfl rfl (Int.not_lt.mp h_65) ?_
                exact J_141 _ (K_64 _ (Option.some.inj H).symm).symm
          refine z_iload_n (M := M_X12_writeBytes) dX12_writeBytes_47 rfl ?_
          refine z_i2l (M := M_X12_writeBytes) dX12_writeBytes_48 ?_
          refine z_lconst (M := M_X12_writeBytes) (m := 0) dX12_writeBytes_49 (by decide +kernel) ?_
          refine z_lconst (M := M_X12_writeBytes) (m := 1) dX12_writeBytes_50 (by decide +kernel) ?_
          refine z_callS (M := M_X12_writeBytes) (M' := M_X12_in) (as := [vl (w32 order_0), vl 0, vl 1]) (rest := [vr 277]) rfl rfl dX12_writeBytes_51 m_X12_in t_2818 t_2819 (c_X12_in hl  rfl) rfl rfl (Nat.le_of_ble_eq_true rfl) (Nat.le_of_ble_eq_true rfl) (Nat.le_of_ble_eq_true rfl) (Nat.le_of_ble_eq_true rfl) ?_
          refine z_st (st' := [zv (fR_in (w32 order_0) 0 1), vr 277]) rfl ?_
          by_cases h_142 : (fR_in (w32 order_0) 0 1) = true
          · refine z_zne_t (M := M_X12_writeBytes) (tgt := 61) dX12_writeBytes_54 (by decide) h_142 ?_
            refine z_iconst (M := M_X12_writeBytes) dX12_writeBytes_61 ?_
            exact z_st (by rw [zv_f (p := ¬ ((fR_in (w32 order_0) 0 1) = true)) (not_not_intro h_142)]) J_47
          · refine z_zne_f (M := M_X12_writeBytes) (tgt := 61) dX12_writeBytes_54 (by decide) h_142 ?_
            refine z_iconst (M := M_X12_writeBytes) dX12_writeBytes_57 ?_
            refine z_goto (M := M_X12_writeBytes) (tgt := 62) dX12_writeBytes_58 (by decide) ?_
            exact z_st (by rw [zv_t (p := ¬ ((fR_in (w32 order_0) 0 1) = true)) h_142]) J_47
      have H := he_144
      refine z_aload_n (M := M_X12_writeBytes) dX12_writeBytes_26 rfl ?_
      refine z_iload_n (M := M_X12_writeBytes) dX12_writeBytes_27 rfl ?_
      obtain ⟨x_38, hc_37, H⟩ := bd_e H
      refine z_callV (M := M_X12_writeBytes) (M' := M_X12_has) (as := [vi slot_0]) (rest := [vr 277]) rfl rfl dX12_writeBytes_28 m_X12_has t_3033 t_3035 s_197 (c_X12_has hl  hc_37) rfl rfl ly_277 rfl (Nat.le_of_ble_eq_true rfl) (Nat.le_of_ble_eq_true rfl) (Nat.le_of_ble_eq_true rfl) (Nat.le_of_ble_eq_true rfl) ?_
      refine z_st (st' := [zv x_38, vr 277]) rfl ?_
      rcases if_e H with ⟨h_39, H⟩ | ⟨h_39, H⟩
      · refine z_zne_t (M := M_X12_writeBytes) (tgt := 38) dX12_writeBytes_31 (by decide) h_39 ?_
        refine z_zconst (M := M_X12_writeBytes) (b := false) dX12_writeBytes_38 rfl ?_
        exact J_146 _ (Option.some.inj H).symm
      · refine z_zne_f (M := M_X12_writeBytes) (tgt := 38) dX12_writeBytes_31 (by decide) h_39 ?_
        refine z_zconst (M := M_X12_writeBytes) (b := true) dX12_writeBytes_34 rfl ?_
        refine z_goto (M := M_X12_writeBytes) (tgt := 39) dX12_writeBytes_35 (by decide) ?_
        exact J_146 _ (Option.some.inj H).symm
  refine z_iload_n (M := M_X12_writeBytes) dX12_writeBytes_6 rfl ?_
  refine z_callS (M := M_X12_writeBytes) (M' := M_X12_isSlot) (as := [vi slot_0]) (rest := [vr 277]) rfl rfl dX12_writeBytes_7 m_X12_isSlot t_2841 t_2842 (c_X12_isSlot hl  rfl) rfl rfl (Nat.le_of_ble_eq_true rfl) (Nat.le_of_ble_eq_true rfl) (Nat.le_of_ble_eq_true rfl) (Nat.le_of_ble_eq_true rfl) ?_
  refine z_st (st' := [zv (fR_isSlot slot_0), vr 277]) rfl ?_
  by_cases h_147 : (fR_isSlot slot_0) = true
  · refine z_zne_t (M := M_X12_writeBytes) (tgt := 17) dX12_writeBytes_10 (by decide) h_147 ?_
    refine z_iconst (M := M_X12_writeBytes) dX12_writeBytes_17 ?_
    exact z_st (by rw [zv_f (p := ¬ ((fR_isSlot slot_0) = true)) (not_not_intro h_147)]) J_32
  · refine z_zne_f (M := M_X12_writeBytes) (tgt := 17) dX12_writeBytes_10 (by decide) h_147 ?_
    refine z_iconst (M := M_X12_writeBytes) dX12_writeBytes_13 ?_
    refine z_goto (M := M_X12_writeBytes) (tgt := 18) dX12_writeBytes_14 (by decide) ?_
    exact z_st (by rw [zv_t (p := ¬ ((fR_isSlot slot_0) = true)) h_147]) J_32
end LFAO
