section LFAC
variable {l : Launch} {E : EE}
theorem c_X0_readShape (hl : l.stackTraces = false) {σ : SG} {needed_0 : Int} {r : Bool} {σ' : SG}  (H : fB_readShape σ needed_0 = some (r, σ')) : en_S l E M_X0_readShape 6 0 0 [vr 170, vi needed_0] σ (pS (some (zv r)) σ') := by
  unfold fB_readShape at H
  refine z_mk (lv := [some (vr 170), some (vi needed_0), none, none, none, none]) m_X0_readShape rfl hl (Nat.le_of_ble_eq_true rfl) rfl ?_
  refine z_aload_n (M := M_X0_readShape) dX0_readShape_0 rfl ?_
  refine z_iconst (M := M_X0_readShape) dX0_readShape_1 ?_
  refine z_callV (M := M_X0_readShape) (M' := M_X0_has) (as := [vi 1]) (rest := []) rfl rfl dX0_readShape_2 m_X0_has t_971 t_973 s_24 (c_X0_has hl  rfl) rfl rfl ly_170 rfl (Nat.le_of_ble_eq_true rfl) (Nat.le_of_ble_eq_true rfl) (Nat.le_of_ble_eq_true rfl) (Nat.le_of_ble_eq_true rfl) ?_
  refine z_st (st' := [zv (fB_has σ 1)]) rfl ?_
  rcases if_e H with ⟨h_1, H⟩ | ⟨h_1, H⟩
  · refine z_zne_t (M := M_X0_readShape) (tgt := 14) dX0_readShape_5 (by decide) h_1 ?_
    obtain ⟨v_200, he_201, hk_202⟩ := bd_e H
    have J_203 : v_200 = true → YY l E M_X0_readShape 6 0 0 (pS (some (zv r)) σ') 39 [some (vr 170), some (vi needed_0), none, none, none, none] [] σ 0 0 := by
      intro e
      have H := hk_202
      rw [e] at H
      rcases if_e H with ⟨_, H⟩ | ⟨q, H⟩
      · refine z_aload_n (M := M_X0_readShape) dX0_readShape_39 rfl ?_
        refine z_iconst (M := M_X0_readShape) dX0_readShape_40 ?_
        obtain ⟨⟨x_111, σ_110⟩, hc_109, H⟩ := bd_e H
        refine z_callV (M := M_X0_readShape) (M' := M_X0_fail) (as := [vi 1]) (rest := []) rfl rfl dX0_readShape_41 m_X0_fail t_975 t_977 s_25 (c_X0_fail hl  hc_109) rfl rfl ly_170 rfl (Nat.le_of_ble_eq_true rfl) (Nat.le_of_ble_eq_true rfl) (Nat.le_of_ble_eq_true rfl) (Nat.le_of_ble_eq_true rfl) ?_
        refine z_st (st' := [zv x_111]) rfl ?_
        cases H
        exact z_zret (M := M_X0_readShape) dX0_readShape_44 rfl (Nat.le_of_ble_eq_true rfl) (Nat.le_of_ble_eq_true rfl) ⟨rfl, rfl⟩
      · exact absurd rfl q
    have J_204 : v_200 = false → YY l E M_X0_readShape 6 0 0 (pS (some (zv r)) σ') 45 [some (vr 170), some (vi needed_0), none, none, none, none] [] σ 0 0 := by
      intro e
      have H := hk_202
      rw [e] at H
      rcases if_e H with ⟨q, H⟩ | ⟨_, H⟩
      · exact nomatch q
      · refine z_aload_n (M := M_X0_readShape) dX0_readShape_45 rfl ?_
        obtain ⟨v_196, he_197, hk_198⟩ := bd_e H
        have J_199 : ∀ x_117, v_196 = x_117 → YY l E M_X0_readShape 6 0 0 (pS (some (zv r)) σ') 64 [some (vr 170), some (vi needed_0), none, none, none, none] [zv x_117, vr 170] σ 0 0 := by
          intro x_117 e
          have H := hk_198
          rw [e] at H
          obtain ⟨σ_118, σ_118_e, H⟩ := wf_e H
          refine z_putZ (M := M_X0_readShape) (ci := 3) (C := RX0) (T := TX0) (Nf := 13) (ty := tyX0) cl3 dX0_readShape_64 ly_170 9 (by decide) t_160 rfl rfl rfl rfl σ_118_e ?_
          refine z_aload_n (M := M_X0_readShape) dX0_readShape_67 rfl ?_
          refine z_dup (M := M_X0_readShape) dX0_readShape_68 rfl ?_
          refine z_getI (M := M_X0_readShape) (ci := 3) (C := RX0) (T := TX0) (Nf := 13) (ty := tyX0) cl3 dX0_readShape_69 ly_170 6 (by decide) t_157 rfl rfl ?_
          refine z_iconst (M := M_X0_readShape) dX0_readShape_72 ?_
          refine z_iadd (M := M_X0_readShape) dX0_readShape_73 ?_
          obtain ⟨σ_119, σ_119_e, H⟩ := wf_e H
          refine z_putI (M := M_X0_readShape) (ci := 3) (C := RX0) (T := TX0) (Nf := 13) (ty := tyX0) cl3 dX0_readShape_74 ly_170 6 (by decide) t_157 rfl rfl rfl rfl σ_119_e ?_
          refine z_aload_n (M := M_X0_readShape) dX0_readShape_77 rfl ?_
          refine z_iconst (M := M_X0_readShape) dX0_readShape_78 ?_
          refine z_callV (M := M_X0_readShape) (M' := M_X0_has) (as := [vi 4]) (rest := []) rfl rfl dX0_readShape_79 m_X0_has t_971 t_973 s_24 (c_X0_has hl  rfl) rfl rfl ly_170 rfl (Nat.le_of_ble_eq_true rfl) (Nat.le_of_ble_eq_true rfl) (Nat.le_of_ble_eq_true rfl) (Nat.le_of_ble_eq_true rfl) ?_
          refine z_st (st' := [zv (fB_has σ_119 4)]) rfl ?_
          rcases if_e H with ⟨h_120, H⟩ | ⟨h_120, H⟩
          · refine z_zne_t (M := M_X0_readShape) (tgt := 91) dX0_readShape_82 (by decide) h_120 ?_
            refine z_aload_n (M := M_X0_readShape) dX0_readShape_91 rfl ?_
            refine z_aload_n (M := M_X0_readShape) dX0_readShape_92 rfl ?_
            refine z_getI (M := M_X0_readShape) (ci := 3) (C := RX0) (T := TX0) (Nf := 13) (ty := tyX0) cl3 dX0_readShape_93 ly_170 6 (by decide) t_157 rfl rfl ?_
            refine z_iconst (M := M_X0_readShape) dX0_readShape_96 ?_
            obtain ⟨x_122, hc_121, H⟩ := bd_e H
            refine z_callV (M := M_X0_readShape) (M' := M_X0_numberAt) (as := [vi (σ_119 kB_at 0), vi 4]) (rest := []) rfl rfl dX0_readShape_97 m_X0_numberAt t_979 t_981 s_26 (c_X0_numberAt hl  hc_121) rfl rfl ly_170 rfl (Nat.le_of_ble_eq_true rfl) (Nat.le_of_ble_eq_true rfl) (Nat.le_of_ble_eq_true rfl) (Nat.le_of_ble_eq_true rfl) ?_
            refine z_st (st' := [vl x_122]) rfl ?_
            refine z_lstore_n (M := M_X0_readShape) (lv' := [some (vr 170), some (vi needed_0), some (vl x_122), none, none, none]) dX0_readShape_100 (Nat.le_of_ble_eq_true rfl) rfl rfl ?_
            refine z_lload_n (M := M_X0_readShape) dX0_readShape_101 rfl ?_
            refine z_ldc2 (M := M_X0_readShape) (n := 536870911) dX0_readShape_102 t_983 (by decide +kernel) ?_
            refine z_land (M := M_X0_readShape) dX0_readShape_105 ?_
            refine z_l2i (M := M_X0_readShape) dX0_readShape_106 ?_
            refine z_istore (M := M_X0_readShape) (lv' := [some (vr 170), some (vi needed_0), some (vl x_122), none, some (vi (q_lan x_122 536870911)), none]) dX0_readShape_107 (Nat.le_of_ble_eq_true rfl) rfl rfl ?_
            refine z_iload (M := M_X0_readShape) dX0_readShape_109 rfl ?_
            refine z_sipush (M := M_X0_readShape) dX0_readShape_111 (by decide +kernel) ?_
            refine z_irem (M := M_X0_readShape) dX0_readShape_114 (by decide +kernel) ?_
            refine z_istore (M := M_X0_readShape) (lv' := [some (vr 170), some (vi needed_0), some (vl x_122), none, some (vi (q_lan x_122 536870911)), some (vi (q_irm (q_lan x_122 536870911) 1000))]) dX0_readShape_115 (Nat.le_of_ble_eq_true rfl) rfl rfl ?_
            rcases if_e H with ⟨h_180, H⟩ | ⟨h_180, H⟩
            · have J_181 : YY l E M_X0_readShape 6 0 0 (pS (some (zv r)) σ') 148 [some (vr 170), some (vi needed_0), some (vl x_122), none, some (vi (q_lan x_122 536870911)), some (vi (q_irm (q_lan x_122 536870911) 1000))] [] σ_119 0 0 := by
                refine z_aload_n (M := M_X0_readShape) dX0_readShape_148 rfl ?_
                refine z_iconst (M := M_X0_readShape) dX0_readShape_149 ?_
                obtain ⟨⟨x_125, σ_124⟩, hc_123, H⟩ := bd_e H
                refine z_callV (M := M_X0_readShape) (M' := M_X0_fail) (as := [vi 2]) (rest := []) rfl rfl dX0_readShape_150 m_X0_fail t_975 t_977 s_25 (c_X0_fail hl  hc_123) rfl rfl ly_170 rfl (Nat.le_of_ble_eq_true rfl) (Nat.le_of_ble_eq_true rfl) (Nat.le_of_ble_eq_true rfl) (Nat.le_of_ble_eq_true rfl) ?_
                refine z_st (st' := [zv x_125]) rfl ?_
                cases H
                exact z_zret (M := M_X0_readShape) dX0_readShape_153 rfl (Nat.le_of_ble_eq_true rfl) (Nat.le_of_ble_eq_true rfl) ⟨rfl, rfl⟩
              refine z_iload (M := M_X0_readShape) dX0_readShape_117 rfl ?_
              refine z_sipush (M := M_X0_readShape) dX0_readShape_119 (by decide +kernel) ?_
              by_cases h_183 : 4000 ≤ (w32 (q_lan x_122 536870911))
              · refine z_icmp_ge_t (M := M_X0_readShape) (tgt := 148) dX0_readShape_122 (by decide) rfl (by decide +kernel) h_183 ?_
                exact J_181
              · refine z_icmp_ge_f (M := M_X0_readShape) (tgt := 148) dX0_readShape_122 (by decide) rfl (by decide +kernel) (Int.not_le.mp h_183) ?_
                refine z_iload (M := M_X0_readShape) dX0_readShape_125 rfl ?_
                refine z_iconst (M := M_X0_readShape) dX0_readShape_127 ?_
                by_cases h_184 : (w32 (q_irm (q_lan x_122 536870911) 1000)) < 1
                · refine z_icmp_lt_t (M := M_X0_readShape) (tgt := 148) dX0_readShape_128 (by decide) rfl (by decide +kernel) h_184 ?_
                  exact J_181
                · refine z_icmp_lt_f (M := M_X0_readShape) (tgt := 148) dX0_readShape_128 (by decide) rfl (by decide +kernel) (Int.not_lt.mp h_184) ?_
                  refine z_iload (M := M_X0_readShape) dX0_readShape_131 rfl ?_
                  refine z_bipush (M := M_X0_readShape) dX0_readShape_133 (by decide +kernel) ?_
                  by_cases h_185 : 7 < (w32 (q_irm (q_lan x_122 536870911) 1000))
                  · refine z_icmp_gt_t (M := M_X0_readShape) (tgt := 148) dX0_readShape_135 (by decide) rfl (by decide +kernel) h_185 ?_
                    exact J_181
                  · refine z_icmp_gt_f (M := M_X0_readShape) (tgt := 148) dX0_readShape_135 (by decide) rfl (by decide +kernel) (Int.not_lt.mp h_185) ?_
                    refine z_iload_n (M := M_X0_readShape) dX0_readShape_138 rfl ?_
                    by_cases h_186 : ¬ (w32 needed_0) = 0
                    · refine z_if_eq_f (M := M_X0_readShape) (tgt := 154) dX0_readShape_139 (by decide) rfl h_186 ?_
                      refine z_iload (M := M_X0_readShape) dX0_readShape_142 rfl ?_
                      refine z_iload_n (M := M_X0_readShape) dX0_readShape_144 rfl ?_
                      by_cases h_187 : ¬ (w32 (q_irm (q_lan x_122 536870911) 1000)) = (w32 needed_0)
                      · refine z_icmp_eq_f (M := M_X0_readShape) (tgt := 154) dX0_readShape_145 (by decide) rfl rfl h_187 ?_
                        exact J_181
                      · refine z_icmp_eq_t (M := M_X0_readShape) (tgt := 154) dX0_readShape_145 (by decide) rfl rfl (Decidable.not_not.mp h_187) ?_
                        exact absurd h_180 (fun q => q.elim (fun q => q.elim (fun q => q.elim h_183 h_184) h_185) (fun q => h_187 q.2))
                    · refine z_if_eq_t (M := M_X0_readShape) (tgt := 154) dX0_readShape_139 (by decide) rfl (Decidable.not_not.mp h_186) ?_
                      exact absurd h_180 (fun q => q.elim (fun q => q.elim (fun q => q.elim h_183 h_184) h_185) (fun q => h_186 q.1))
            · have J_182 : YY l E M_X0_readShape 6 0 0 (pS (some (zv r)) σ') 154 [some (vr 170), some (vi needed_0), some (vl x_122), none, some (vi (q_lan x_122 536870911)), some (vi (q_irm (q_lan x_122 536870911) 1000))] [] σ_119 0 0 := by
                rcases if_e H with ⟨h_173, H⟩ | ⟨h_173, H⟩
                · have J_174 : YY l E M_X0_readShape 6 0 0 (pS (some (zv r)) σ') 171 [some (vr 170), some (vi needed_0), some (vl x_122), none, some (vi (q_lan x_122 536870911)), some (vi (q_irm (q_lan x_122 536870911) 1000))] [] σ_119 0 0 := by
                    refine z_aload_n (M := M_X0_readShape) dX0_readShape_171 rfl ?_
                    refine z_bipush (M := M_X0_readShape) dX0_readShape_172 (by decide +kernel) ?_
                    obtain ⟨⟨x_128, σ_127⟩, hc_126, H⟩ := bd_e H
                    refine z_callV (M := M_X0_readShape) (M' := M_X0_fail) (as := [vi 9]) (rest := []) rfl rfl dX0_readShape_174 m_X0_fail t_975 t_977 s_25 (c_X0_fail hl  hc_126) rfl rfl ly_170 rfl (Nat.le_of_ble_eq_true rfl) (Nat.le_of_ble_eq_true rfl) (Nat.le_of_ble_eq_true rfl) (Nat.le_of_ble_eq_true rfl) ?_
                    refine z_st (st' := [zv x_128]) rfl ?_
                    cases H
                    exact z_zret (M := M_X0_readShape) dX0_readShape_177 rfl (Nat.le_of_ble_eq_true rfl) (Nat.le_of_ble_eq_true rfl) ⟨rfl, rfl⟩
                  refine z_iload (M := M_X0_readShape) dX0_readShape_154 rfl ?_
                  refine z_sipush (M := M_X0_readShape) dX0_readShape_156 (by decide +kernel) ?_
                  by_cases h_176 : 1000 ≤ (w32 (q_lan x_122 536870911))
                  · refine z_icmp_ge_t (M := M_X0_readShape) (tgt := 171) dX0_readShape_159 (by decide) rfl (by decide +kernel) h_176 ?_
                    exact J_174
                  · refine z_icmp_ge_f (M := M_X0_readShape) (tgt := 171) dX0_readShape_159 (by decide) rfl (by decide +kernel) (Int.not_le.mp h_176) ?_
                    refine z_lload_n (M := M_X0_readShape) dX0_readShape_162 rfl ?_
                    refine z_bipush (M := M_X0_readShape) dX0_readShape_163 (by decide +kernel) ?_
                    refine z_lushr (M := M_X0_readShape) dX0_readShape_165 ?_
                    refine z_lconst (M := M_X0_readShape) (m := 0) dX0_readShape_166 (by decide +kernel) ?_
                    refine z_lcmp (M := M_X0_readShape) dX0_readShape_167 ?_
                    by_cases h_177 : ¬ (w64 (q_lus x_122 30)) = 0
                    · refine z_lif_eq_f (M := M_X0_readShape) (tgt := 178) dX0_readShape_168 (by decide) rfl (by decide +kernel) h_177 ?_
                      exact J_174
                    · refine z_lif_eq_t (M := M_X0_readShape) (tgt := 178) dX0_readShape_168 (by decide) rfl (by decide +kernel) (Decidable.not_not.mp h_177) ?_
                      exact absurd h_173 (fun q => q.elim h_176 h_177)
                · have J_175 : YY l E M_X0_readShape 6 0 0 (pS (some (zv r)) σ') 178 [some (vr 170), some (vi needed_0), some (vl x_122), none, some (vi (q_lan x_122 536870911)), some (vi (q_irm (q_lan x_122 536870911) 1000))] [] σ_119 0 0 := by
                    rcases if_e H with ⟨h_166, H⟩ | ⟨h_166, H⟩
                    · have J_167 : YY l E M_X0_readShape 6 0 0 (pS (some (zv r)) σ') 194 [some (vr 170), some (vi needed_0), some (vl x_122), none, some (vi (q_lan x_122 536870911)), some (vi (q_irm (q_lan x_122 536870911) 1000))] [] σ_119 0 0 := by
                        refine z_aload_n (M := M_X0_readShape) dX0_readShape_194 rfl ?_
                        refine z_bipush (M := M_X0_readShape) dX0_readShape_195 (by decide +kernel) ?_
                        obtain ⟨⟨x_131, σ_130⟩, hc_129, H⟩ := bd_e H
                        refine z_callV (M := M_X0_readShape) (M' := M_X0_fail) (as := [vi 6]) (rest := []) rfl rfl dX0_readShape_197 m_X0_fail t_975 t_977 s_25 (c_X0_fail hl  hc_129) rfl rfl ly_170 rfl (Nat.le_of_ble_eq_true rfl) (Nat.le_of_ble_eq_true rfl) (Nat.le_of_ble_eq_true rfl) (Nat.le_of_ble_eq_true rfl) ?_
                        refine z_st (st' := [zv x_131]) rfl ?_
                        cases H
                        exact z_zret (M := M_X0_readShape) dX0_readShape_200 rfl (Nat.le_of_ble_eq_true rfl) (Nat.le_of_ble_eq_true rfl) ⟨rfl, rfl⟩
                      refine z_iload (M := M_X0_readShape) dX0_readShape_178 rfl ?_
                      refine z_bipush (M := M_X0_readShape) dX0_readShape_180 (by decide +kernel) ?_
                      by_cases h_169 : (w32 (q_irm (q_lan x_122 536870911) 1000)) = 7
                      · refine z_icmp_ne_f (M := M_X0_readShape) (tgt := 201) dX0_readShape_182 (by decide) rfl (by decide +kernel) h_169 ?_
                        refine z_aload_n (M := M_X0_readShape) dX0_readShape_185 rfl ?_
                        refine z_getI (M := M_X0_readShape) (ci := 3) (C := RX0) (T := TX0) (Nf := 13) (ty := tyX0) cl3 dX0_readShape_186 ly_170 8 (by decide) t_159 rfl rfl ?_
                        refine z_bipush (M := M_X0_readShape) dX0_readShape_189 (by decide +kernel) ?_
                        by_cases h_170 : 50 ≤ (w32 (σ_119 kB_collections 0))
                        · refine z_icmp_lt_f (M := M_X0_readShape) (tgt := 201) dX0_readShape_191 (by decide) rfl (by decide +kernel) h_170 ?_
                          exact J_167
                        · refine z_icmp_lt_t (M := M_X0_readShape) (tgt := 201) dX0_readShape_191 (by decide) rfl (by decide +kernel) (Int.not_le.mp h_170) ?_
                          exact absurd h_166 (fun q => h_170 q.2)
                      · refine z_icmp_ne_t (M := M_X0_readShape) (tgt := 201) dX0_readShape_182 (by decide) rfl (by decide +kernel) h_169 ?_
                        exact absurd h_166 (fun q => h_169 q.1)
                    · have J_168 : YY l E M_X0_readShape 6 0 0 (pS (some (zv r)) σ') 201 [some (vr 170), some (vi needed_0), some (vl x_122), none, some (vi (q_lan x_122 536870911)), some (vi (q_irm (q_lan x_122 536870911) 1000))] [] σ_119 0 0 := by
                        refine z_aload_n (M := M_X0_readShape) dX0_readShape_201 rfl ?_
                        refine z_dup (M := M_X0_readShape) dX0_readShape_202 rfl ?_
                        refine z_getI (M := M_X0_readShape) (ci := 3) (C := RX0) (T := TX0) (Nf := 13) (ty := tyX0) cl3 dX0_readShape_203 ly_170 6 (by decide) t_157 rfl rfl ?_
                        refine z_iconst (M := M_X0_readShape) dX0_readShape_206 ?_
                        refine z_iadd (M := M_X0_readShape) dX0_readShape_207 ?_
                        obtain ⟨σ_132, σ_132_e, H⟩ := wf_e H
                        refine z_putI (M := M_X0_readShape) (ci := 3) (C := RX0) (T := TX0) (Nf := 13) (ty := tyX0) cl3 dX0_readShape_208 ly_170 6 (by decide) t_157 rfl rfl rfl rfl σ_132_e ?_
                        obtain ⟨v_136, he_133, hk_134, hk_135⟩ := bx_e H
                        have J_165 : ∀ σ_145, v_136 = (.inl σ_145) → YY l E M_X0_readShape 6 0 0 (pS (some (zv r)) σ') 245 [some (vr 170), some (vi needed_0), some (vl x_122), none, some (vi (q_lan x_122 536870911)), some (vi (q_irm (q_lan x_122 536870911) 1000))] [] σ_145 0 0 := by
                          intro σ_145 e
                          have H := hk_134 _ e
                          obtain ⟨v_161, he_162, hk_163⟩ := bd_e H
                          have J_164 : ∀ x_159 σ_160, v_161 = (x_159, σ_160) → YY l E M_X0_readShape 6 0 0 (pS (some (zv r)) σ') 273 [some (vr 170), some (vi needed_0), some (vl x_122), none, some (vi (q_lan x_122 536870911)), some (vi (q_irm (q_lan x_122 536870911) 1000))] [zv x_159] σ_160 0 0 := by
                            intro x_159 σ_160 e
                            have H := hk_163
                            rw [e] at H
                            cases H
                            exact z_zret (M := M_X0_readShape) dX0_readShape_273 rfl (Nat.le_of_ble_eq_true rfl) (Nat.le_of_ble_eq_true rfl) ⟨rfl, rfl⟩
                          have H := he_162
                          refine z_aload_n (M := M_X0_readShape) dX0_readShape_245 rfl ?_
                          obtain ⟨hs_146, H⟩ := ck_e H
                          refine z_getV (M := M_X0_readShape) (ci := 3) (C := RX0) (T := TX0) (Nf := 13) (ty := tyX0) cl3 dX0_readShape_246 ly_170 4 (by decide) t_155 rfl rfl ?_
                          refine z_iload (M := M_X0_readShape) dX0_readShape_249 rfl ?_
                          refine z_iconst (M := M_X0_readShape) dX0_readShape_251 ?_
                          obtain ⟨⟨x_149, σ_148⟩, hc_147, H⟩ := bd_e H
                          refine z_callV (M := M_X0_readShape) (M' := M_X6_addShape) (as := [vi (q_irm (q_lan x_122 536870911) 1000), vi 0]) (rest := []) rfl rfl dX0_readShape_252 m_X6_addShape t_985 t_872 t_873 (c_X6_addShape hl hs_146 hc_147) rfl rfl (ly_S hs_146) rfl (Nat.le_of_ble_eq_true rfl) (Nat.le_of_ble_eq_true rfl) (Nat.le_of_ble_eq_true rfl) (Nat.le_of_ble_eq_true rfl) ?_
                          refine z_st (st' := [zv x_149]) rfl ?_
                          rcases if_e H with ⟨h_150, H⟩ | ⟨h_150, H⟩
                          · refine z_zeq_f (M := M_X0_readShape) (tgt := 267) dX0_readShape_255 (by decide) h_150 ?_
                            refine z_aload_n (M := M_X0_readShape) dX0_readShape_258 rfl ?_
                            refine z_iload (M := M_X0_readShape) dX0_readShape_259 rfl ?_
                            obtain ⟨⟨x_153, σ_152⟩, hc_151, H⟩ := bd_e H
                            refine z_callV (M := M_X0_readShape) (M' := M_X0_readBody) (as := [vi (q_irm (q_lan x_122 536870911) 1000)]) (rest := []) rfl rfl dX0_readShape_261 m_X0_readBody t_986 t_988 s_27 (c_X0_readBody hl  hc_151) rfl rfl ly_170 rfl (Nat.le_of_ble_eq_true rfl) (Nat.le_of_ble_eq_true rfl) (Nat.le_of_ble_eq_true rfl) (Nat.le_of_ble_eq_true rfl) ?_
                            refine z_st (st' := [zv x_153]) rfl ?_
                            refine z_goto (M := M_X0_readShape) (tgt := 273) dX0_readShape_264 (by decide) ?_
                            exact J_164 _ _ (Option.some.inj H).symm
                          · refine z_zeq_t (M := M_X0_readShape) (tgt := 267) dX0_readShape_255 (by decide) h_150 ?_
                            refine z_aload_n (M := M_X0_readShape) dX0_readShape_267 rfl ?_
                            refine z_bipush (M := M_X0_readShape) dX0_readShape_268 (by decide +kernel) ?_
                            obtain ⟨⟨x_157, σ_156⟩, hc_155, H⟩ := bd_e H
                            refine z_callV (M := M_X0_readShape) (M' := M_X0_fail) (as := [vi 7]) (rest := []) rfl rfl dX0_readShape_270 m_X0_fail t_975 t_977 s_25 (c_X0_fail hl  hc_155) rfl rfl ly_170 rfl (Nat.le_of_ble_eq_true rfl) (Nat.le_of_ble_eq_true rfl) (Nat.le_of_ble_eq_true rfl) (Nat.le_of_ble_eq_true rfl) ?_
                            refine z_st (st' := [zv x_157]) rfl ?_
                            exact J_164 _ _ (Option.some.inj H).symm
                        have H := he_133
                        refine z_lload_n (M := M_X0_readShape) dX0_readShape_211 rfl ?_
                        refine z_ldc2 (M := M_X0_readShape) (n := 536870912) dX0_readShape_212 t_984 (by decide +kernel) ?_
                        refine z_land (M := M_X0_readShape) dX0_readShape_215 ?_
                        refine z_lconst (M := M_X0_readShape) (m := 0) dX0_readShape_216 (by decide +kernel) ?_
                        refine z_lcmp (M := M_X0_readShape) dX0_readShape_217 ?_
                        rcases if_e H with ⟨h_137, H⟩ | ⟨h_137, H⟩
                        · refine z_lif_eq_f (M := M_X0_readShape) (tgt := 245) dX0_readShape_218 (by decide) rfl (by decide +kernel) h_137 ?_
                          refine z_aload_n (M := M_X0_readShape) dX0_readShape_221 rfl ?_
                          refine z_iconst (M := M_X0_readShape) dX0_readShape_222 ?_
                          refine z_callV (M := M_X0_readShape) (M' := M_X0_has) (as := [vi 4]) (rest := []) rfl rfl dX0_readShape_223 m_X0_has t_971 t_973 s_24 (c_X0_has hl  rfl) rfl rfl ly_170 rfl (Nat.le_of_ble_eq_true rfl) (Nat.le_of_ble_eq_true rfl) (Nat.le_of_ble_eq_true rfl) (Nat.le_of_ble_eq_true rfl) ?_
                          refine z_st (st' := [zv (fB_has σ_132 4)]) rfl ?_
                          rcases if_e H with ⟨h_138, H⟩ | ⟨h_138, H⟩
                          · refine z_zne_t (M := M_X0_readShape) (tgt := 235) dX0_readShape_226 (by decide) h_138 ?_
                            refine z_aload_n (M := M_X0_readShape) dX0_readShape_235 rfl ?_
                            refine z_dup (M := M_X0_readShape) dX0_readShape_236 rfl ?_
                            refine z_getI (M := M_X0_readShape) (ci := 3) (C := RX0) (T := TX0) (Nf := 13) (ty := tyX0) cl3 dX0_readShape_237 ly_170 6 (by decide) t_157 rfl rfl ?_
                            refine z_iconst (M := M_X0_readShape) dX0_readShape_240 ?_
                            refine z_iadd (M := M_X0_readShape) dX0_readShape_241 ?_
                            obtain ⟨σ_139, σ_139_e, H⟩ := wf_e H
                            refine z_putI (M := M_X0_readShape) (ci := 3) (C := RX0) (T := TX0) (Nf := 13) (ty := tyX0) cl3 dX0_readShape_242 ly_170 6 (by decide) t_157 rfl rfl rfl rfl σ_139_e ?_
                            exact J_165 _ (Option.some.inj H).symm
                          · refine z_zne_f (M := M_X0_readShape) (tgt := 235) dX0_readShape_226 (by decide) h_138 ?_
                            refine z_aload_n (M := M_X0_readShape) dX0_readShape_229 rfl ?_
                            refine z_iconst (M := M_X0_readShape) dX0_readShape_230 ?_
                            obtain ⟨⟨x_143, σ_142⟩, hc_141, H⟩ := bd_e H
                            refine z_callV (M := M_X0_readShape) (M' := M_X0_fail) (as := [vi 3]) (rest := []) rfl rfl dX0_readShape_231 m_X0_fail t_975 t_977 s_25 (c_X0_fail hl  hc_141) rfl rfl ly_170 rfl (Nat.le_of_ble_eq_true rfl) (Nat.le_of_ble_eq_true rfl) (Nat.le_of_ble_eq_true rfl) (Nat.le_of_ble_eq_true rfl) ?_
                            refine z_st (st' := [zv x_143]) rfl ?_
                            have H := congrArg some (hk_135 _ (Option.some.inj H).symm)
                            cases H
                            exact z_zret (M := M_X0_readShape) dX0_readShape_234 rfl (Nat.le_of_ble_eq_true rfl) (Nat.le_of_ble_eq_true rfl) ⟨rfl, rfl⟩
                        · refine z_lif_eq_t (M := M_X0_readShape) (tgt := 245) dX0_readShape_218 (by decide) rfl (by decide +kernel) (Decidable.not_not.mp h_137) ?_
                          exact J_165 _ (Option.some.inj H).symm
                      refine z_iload (M := M_X0_readShape) dX0_readShape_178 rfl ?_
                      refine z_bipush (M := M_X0_readShape) dX0_readShape_180 (by decide +kernel) ?_
                      by_cases h_171 : (w32 (q_irm (q_lan x_122 536870911) 1000)) = 7
                      · refine z_icmp_ne_f (M := M_X0_readShape) (tgt := 201) dX0_readShape_182 (by decide) rfl (by decide +kernel) h_171 ?_
                        refine z_aload_n (M := M_X0_readShape) dX0_readShape_185 rfl ?_
                        refine z_getI (M := M_X0_readShape) (ci := 3) (C := RX0) (T := TX0) (Nf := 13) (ty := tyX0) cl3 dX0_readShape_186 ly_170 8 (by decide) t_159 rfl rfl ?_
                        refine z_bipush (M := M_X0_readShape) dX0_readShape_189 (by decide +kernel) ?_
                        by_cases h_172 : 50 ≤ (w32 (σ_119 kB_collections 0))
                        · refine z_icmp_lt_f (M := M_X0_readShape) (tgt := 201) dX0_readShape_191 (by decide) rfl (by decide +kernel) h_172 ?_
                          exact absurd ⟨h_171, h_172⟩ h_166
                        · refine z_icmp_lt_t (M := M_X0_readShape) (tgt := 201) dX0_readShape_191 (by decide) rfl (by decide +kernel) (Int.not_le.mp h_172) ?_
                          exact J_168
                      · refine z_icmp_ne_t (M := M_X0_readShape) (tgt := 201) dX0_readShape_182 (by decide) rfl (by decide +kernel) h_171 ?_
                        exact J_168
                  refine z_iload (M := M_X0_readShape) dX0_readShape_154 rfl ?_
                  refine z_sipush (M := M_X0_readShape) dX0_readShape_156 (by decide +kernel) ?_
                  by_cases h_178 : 1000 ≤ (w32 (q_lan x_122 536870911))
                  · refine z_icmp_ge_t (M := M_X0_readShape) (tgt := 171) dX0_readShape_159 (by decide) rfl (by decide +kernel) h_178 ?_
                    exact absurd (Or.inl h_178) h_173
                  · refine z_icmp_ge_f (M := M_X0_readShape) (tgt := 171) dX0_readShape_159 (by decide) rfl (by decide +kernel) (Int.not_le.mp h_178) ?_
                    refine z_lload_n (M := M_X0_readShape) dX0_readShape_162 rfl ?_
                    refine z_bipush (M := M_X0_readShape) dX0_readShape_163 (by decide +kernel) ?_
                    refine z_lushr (M := M_X0_readShape) dX0_readShape_165 ?_
                    refine z_lconst (M := M_X0_readShape) (m := 0) dX0_readShape_166 (by decide +kernel) ?_
                    refine z_lcmp (M := M_X0_readShape) dX0_readShape_167 ?_
                    by_cases h_179 : ¬ (w64 (q_lus x_122 30)) = 0
                    · refine z_lif_eq_f (M := M_X0_readShape) (tgt := 178) dX0_readShape_168 (by decide) rfl (by decide +kernel) h_179 ?_
                      exact absurd (Or.inr h_179) h_173
                    · refine z_lif_eq_t (M := M_X0_readShape) (tgt := 178) dX0_readShape_168 (by decide) rfl (by decide +kernel) (Decidable.not_not.mp h_179) ?_
                      exact J_175
              refine z_iload (M := M_X0_readShape) dX0_readShape_117 rfl ?_
              refine z_sipush (M := M_X0_readShape) dX0_readShape_119 (by decide +kernel) ?_
              by_cases h_188 : 4000 ≤ (w32 (q_lan x_122 536870911))
              · refine z_icmp_ge_t (M := M_X0_readShape) (tgt := 148) dX0_readShape_122 (by decide) rfl (by decide +kernel) h_188 ?_
                exact absurd (Or.inl (Or.inl (Or.inl h_188))) h_180
              · refine z_icmp_ge_f (M := M_X0_readShape) (tgt := 148) dX0_readShape_122 (by decide) rfl (by decide +kernel) (Int.not_le.mp h_188) ?_
                refine z_iload (M := M_X0_readShape) dX0_readShape_125 rfl ?_
                refine z_iconst (M := M_X0_readShape) dX0_readShape_127 ?_
                by_cases h_189 : (w32 (q_irm (q_lan x_122 536870911) 1000)) < 1
                · refine z_icmp_lt_t (M := M_X0_readShape) (tgt := 148) dX0_readShape_128 (by decide) rfl (by decide +kernel) h_189 ?_
                  exact absurd (Or.inl (Or.inl (Or.inr h_189))) h_180
                · refine z_icmp_lt_f (M := M_X0_readShape) (tgt := 148) dX0_readShape_128 (by decide) rfl (by decide +kernel) (Int.not_lt.mp h_189) ?_
                  refine z_iload (M := M_X0_readShape) dX0_readShape_131 rfl ?_
                  refine z_bipush (M := M_X0_readShape) dX0_readShape_133 (by decide +kernel) ?_
                  by_cases h_190 : 7 < (w32 (q_irm (q_lan x_122 536870911) 1000))
                  · refine z_icmp_gt_t (M := M_X0_readShape) (tgt := 148) dX0_readShape_135 (by decide) rfl (by decide +kernel) h_190 ?_
                    exact absurd (Or.inl (Or.inr h_190)) h_180
                  · refine z_icmp_gt_f (M := M_X0_readShape) (tgt := 148) dX0_readShape_135 (by decide) rfl (by decide +kernel) (Int.not_lt.mp h_190) ?_
                    refine z_iload_n (M := M_X0_readShape) dX0_readShape_138 rfl ?_
                    by_cases h_191 : ¬ (w32 needed_0) = 0
                    · refine z_if_eq_f (M := M_X0_readShape) (tgt := 154) dX0_readShape_139 (by decide) rfl h_191 ?_
                      refine z_iload (M := M_X0_readShape) dX0_readShape_142 rfl ?_
                      refine z_iload_n (M := M_X0_readShape) dX0_readShape_144 rfl ?_
                      by_cases h_192 : ¬ (w32 (q_irm (q_lan x_122 536870911) 1000)) = (w32 needed_0)
                      · refine z_icmp_eq_f (M := M_X0_readShape) (tgt := 154) dX0_readShape_145 (by decide) rfl rfl h_192 ?_
                        exact absurd (Or.inr ⟨h_191, h_192⟩) h_180
                      · refine z_icmp_eq_t (M := M_X0_readShape) (tgt := 154) dX0_readShape_145 (by decide) rfl rfl (Decidable.not_not.mp h_192) ?_
                        exact J_182
                    · refine z_if_eq_t (M := M_X0_readShape) (tgt := 154) dX0_readShape_139 (by decide) rfl (Decidable.not_not.mp h_191) ?_
                      exact J_182
          · refine z_zne_f (M := M_X0_readShape) (tgt := 91) dX0_readShape_82 (by decide) h_120 ?_
            refine z_aload_n (M := M_X0_readShape) dX0_readShape_85 rfl ?_
            refine z_iconst (M := M_X0_readShape) dX0_readShape_86 ?_
            obtain ⟨⟨x_195, σ_194⟩, hc_193, H⟩ := bd_e H
            refine z_callV (M := M_X0_readShape) (M' := M_X0_fail) (as := [vi 3]) (rest := []) rfl rfl dX0_readShape_87 m_X0_fail t_975 t_977 s_25 (c_X0_fail hl  hc_193) rfl rfl ly_170 rfl (Nat.le_of_ble_eq_true rfl) (Nat.le_of_ble_eq_true rfl) (Nat.le_of_ble_eq_true rfl) (Nat.le_of_ble_eq_true rfl) ?_
            refine z_st (st' := [zv x_195]) rfl ?_
            cases H
            exact z_zret (M := M_X0_readShape) dX0_readShape_90 rfl (Nat.le_of_ble_eq_true rfl) (Nat.le_of_ble_eq_true rfl) ⟨rfl, rfl⟩
        have H := he_197
        refine z_aload_n (M := M_X0_readShape) dX0_readShape_46 rfl ?_
        refine z_getR (M := M_X0_readShape) (ci := 3) (C := RX0) (T := TX0) (Nf := 13) (ty := tyX0) cl3 dX0_readShape_47 ly_170 1 (by decide) t_152 rfl ?_
        refine z_aload_n (M := M_X0_readShape) dX0_readShape_50 rfl ?_
        refine z_getI (M := M_X0_readShape) (ci := 3) (C := RX0) (T := TX0) (Nf := 13) (ty := tyX0) cl3 dX0_readShape_51 ly_170 6 (by decide) t_157 rfl rfl ?_
        obtain ⟨x_112, x_112_e, hi_113, H⟩ := rd_e H
        refine z_bald (M := M_X0_readShape) dX0_readShape_54 ly_166 rfl rfl rfl hi_113 x_112_e ?_
        refine z_iconst (M := M_X0_readShape) dX0_readShape_55 ?_
        rcases if_e H with ⟨h_114, H⟩ | ⟨h_114, H⟩
        · refine z_icmp_ne_f (M := M_X0_readShape) (tgt := 63) dX0_readShape_56 (by decide) rfl (by decide +kernel) h_114 ?_
          refine z_zconst (M := M_X0_readShape) (b := true) dX0_readShape_59 rfl ?_
          refine z_goto (M := M_X0_readShape) (tgt := 64) dX0_readShape_60 (by decide) ?_
          exact J_199 _ (Option.some.inj H).symm
        · refine z_icmp_ne_t (M := M_X0_readShape) (tgt := 63) dX0_readShape_56 (by decide) rfl (by decide +kernel) h_114 ?_
          refine z_zconst (M := M_X0_readShape) (b := false) dX0_readShape_63 rfl ?_
          exact J_199 _ (Option.some.inj H).symm
    have H := he_201
    refine z_aload_n (M := M_X0_readShape) dX0_readShape_14 rfl ?_
    refine z_getR (M := M_X0_readShape) (ci := 3) (C := RX0) (T := TX0) (Nf := 13) (ty := tyX0) cl3 dX0_readShape_15 ly_170 1 (by decide) t_152 rfl ?_
    refine z_aload_n (M := M_X0_readShape) dX0_readShape_18 rfl ?_
    refine z_getI (M := M_X0_readShape) (ci := 3) (C := RX0) (T := TX0) (Nf := 13) (ty := tyX0) cl3 dX0_readShape_19 ly_170 6 (by decide) t_157 rfl rfl ?_
    obtain ⟨x_99, x_99_e, hi_100, H⟩ := rd_e H
    refine z_bald (M := M_X0_readShape) dX0_readShape_22 ly_166 rfl rfl rfl hi_100 x_99_e ?_
    rcases if_e H with ⟨h_101, H⟩ | ⟨h_101, H⟩
    · refine z_if_eq_f (M := M_X0_readShape) (tgt := 45) dX0_readShape_23 (by decide) rfl h_101 ?_
      refine z_aload_n (M := M_X0_readShape) dX0_readShape_26 rfl ?_
      refine z_getR (M := M_X0_readShape) (ci := 3) (C := RX0) (T := TX0) (Nf := 13) (ty := tyX0) cl3 dX0_readShape_27 ly_170 1 (by decide) t_152 rfl ?_
      refine z_aload_n (M := M_X0_readShape) dX0_readShape_30 rfl ?_
      refine z_getI (M := M_X0_readShape) (ci := 3) (C := RX0) (T := TX0) (Nf := 13) (ty := tyX0) cl3 dX0_readShape_31 ly_170 6 (by decide) t_157 rfl rfl ?_
      obtain ⟨x_102, x_102_e, hi_103, H⟩ := rd_e H
      refine z_bald (M := M_X0_readShape) dX0_readShape_34 ly_166 rfl rfl rfl hi_103 x_102_e ?_
      refine z_iconst (M := M_X0_readShape) dX0_readShape_35 ?_
      rcases if_e H with ⟨h_104, H⟩ | ⟨h_104, H⟩
      · refine z_icmp_eq_f (M := M_X0_readShape) (tgt := 45) dX0_readShape_36 (by decide) rfl (by decide +kernel) h_104 ?_
        exact J_203 (Option.some.inj H).symm
      · refine z_icmp_eq_t (M := M_X0_readShape) (tgt := 45) dX0_readShape_36 (by decide) rfl (by decide +kernel) (Decidable.not_not.mp h_104) ?_
        exact J_204 (Option.some.inj H).symm
    · refine z_if_eq_t (M := M_X0_readShape) (tgt := 45) dX0_readShape_23 (by decide) rfl (Decidable.not_not.mp h_101) ?_
      exact J_204 (Option.some.inj H).symm
  · refine z_zne_f (M := M_X0_readShape) (tgt := 14) dX0_readShape_5 (by decide) h_1 ?_
    refine z_aload_n (M := M_X0_readShape) dX0_readShape_8 rfl ?_
    refine z_iconst (M := M_X0_readShape) dX0_readShape_9 ?_
    obtain ⟨⟨x_207, σ_206⟩, hc_205, H⟩ := bd_e H
    refine z_callV (M := M_X0_readShape) (M' := M_X0_fail) (as := [vi 3]) (rest := []) rfl rfl dX0_readShape_10 m_X0_fail t_975 t_977 s_25 (c_X0_fail hl  hc_205) rfl rfl ly_170 rfl (Nat.le_of_ble_eq_true rfl) (Nat.le_of_ble_eq_true rfl) (Nat.le_of_ble_eq_true rfl) (Nat.le_of_ble_eq_true rfl) ?_
    refine z_st (st' := [zv x_207]) rfl ?_
    cases H
    exact z_zret (M := M_X0_readShape) dX0_readShape_13 rfl (Nat.le_of_ble_eq_true rfl) (Nat.le_of_ble_eq_true rfl) ⟨rfl, rfl⟩
theorem c_X0_readInto (hl : l.stackTraces = false) {σ : SG} {into_0 : Nat} {bytes_0 : Int} {r : Bool} {σ' : SG} (h_into : isS into_0) (H : fB_readInto σ into_0 bytes_0 = some (r, σ')) : en_S l E M_X0_readInto 7 0 0 [vr 170, vr into_0, vi bytes_0] σ (pS (some (zv r)) σ') := by
  unfold fB_readInto at H
  refine z_mk (lv := [some (vr 170), some (vr into_0), some (vi bytes_0), none, none, none]) m_X0_readInto rfl hl (Nat.le_of_ble_eq_true rfl) rfl ?_
  refine z_aload_n (M := M_X0_readInto) dX0_readInto_0 rfl ?_
  refine z_aload_n (M := M_X0_readInto) dX0_readInto_1 rfl ?_
  obtain ⟨σ_1, σ_1_e, H⟩ := wf_e H
  refine z_putV (M := M_X0_readInto) (ci := 3) (C := RX0) (T := TX0) (Nf := 13) (ty := tyX0) cl3 dX0_readInto_2 ly_170 4 (by decide) t_155 rfl rfl rfl rfl σ_1_e ?_
  refine z_aload_n (M := M_X0_readInto) dX0_readInto_5 rfl ?_
  obtain ⟨hs_2, H⟩ := ck_e H
  refine z_getV (M := M_X0_readInto) (ci := 3) (C := RX0) (T := TX0) (Nf := 13) (ty := tyX0) cl3 dX0_readInto_6 ly_170 4 (by decide) t_155 rfl rfl ?_
  obtain ⟨σ_4, hc_3, H⟩ := bd_e H
  refine z_callV (M := M_X0_readInto) (M' := M_X6_clear) (as := []) (rest := []) rfl rfl dX0_readInto_9 m_X6_clear t_965 t_768 t_769 (c_X6_clear hl hs_2 hc_3) rfl rfl (ly_S hs_2) rfl (Nat.le_of_ble_eq_true rfl) (Nat.le_of_ble_eq_true rfl) (Nat.le_of_ble_eq_true rfl) (Nat.le_of_ble_eq_true rfl) ?_
  refine z_st (st' := []) rfl ?_
  refine z_aload_n (M := M_X0_readInto) dX0_readInto_12 rfl ?_
  refine z_iload_n (M := M_X0_readInto) dX0_readInto_13 rfl ?_
  refine z_aload_n (M := M_X0_readInto) dX0_readInto_14 rfl ?_
  refine z_getR (M := M_X0_readInto) (ci := 3) (C := RX0) (T := TX0) (Nf := 13) (ty := tyX0) cl3 dX0_readInto_15 ly_170 1 (by decide) t_152 rfl ?_
  refine z_alen (M := M_X0_readInto) (N := 65536) dX0_readInto_18 ly_166 (by decide) rfl ?_
  refine z_mmin (M := M_X0_readInto) dX0_readInto_19 t_966 t_626 t_20 t_627 (Nat.le_of_ble_eq_true rfl) (Nat.le_of_ble_eq_true rfl) (Nat.le_of_ble_eq_true rfl) (Nat.le_of_ble_eq_true rfl) ?_
  obtain ⟨σ_5, σ_5_e, H⟩ := wf_e H
  refine z_putI (M := M_X0_readInto) (ci := 3) (C := RX0) (T := TX0) (Nf := 13) (ty := tyX0) cl3 dX0_readInto_22 ly_170 5 (by decide) t_156 rfl rfl rfl rfl σ_5_e ?_
  refine z_aload_n (M := M_X0_readInto) dX0_readInto_25 rfl ?_
  refine z_iconst (M := M_X0_readInto) dX0_readInto_26 ?_
  obtain ⟨σ_6, σ_6_e, H⟩ := wf_e H
  refine z_putI (M := M_X0_readInto) (ci := 3) (C := RX0) (T := TX0) (Nf := 13) (ty := tyX0) cl3 dX0_readInto_27 ly_170 6 (by decide) t_157 rfl rfl rfl rfl σ_6_e ?_
  refine z_aload_n (M := M_X0_readInto) dX0_readInto_30 rfl ?_
  refine z_iconst (M := M_X0_readInto) dX0_readInto_31 ?_
  obtain ⟨σ_7, σ_7_e, H⟩ := wf_e H
  refine z_putI (M := M_X0_readInto) (ci := 3) (C := RX0) (T := TX0) (Nf := 13) (ty := tyX0) cl3 dX0_readInto_32 ly_170 7 (by decide) t_158 rfl rfl rfl rfl σ_7_e ?_
  refine z_aload_n (M := M_X0_readInto) dX0_readInto_35 rfl ?_
  refine z_iconst (M := M_X0_readInto) dX0_readInto_36 ?_
  obtain ⟨σ_8, σ_8_e, H⟩ := wf_e H
  refine z_putI (M := M_X0_readInto) (ci := 3) (C := RX0) (T := TX0) (Nf := 13) (ty := tyX0) cl3 dX0_readInto_37 ly_170 8 (by decide) t_159 rfl rfl rfl rfl σ_8_e ?_
  refine z_aload_n (M := M_X0_readInto) dX0_readInto_40 rfl ?_
  refine z_iconst (M := M_X0_readInto) dX0_readInto_41 ?_
  obtain ⟨σ_9, σ_9_e, H⟩ := wf_e H
  refine z_putI (M := M_X0_readInto) (ci := 3) (C := RX0) (T := TX0) (Nf := 13) (ty := tyX0) cl3 dX0_readInto_42 ly_170 11 (by decide) t_162 rfl rfl rfl rfl σ_9_e ?_
  refine z_aload_n (M := M_X0_readInto) dX0_readInto_45 rfl ?_
  refine z_iconst (M := M_X0_readInto) dX0_readInto_46 ?_
  obtain ⟨σ_10, σ_10_e, H⟩ := wf_e H
  refine z_putI (M := M_X0_readInto) (ci := 3) (C := RX0) (T := TX0) (Nf := 13) (ty := tyX0) cl3 dX0_readInto_47 ly_170 12 (by decide) t_164 rfl rfl rfl rfl σ_10_e ?_
  refine z_aload_n (M := M_X0_readInto) dX0_readInto_50 rfl ?_
  refine z_iconst (M := M_X0_readInto) dX0_readInto_51 ?_
  obtain ⟨⟨x_13, σ_12⟩, hc_11, H⟩ := bd_e H
  refine z_callV (M := M_X0_readInto) (M' := M_X0_readShape) (as := [vi 0]) (rest := []) rfl rfl dX0_readInto_52 m_X0_readShape t_967 t_969 s_23 (c_X0_readShape hl  hc_11) rfl rfl ly_170 rfl (Nat.le_of_ble_eq_true rfl) (Nat.le_of_ble_eq_true rfl) (Nat.le_of_ble_eq_true rfl) (Nat.le_of_ble_eq_true rfl) ?_
  refine z_st (st' := [zv x_13]) rfl ?_
  refine z_zstore_n (M := M_X0_readInto) (lv' := [some (vr 170), some (vr into_0), some (vi bytes_0), some (zv x_13), none, none]) dX0_readInto_55 (Nat.le_of_ble_eq_true rfl) rfl rfl ?_
  refine z_iconst (M := M_X0_readInto) dX0_readInto_56 ?_
  refine z_istore (M := M_X0_readInto) (lv' := [some (vr 170), some (vr into_0), some (vi bytes_0), some (zv x_13), some (vi 0), none]) dX0_readInto_57 (Nat.le_of_ble_eq_true rfl) rfl rfl ?_
  obtain ⟨rl_20, hw_17, hk_18⟩ := bd_e H
  have J_75 : ∀ good_56 round_57 σ_58, rl_20 = (good_56, round_57, σ_58) → YY l E M_X0_readInto 7 0 0 (pS (some (zv r)) σ') 132 [some (vr 170), some (vr into_0), some (vi bytes_0), some (zv good_56), some (vi round_57), none] [] σ_58 0 0 := by
    intro good_56 round_57 σ_58 e
    have H := hk_18
    rw [e] at H
    obtain ⟨v_71, he_72, hk_73⟩ := bd_e H
    have J_74 : ∀ x_69 σ_70, v_71 = (x_69, σ_70) → YY l E M_X0_readInto 7 0 0 (pS (some (zv r)) σ') 161 [some (vr 170), some (vr into_0), some (vi bytes_0), some (zv good_56), some (vi round_57), none] [zv x_69] σ_70 0 0 := by
      intro x_69 σ_70 e
      have H := hk_73
      rw [e] at H
      cases H
      exact z_zret (M := M_X0_readInto) dX0_readInto_161 rfl (Nat.le_of_ble_eq_true rfl) (Nat.le_of_ble_eq_true rfl) ⟨rfl, rfl⟩
    have H := he_72
    refine z_zload_n (M := M_X0_readInto) dX0_readInto_132 rfl ?_
    rcases if_e H with ⟨h_59, H⟩ | ⟨h_59, H⟩
    · refine z_zeq_f (M := M_X0_readInto) (tgt := 160) dX0_readInto_133 (by decide) h_59 ?_
      refine z_aload_n (M := M_X0_readInto) dX0_readInto_136 rfl ?_
      refine z_getI (M := M_X0_readInto) (ci := 3) (C := RX0) (T := TX0) (Nf := 13) (ty := tyX0) cl3 dX0_readInto_137 ly_170 6 (by decide) t_157 rfl rfl ?_
      refine z_aload_n (M := M_X0_readInto) dX0_readInto_140 rfl ?_
      refine z_getI (M := M_X0_readInto) (ci := 3) (C := RX0) (T := TX0) (Nf := 13) (ty := tyX0) cl3 dX0_readInto_141 ly_170 5 (by decide) t_156 rfl rfl ?_
      rcases if_e H with ⟨h_60, H⟩ | ⟨h_60, H⟩
      · refine z_icmp_ge_t (M := M_X0_readInto) (tgt := 156) dX0_readInto_144 (by decide) rfl rfl h_60 ?_
        refine z_zconst (M := M_X0_readInto) (b := true) dX0_readInto_156 rfl ?_
        refine z_goto (M := M_X0_readInto) (tgt := 161) dX0_readInto_157 (by decide) ?_
        exact J_74 _ _ (Option.some.inj H).symm
      · refine z_icmp_ge_f (M := M_X0_readInto) (tgt := 156) dX0_readInto_144 (by decide) rfl rfl (Int.not_le.mp h_60) ?_
        refine z_aload_n (M := M_X0_readInto) dX0_readInto_147 rfl ?_
        refine z_bipush (M := M_X0_readInto) dX0_readInto_148 (by decide +kernel) ?_
        obtain ⟨⟨x_64, σ_63⟩, hc_62, H⟩ := bd_e H
        refine z_callV (M := M_X0_readInto) (M' := M_X0_fail) (as := [vi 8]) (rest := []) rfl rfl dX0_readInto_150 m_X0_fail t_975 t_977 s_25 (c_X0_fail hl  hc_62) rfl rfl ly_170 rfl (Nat.le_of_ble_eq_true rfl) (Nat.le_of_ble_eq_true rfl) (Nat.le_of_ble_eq_true rfl) (Nat.le_of_ble_eq_true rfl) ?_
        refine z_st (st' := [zv x_64]) rfl ?_
        rcases if_e H with ⟨h_65, H⟩ | ⟨h_65, H⟩
        · refine z_zeq_f (M := M_X0_readInto) (tgt := 160) dX0_readInto_153 (by decide) h_65 ?_
          refine z_zconst (M := M_X0_readInto) (b := true) dX0_readInto_156 rfl ?_
          refine z_goto (M := M_X0_readInto) (tgt := 161) dX0_readInto_157 (by decide) ?_
          exact J_74 _ _ (Option.some.inj H).symm
        · refine z_zeq_t (M := M_X0_readInto) (tgt := 160) dX0_readInto_153 (by decide) h_65 ?_
          refine z_zconst (M := M_X0_readInto) (b := false) dX0_readInto_160 rfl ?_
          exact J_74 _ _ (Option.some.inj H).symm
    · refine z_zeq_t (M := M_X0_readInto) (tgt := 160) dX0_readInto_133 (by decide) h_59 ?_
      refine z_zconst (M := M_X0_readInto) (b := false) dX0_readInto_160 rfl ?_
      exact J_74 _ _ (Option.some.inj H).symm
  refine whl_go hw_17 (fun (good_14, round_15, σ_16) => YY l E M_X0_readInto 7 0 0 (pS (some (zv r)) σ') 59 [some (vr 170), some (vr into_0), some (vi bytes_0), some (zv good_14), some (vi round_15), none] [] σ_16 0 0) ?_
  rintro ⟨good_14, round_15, σ_16⟩ o_21 H K_22 K_23
  refine z_zload_n (M := M_X0_readInto) dX0_readInto_59 rfl ?_
  rcases if_e H with ⟨h_35, H⟩ | ⟨h_35, H⟩
  · refine z_zeq_f (M := M_X0_readInto) (tgt := 132) dX0_readInto_60 (by decide) h_35 ?_
    refine z_iload (M := M_X0_readInto) dX0_readInto_63 rfl ?_
    refine z_sipush (M := M_X0_readInto) dX0_readInto_65 (by decide +kernel) ?_
    rcases if_e H with ⟨h_36, H⟩ | ⟨h_36, H⟩
    · refine z_icmp_gt_f (M := M_X0_readInto) (tgt := 132) dX0_readInto_68 (by decide) rfl (by decide +kernel) h_36 ?_
      refine z_aload_n (M := M_X0_readInto) dX0_readInto_71 rfl ?_
      obtain ⟨⟨x_39, σ_38⟩, hc_37, H⟩ := bd_e H
      refine z_callV (M := M_X0_readInto) (M' := M_X0_isPartLeft) (as := []) (rest := []) rfl rfl dX0_readInto_72 m_X0_isPartLeft t_1029 t_1031 s_34 (c_X0_isPartLeft hl  hc_37) rfl rfl ly_170 rfl (Nat.le_of_ble_eq_true rfl) (Nat.le_of_ble_eq_true rfl) (Nat.le_of_ble_eq_true rfl) (Nat.le_of_ble_eq_true rfl) ?_
      refine z_st (st' := [zv x_39]) rfl ?_
      rcases if_e H with ⟨h_40, H⟩ | ⟨h_40, H⟩
      · refine z_zeq_f (M := M_X0_readInto) (tgt := 132) dX0_readInto_75 (by decide) h_40 ?_
        refine z_aload_n (M := M_X0_readInto) dX0_readInto_78 rfl ?_
        refine z_getR (M := M_X0_readInto) (ci := 3) (C := RX0) (T := TX0) (Nf := 13) (ty := tyX0) cl3 dX0_readInto_79 ly_170 2 (by decide) t_153 rfl ?_
        refine z_aload_n (M := M_X0_readInto) dX0_readInto_82 rfl ?_
        refine z_getI (M := M_X0_readInto) (ci := 3) (C := RX0) (T := TX0) (Nf := 13) (ty := tyX0) cl3 dX0_readInto_83 ly_170 7 (by decide) t_158 rfl rfl ?_
        refine z_iconst (M := M_X0_readInto) dX0_readInto_86 ?_
        refine z_isub (M := M_X0_readInto) dX0_readInto_87 ?_
        refine z_dup2 (M := M_X0_readInto) dX0_readInto_88 rfl rfl ?_
        obtain ⟨x_41, x_41_e, hi_42, H⟩ := rd_e H
        refine z_lald (M := M_X0_readInto) dX0_readInto_89 ly_171 rfl rfl rfl hi_42 x_41_e ?_
        refine z_lconst (M := M_X0_readInto) (m := 1) dX0_readInto_90 (by decide +kernel) ?_
        refine z_lsub (M := M_X0_readInto) dX0_readInto_91 ?_
        obtain ⟨σ_43, σ_43_e, hi_44, H⟩ := wa_e H
        refine z_last (M := M_X0_readInto) dX0_readInto_92 ly_171 rfl rfl rfl hi_44 σ_43_e ?_
        refine z_aload_n (M := M_X0_readInto) dX0_readInto_93 rfl ?_
        refine z_getR (M := M_X0_readInto) (ci := 3) (C := RX0) (T := TX0) (Nf := 13) (ty := tyX0) cl3 dX0_readInto_94 ly_170 3 (by decide) t_154 rfl ?_
        refine z_aload_n (M := M_X0_readInto) dX0_readInto_97 rfl ?_
        refine z_getI (M := M_X0_readInto) (ci := 3) (C := RX0) (T := TX0) (Nf := 13) (ty := tyX0) cl3 dX0_readInto_98 ly_170 7 (by decide) t_158 rfl rfl ?_
        refine z_iconst (M := M_X0_readInto) dX0_readInto_101 ?_
        refine z_isub (M := M_X0_readInto) dX0_readInto_102 ?_
        obtain ⟨x_45, x_45_e, hi_46, H⟩ := rd_e H
        refine z_iald (M := M_X0_readInto) dX0_readInto_103 ly_172 rfl rfl rfl hi_46 x_45_e ?_
        refine z_istore (M := M_X0_readInto) (lv' := [some (vr 170), some (vr into_0), some (vi bytes_0), some (zv good_14), some (vi round_15), some (vi x_45)]) dX0_readInto_104 (Nat.le_of_ble_eq_true rfl) rfl rfl ?_
        refine z_aload_n (M := M_X0_readInto) dX0_readInto_106 rfl ?_
        have J_47 : YY l E M_X0_readInto 7 0 0 (pS (some (zv r)) σ') 122 [some (vr 170), some (vr into_0), some (vi bytes_0), some (zv good_14), some (vi round_15), some (vi x_45)] [vi (if (w32 x_45) = 7 then 0 else (x_45 - 3)), vr 170] σ_43 0 0 := by
          obtain ⟨⟨x_50, σ_49⟩, hc_48, H⟩ := bd_e H
          refine z_callV (M := M_X0_readInto) (M' := M_X0_readShape) (as := [vi (if (w32 x_45) = 7 then 0 else (x_45 - 3))]) (rest := []) rfl rfl dX0_readInto_122 m_X0_readShape t_967 t_969 s_23 (c_X0_readShape hl  hc_48) rfl rfl ly_170 rfl (Nat.le_of_ble_eq_true rfl) (Nat.le_of_ble_eq_true rfl) (Nat.le_of_ble_eq_true rfl) (Nat.le_of_ble_eq_true rfl) ?_
          refine z_st (st' := [zv x_50]) rfl ?_
          refine z_zstore_n (M := M_X0_readInto) (lv' := [some (vr 170), some (vr into_0), some (vi bytes_0), some (zv x_50), some (vi round_15), some (vi x_45)]) dX0_readInto_125 (Nat.le_of_ble_eq_true rfl) rfl rfl ?_
          refine z_iinc (M := M_X0_readInto) (lv' := [some (vr 170), some (vr into_0), some (vi bytes_0), some (zv x_50), some (vi (round_15 + 1)), some (vi x_45)]) dX0_readInto_126 rfl (Nat.le_of_ble_eq_true rfl) rfl rfl ?_
          refine z_goto (M := M_X0_readInto) (tgt := 59) dX0_readInto_129 (by decide) ?_
          refine z_le (lv' := [some (vr 170), some (vr into_0), some (vi bytes_0), some (zv x_50), some (vi (round_15 + 1)), none]) ⟨Or.inr rfl, Or.inr rfl, Or.inr rfl, Or.inr rfl, Or.inr rfl, Or.inl rfl, trivial⟩ ?_
          exact K_22 _ (Option.some.inj H).symm
        refine z_iload (M := M_X0_readInto) dX0_readInto_107 rfl ?_
        refine z_bipush (M := M_X0_readInto) dX0_readInto_109 (by decide +kernel) ?_
        by_cases h_52 : (w32 x_45) = 7
        · refine z_icmp_ne_f (M := M_X0_readInto) (tgt := 118) dX0_readInto_111 (by decide) rfl (by decide +kernel) h_52 ?_
          refine z_iconst (M := M_X0_readInto) dX0_readInto_114 ?_
          refine z_goto (M := M_X0_readInto) (tgt := 122) dX0_readInto_115 (by decide) ?_
          exact z_st (by rw [if_pos (c := (w32 x_45) = 7) h_52]) J_47
        · refine z_icmp_ne_t (M := M_X0_readInto) (tgt := 118) dX0_readInto_111 (by decide) rfl (by decide +kernel) h_52 ?_
          refine z_iload (M := M_X0_readInto) dX0_readInto_118 rfl ?_
          refine z_iconst (M := M_X0_readInto) dX0_readInto_120 ?_
          refine z_isub (M := M_X0_readInto) dX0_readInto_121 ?_
          exact z_st (by rw [if_neg (c := (w32 x_45) = 7) h_52]) J_47
      · refine z_zeq_t (M := M_X0_readInto) (tgt := 132) dX0_readInto_75 (by decide) h_40 ?_
        exact J_75 _ _ _ (K_23 _ (Option.some.inj H).symm).symm
    · refine z_icmp_gt_t (M := M_X0_readInto) (tgt := 132) dX0_readInto_68 (by decide) rfl (by decide +kernel) (Int.not_le.mp h_36) ?_
      exact J_75 _ _ _ (K_23 _ (Option.some.inj H).symm).symm
  · refine z_zeq_t (M := M_X0_readInto) (tgt := 132) dX0_readInto_60 (by decide) h_35 ?_
    exact J_75 _ _ _ (K_23 _ (Option.some.inj H).symm).symm
theorem c_X11_readBytes (hl : l.stackTraces = false) {σ : SG} {slot_0 : Int} {r : Int ⊕ Nat} {σ' : SG}  (H : fQ_readBytes σ slot_0 = some (r, σ')) : en_S l E M_X11_readBytes 8 2 12 [vr 32, vi slot_0] σ (pT (riT r) σ') := by
  unfold fQ_readBytes at H
  refine z_mk (lv := [some (vr 32), some (vi slot_0), none, none, none]) m_X11_readBytes rfl hl (Nat.le_of_ble_eq_true rfl) rfl ?_
  refine z_aload_n (M := M_X11_readBytes) dX11_readBytes_0 rfl ?_
  refine z_getI (M := M_X11_readBytes) (ci := 14) (C := RX11) (T := TX11) (Nf := 19) (ty := tyX11) cl14 dX11_readBytes_1 ly_32 3 (by decide) t_566 rfl rfl ?_
  refine z_istore_n (M := M_X11_readBytes) (lv' := [some (vr 32), some (vi slot_0), some (vi (σ kQ_tapeSize 0)), none, none]) dX11_readBytes_4 (Nat.le_of_ble_eq_true rfl) rfl rfl ?_
  refine z_aload_n (M := M_X11_readBytes) dX11_readBytes_5 rfl ?_
  refine z_iconst (M := M_X11_readBytes) dX11_readBytes_6 ?_
  obtain ⟨σ_1, σ_1_e, H⟩ := wf_e H
  refine z_putI (M := M_X11_readBytes) (ci := 14) (C := RX11) (T := TX11) (Nf := 19) (ty := tyX11) cl14 dX11_readBytes_7 ly_32 3 (by decide) t_566 rfl rfl rfl rfl σ_1_e ?_
  refine z_aload_n (M := M_X11_readBytes) dX11_readBytes_10 rfl ?_
  refine z_iload_n (M := M_X11_readBytes) dX11_readBytes_11 rfl ?_
  obtain ⟨z_17, σ_3, hc_2, K_5, K_6⟩ := bt_e H
  rcases z_17 with x_4 | z_17
  · have H := K_5 _ rfl
    refine z_callV (M := M_X11_readBytes) (M' := M_X11_slotNumbered) (as := [vi slot_0]) (rest := []) rfl rfl dX11_readBytes_12 m_X11_slotNumbered t_744 t_746 s_2 (v := some (vr x_4)) (c_X11_slotNumbered hl  hc_2) rfl rfl ly_32 rfl (Nat.le_of_ble_eq_true rfl) (Nat.le_of_ble_eq_true rfl) (Nat.le_of_ble_eq_true rfl) (Nat.le_of_ble_eq_true rfl) ?_
    refine z_st (st' := [vr x_4]) rfl ?_
    obtain ⟨hs_7, H⟩ := ck_e H
    refine z_astore_n (M := M_X11_readBytes) (lv' := [some (vr 32), some (vi slot_0), some (vi (σ kQ_tapeSize 0)), some (vr x_4), none]) dX11_readBytes_15 (Nat.le_of_ble_eq_true rfl) rfl rfl ?_
    refine z_aload_n (M := M_X11_readBytes) dX11_readBytes_16 rfl ?_
    refine z_getR (M := M_X11_readBytes) (ci := 14) (C := RX11) (T := TX11) (Nf := 19) (ty := tyX11) cl14 dX11_readBytes_17 ly_32 7 (by decide) t_570 rfl ?_
    refine z_aload_n (M := M_X11_readBytes) dX11_readBytes_20 rfl ?_
    refine z_iload_n (M := M_X11_readBytes) dX11_readBytes_21 rfl ?_
    obtain ⟨⟨x_10, σ_9⟩, hc_8, H⟩ := bd_e H
    refine z_callV (M := M_X11_readBytes) (M' := M_X0_readInto) (as := [vr x_4, vi (σ kQ_tapeSize 0)]) (rest := []) rfl rfl dX11_readBytes_22 m_X0_readInto t_961 t_962 t_963 (c_X0_readInto hl hs_7 hc_8) rfl rfl ly_170 rfl (Nat.le_of_ble_eq_true rfl) (Nat.le_of_ble_eq_true rfl) (Nat.le_of_ble_eq_true rfl) (Nat.le_of_ble_eq_true rfl) ?_
    refine z_st (st' := [zv x_10]) rfl ?_
    refine z_zstore (M := M_X11_readBytes) (lv' := [some (vr 32), some (vi slot_0), some (vi (σ kQ_tapeSize 0)), some (vr x_4), some (zv x_10)]) dX11_readBytes_25 (Nat.le_of_ble_eq_true rfl) rfl rfl ?_
    refine z_aload_n (M := M_X11_readBytes) dX11_readBytes_27 rfl ?_
    refine z_aload_n (M := M_X11_readBytes) dX11_readBytes_28 rfl ?_
    refine z_zload (M := M_X11_readBytes) dX11_readBytes_29 rfl ?_
    refine z_aload_n (M := M_X11_readBytes) dX11_readBytes_31 rfl ?_
    refine z_getR (M := M_X11_readBytes) (ci := 14) (C := RX11) (T := TX11) (Nf := 19) (ty := tyX11) cl14 dX11_readBytes_32 ly_32 7 (by decide) t_570 rfl ?_
    refine z_getI (M := M_X11_readBytes) (ci := 3) (C := RX0) (T := TX0) (Nf := 13) (ty := tyX0) cl3 dX11_readBytes_35 ly_170 11 (by decide) t_163 rfl rfl ?_
    refine z_aload_n (M := M_X11_readBytes) dX11_readBytes_38 rfl ?_
    refine z_getR (M := M_X11_readBytes) (ci := 14) (C := RX11) (T := TX11) (Nf := 19) (ty := tyX11) cl14 dX11_readBytes_39 ly_32 7 (by decide) t_570 rfl ?_
    refine z_getI (M := M_X11_readBytes) (ci := 3) (C := RX0) (T := TX0) (Nf := 13) (ty := tyX0) cl3 dX11_readBytes_42 ly_170 12 (by decide) t_165 rfl rfl ?_
    obtain ⟨z_16, σ_12, hc_11, K_14, K_15⟩ := bt_e H
    rcases z_16 with x_13 | z_16
    · have H := K_14 _ rfl
      refine z_callV (M := M_X11_readBytes) (M' := M_X11_kindOrFault) (as := [vr x_4, zv x_10, vi (σ_9 kB_wrong 0), vi (σ_9 kB_place 0)]) (rest := []) rfl rfl dX11_readBytes_45 m_X11_kindOrFault t_945 t_947 s_22 (v := some (vi x_13)) (c_X11_kindOrFault hl hs_7 hc_11) rfl rfl ly_32 rfl (Nat.le_of_ble_eq_true rfl) (Nat.le_of_ble_eq_true rfl) (Nat.le_of_ble_eq_true rfl) (Nat.le_of_ble_eq_true rfl) ?_
      refine z_st (st' := [vi x_13]) rfl ?_
      cases H
      exact z_iret (M := M_X11_readBytes) dX11_readBytes_48 rfl (Nat.le_of_ble_eq_true rfl) (Nat.le_of_ble_eq_true rfl) ⟨rfl, rfl⟩
    · have H := K_15 _ rfl
      cases H
      exact z_callVX (M := M_X11_readBytes) (M' := M_X11_kindOrFault) (as := [vr x_4, zv x_10, vi (σ_9 kB_wrong 0), vi (σ_9 kB_place 0)]) (rest := []) rfl rfl dX11_readBytes_45 m_X11_kindOrFault t_945 t_947 s_22 (e := z_16) (c_X11_kindOrFault hl hs_7 hc_11) rfl rfl ly_32 rfl (Nat.le_of_ble_eq_true rfl) (Nat.le_of_ble_eq_true rfl) (Nat.le_of_ble_eq_true rfl) (Nat.le_of_ble_eq_true rfl) ⟨rfl, rfl⟩
  · have H := K_6 _ rfl
    cases H
    exact z_callVX (M := M_X11_readBytes) (M' := M_X11_slotNumbered) (as := [vi slot_0]) (rest := []) rfl rfl dX11_readBytes_12 m_X11_slotNumbered t_744 t_746 s_2 (e := z_17) (c_X11_slotNumbered hl  hc_2) rfl rfl ly_32 rfl (Nat.le_of_ble_eq_true rfl) (Nat.le_of_ble_eq_true rfl) (Nat.le_of_ble_eq_true rfl) (Nat.le_of_ble_eq_true rfl) ⟨rfl, rfl⟩
theorem c_X11_fault (hl : l.stackTraces = false) {σ : SG} {what_0 : Int} {r : Int ⊕ Nat} {σ' : SG}  (H : fQ_fault σ what_0 = some (r, σ')) : en_S l E M_X11_fault 6 1 6 [vr 32, vi what_0] σ (pT (riT r) σ') := by
  unfold fQ_fault at H
  refine z_mk (lv := [some (vr 32), some (vi what_0)]) m_X11_fault rfl hl (Nat.le_of_ble_eq_true rfl) rfl ?_
  rcases if_e H with ⟨h_3, H⟩ | ⟨h_3, H⟩
  · have J_4 : YY l E M_X11_fault 6 1 6 (pT (riT r) σ') 9 [some (vr 32), some (vi what_0)] [] σ 0 0 := by
      cases H
      exact z_throw (M := M_X11_fault) (names := en_nm) rfl dX11_fault_9 dX11_fault_12 dX11_fault_13 dX11_fault_16 (by decide +kernel) en_nm_ok (Or.inl t_748) (Or.inl t_22) at_X11_IndexOutOfBoundsException_139 (Nat.le_of_ble_eq_true rfl) (Nat.le_of_ble_eq_true rfl) (Nat.le_of_ble_eq_true rfl) (Nat.le_of_ble_eq_true rfl) ⟨rfl, rfl⟩
    refine z_iload_n (M := M_X11_fault) dX11_fault_0 rfl ?_
    by_cases h_6 : (w32 what_0) < 0
    · refine z_if_lt_t (M := M_X11_fault) (tgt := 9) dX11_fault_1 (by decide) rfl h_6 ?_
      exact J_4
    · refine z_if_lt_f (M := M_X11_fault) (tgt := 9) dX11_fault_1 (by decide) rfl (Int.not_lt.mp h_6) ?_
      refine z_iload_n (M := M_X11_fault) dX11_fault_4 rfl ?_
      refine z_iconst (M := M_X11_fault) dX11_fault_5 ?_
      by_cases h_7 : 1 < (w32 what_0)
      · refine z_icmp_le_f (M := M_X11_fault) (tgt := 17) dX11_fault_6 (by decide) rfl (by decide +kernel) h_7 ?_
        exact J_4
      · refine z_icmp_le_t (M := M_X11_fault) (tgt := 17) dX11_fault_6 (by decide) rfl (by decide +kernel) (Int.not_lt.mp h_7) ?_
        exact absurd h_3 (fun q => q.elim h_6 h_7)
  · have J_5 : YY l E M_X11_fault 6 1 6 (pT (riT r) σ') 17 [some (vr 32), some (vi what_0)] [] σ 0 0 := by
      have J_1 : YY l E M_X11_fault 6 1 6 (pT (riT r) σ') 32 [some (vr 32), some (vi what_0)] [vi (if (w32 what_0) = 0 then (σ kQ_wrong 0) else (σ kQ_wrongPlace 0))] σ 0 0 := by
        cases H
        exact z_iret (M := M_X11_fault) dX11_fault_32 rfl (Nat.le_of_ble_eq_true rfl) (Nat.le_of_ble_eq_true rfl) ⟨rfl, rfl⟩
      refine z_iload_n (M := M_X11_fault) dX11_fault_17 rfl ?_
      by_cases h_2 : (w32 what_0) = 0
      · refine z_if_ne_f (M := M_X11_fault) (tgt := 28) dX11_fault_18 (by decide) rfl h_2 ?_
        refine z_aload_n (M := M_X11_fault) dX11_fault_21 rfl ?_
        refine z_getI (M := M_X11_fault) (ci := 14) (C := RX11) (T := TX11) (Nf := 19) (ty := tyX11) cl14 dX11_fault_22 ly_32 4 (by decide) t_567 rfl rfl ?_
        refine z_goto (M := M_X11_fault) (tgt := 32) dX11_fault_25 (by decide) ?_
        exact z_st (by rw [if_pos (c := (w32 what_0) = 0) h_2]) J_1
      · refine z_if_ne_t (M := M_X11_fault) (tgt := 28) dX11_fault_18 (by decide) rfl h_2 ?_
        refine z_aload_n (M := M_X11_fault) dX11_fault_28 rfl ?_
        refine z_getI (M := M_X11_fault) (ci := 14) (C := RX11) (T := TX11) (Nf := 19) (ty := tyX11) cl14 dX11_fault_29 ly_32 5 (by decide) t_568 rfl rfl ?_
        exact z_st (by rw [if_neg (c := (w32 what_0) = 0) h_2]) J_1
    refine z_iload_n (M := M_X11_fault) dX11_fault_0 rfl ?_
    by_cases h_8 : (w32 what_0) < 0
    · refine z_if_lt_t (M := M_X11_fault) (tgt := 9) dX11_fault_1 (by decide) rfl h_8 ?_
      exact absurd (Or.inl h_8) h_3
    · refine z_if_lt_f (M := M_X11_fault) (tgt := 9) dX11_fault_1 (by decide) rfl (Int.not_lt.mp h_8) ?_
      refine z_iload_n (M := M_X11_fault) dX11_fault_4 rfl ?_
      refine z_iconst (M := M_X11_fault) dX11_fault_5 ?_
      by_cases h_9 : 1 < (w32 what_0)
      · refine z_icmp_le_f (M := M_X11_fault) (tgt := 17) dX11_fault_6 (by decide) rfl (by decide +kernel) h_9 ?_
        exact absurd (Or.inr h_9) h_3
      · refine z_icmp_le_t (M := M_X11_fault) (tgt := 17) dX11_fault_6 (by decide) rfl (by decide +kernel) (Int.not_lt.mp h_9) ?_
        exact J_5
theorem c_X6_behind (hl : l.stackTraces = false) {σ : SG} {this_0 : Nat} {at_0 : Int} {r : Int} (h_this : isS this_0) (H : fA_behind σ this_0 at_0 = some r) : en_S l E M_X6_behind 1 0 0 [vr this_0, vi at_0] σ (pS (some (vi r)) σ) := by
  unfold fA_behind at H
  refine z_mk (lv := [some (vr this_0), some (vi at_0)]) m_X6_behind rfl hl (Nat.le_of_ble_eq_true rfl) rfl ?_
  obtain ⟨v_9, he_10, hk_11⟩ := bd_e H
  have J_12 : ∀ x_8, v_9 = x_8 → YY l E M_X6_behind 1 0 0 (pS (some (vi r)) σ) 28 [some (vr this_0), some (vi at_0)] [vi x_8] σ 0 0 := by
    intro x_8 e
    have H := hk_11
    rw [e] at H
    cases H
    exact z_iret (M := M_X6_behind) dX6_behind_28 rfl (Nat.le_of_ble_eq_true rfl) (Nat.le_of_ble_eq_true rfl) ⟨rfl, rfl⟩
  have H := he_10
  refine z_aload_n (M := M_X6_behind) dX6_behind_0 rfl ?_
  refine z_getR (M := M_X6_behind) (ci := 9) (C := RX6) (T := TX6) (Nf := 5) (ty := tyX6) cl9 dX6_behind_1 (ly_S h_this) 0 (by decide) t_50 rfl ?_
  refine z_iload_n (M := M_X6_behind) dX6_behind_4 rfl ?_
  obtain ⟨x_1, x_1_e, hi_2, H⟩ := rd_e H
  refine z_iald (M := M_X6_behind) dX6_behind_5 (ly_Sp h_this) rfl rfl rfl hi_2 x_1_e ?_
  refine z_iconst (M := M_X6_behind) dX6_behind_6 ?_
  rcases if_e H with ⟨h_3, H⟩ | ⟨h_3, H⟩
  · refine z_icmp_ne_f (M := M_X6_behind) (tgt := 25) dX6_behind_7 (by decide) rfl (by decide +kernel) h_3 ?_
    refine z_iload_n (M := M_X6_behind) dX6_behind_10 rfl ?_
    refine z_iconst (M := M_X6_behind) dX6_behind_11 ?_
    refine z_iadd (M := M_X6_behind) dX6_behind_12 ?_
    refine z_aload_n (M := M_X6_behind) dX6_behind_13 rfl ?_
    refine z_getR (M := M_X6_behind) (ci := 9) (C := RX6) (T := TX6) (Nf := 5) (ty := tyX6) cl9 dX6_behind_14 (ly_S h_this) 0 (by decide) t_50 rfl ?_
    refine z_iload_n (M := M_X6_behind) dX6_behind_17 rfl ?_
    refine z_iconst (M := M_X6_behind) dX6_behind_18 ?_
    refine z_iadd (M := M_X6_behind) dX6_behind_19 ?_
    obtain ⟨x_4, x_4_e, hi_5, H⟩ := rd_e H
    refine z_iald (M := M_X6_behind) dX6_behind_20 (ly_Sp h_this) rfl rfl rfl hi_5 x_4_e ?_
    refine z_iadd (M := M_X6_behind) dX6_behind_21 ?_
    refine z_goto (M := M_X6_behind) (tgt := 28) dX6_behind_22 (by decide) ?_
    exact J_12 _ (Option.some.inj H).symm
  · refine z_icmp_ne_t (M := M_X6_behind) (tgt := 25) dX6_behind_7 (by decide) rfl (by decide +kernel) h_3 ?_
    refine z_iload_n (M := M_X6_behind) dX6_behind_25 rfl ?_
    refine z_iconst (M := M_X6_behind) dX6_behind_26 ?_
    refine z_iadd (M := M_X6_behind) dX6_behind_27 ?_
    exact J_12 _ (Option.some.inj H).symm
theorem c_X6_rowLength (hl : l.stackTraces = false) {σ : SG} {this_0 : Nat} {at_0 : Int} {row_0 : Int} {r : Int} (h_this : isS this_0) (H : fA_rowLength σ this_0 at_0 row_0 = some r) : en_S l E M_X6_rowLength 1 0 0 [vr this_0, vi at_0, vi row_0] σ (pS (some (vi r)) σ) := by
  unfold fA_rowLength at H
  refine z_mk (lv := [some (vr this_0), some (vi at_0), some (vi row_0), none]) m_X6_rowLength rfl hl (Nat.le_of_ble_eq_true rfl) rfl ?_
  obtain ⟨v_19, he_20, hk_21⟩ := bd_e H
  have J_22 : ∀ x_6, v_19 = x_6 → YY l E M_X6_rowLength 1 0 0 (pS (some (vi r)) σ) 21 [some (vr this_0), some (vi at_0), some (vi row_0), none] [vi x_6] σ 0 0 := by
    intro x_6 e
    have H := hk_21
    rw [e] at H
    refine z_istore_n (M := M_X6_rowLength) (lv' := [some (vr this_0), some (vi at_0), some (vi row_0), some (vi x_6)]) dX6_rowLength_21 (Nat.le_of_ble_eq_true rfl) rfl rfl ?_
    obtain ⟨v_15, he_16, hk_17⟩ := bd_e H
    have J_18 : ∀ x_14, v_15 = x_14 → YY l E M_X6_rowLength 1 0 0 (pS (some (vi r)) σ) 40 [some (vr this_0), some (vi at_0), some (vi row_0), some (vi x_6)] [vi x_14] σ 0 0 := by
      intro x_14 e
      have H := hk_17
      rw [e] at H
      cases H
      exact z_iret (M := M_X6_rowLength) dX6_rowLength_40 rfl (Nat.le_of_ble_eq_true rfl) (Nat.le_of_ble_eq_true rfl) ⟨rfl, rfl⟩
    have H := he_16
    refine z_iload_n (M := M_X6_rowLength) dX6_rowLength_22 rfl ?_
    refine z_aload_n (M := M_X6_rowLength) dX6_rowLength_23 rfl ?_
    refine z_getI (M := M_X6_rowLength) (ci := 9) (C := RX6) (T := TX6) (Nf := 5) (ty := tyX6) cl9 dX6_rowLength_24 (ly_S h_this) 3 (by decide) t_72 rfl rfl ?_
    rcases if_e H with ⟨h_9, H⟩ | ⟨h_9, H⟩
    · refine z_icmp_ge_f (M := M_X6_rowLength) (tgt := 39) dX6_rowLength_27 (by decide) rfl rfl h_9 ?_
      refine z_aload_n (M := M_X6_rowLength) dX6_rowLength_30 rfl ?_
      refine z_getR (M := M_X6_rowLength) (ci := 9) (C := RX6) (T := TX6) (Nf := 5) (ty := tyX6) cl9 dX6_rowLength_31 (ly_S h_this) 0 (by decide) t_50 rfl ?_
      refine z_iload_n (M := M_X6_rowLength) dX6_rowLength_34 rfl ?_
      obtain ⟨x_10, x_10_e, hi_11, H⟩ := rd_e H
      refine z_iald (M := M_X6_rowLength) dX6_rowLength_35 (ly_Sp h_this) rfl rfl rfl hi_11 x_10_e ?_
      refine z_goto (M := M_X6_rowLength) (tgt := 40) dX6_rowLength_36 (by decide) ?_
      exact J_18 _ (Option.some.inj H).symm
    · refine z_icmp_ge_t (M := M_X6_rowLength) (tgt := 39) dX6_rowLength_27 (by decide) rfl rfl (Int.not_lt.mp h_9) ?_
      refine z_iconst (M := M_X6_rowLength) dX6_rowLength_39 ?_
      exact J_18 _ (Option.some.inj H).symm
  have H := he_20
  refine z_aload_n (M := M_X6_rowLength) dX6_rowLength_0 rfl ?_
  refine z_getR (M := M_X6_rowLength) (ci := 9) (C := RX6) (T := TX6) (Nf := 5) (ty := tyX6) cl9 dX6_rowLength_1 (ly_S h_this) 0 (by decide) t_50 rfl ?_
  refine z_iload_n (M := M_X6_rowLength) dX6_rowLength_4 rfl ?_
  obtain ⟨x_1, x_1_e, hi_2, H⟩ := rd_e H
  refine z_iald (M := M_X6_rowLength) dX6_rowLength_5 (ly_Sp h_this) rfl rfl rfl hi_2 x_1_e ?_
  refine z_iconst (M := M_X6_rowLength) dX6_rowLength_6 ?_
  rcases if_e H with ⟨h_3, H⟩ | ⟨h_3, H⟩
  · refine z_icmp_ne_f (M := M_X6_rowLength) (tgt := 18) dX6_rowLength_7 (by decide) rfl (by decide +kernel) h_3 ?_
    refine z_iload_n (M := M_X6_rowLength) dX6_rowLength_10 rfl ?_
    refine z_iconst (M := M_X6_rowLength) dX6_rowLength_11 ?_
    refine z_iadd (M := M_X6_rowLength) dX6_rowLength_12 ?_
    refine z_iload_n (M := M_X6_rowLength) dX6_rowLength_13 rfl ?_
    refine z_iadd (M := M_X6_rowLength) dX6_rowLength_14 ?_
    refine z_goto (M := M_X6_rowLength) (tgt := 21) dX6_rowLength_15 (by decide) ?_
    exact J_22 _ (Option.some.inj H).symm
  · refine z_icmp_ne_t (M := M_X6_rowLength) (tgt := 18) dX6_rowLength_7 (by decide) rfl (by decide +kernel) h_3 ?_
    refine z_iload_n (M := M_X6_rowLength) dX6_rowLength_18 rfl ?_
    refine z_iconst (M := M_X6_rowLength) dX6_rowLength_19 ?_
    refine z_iadd (M := M_X6_rowLength) dX6_rowLength_20 ?_
    exact J_22 _ (Option.some.inj H).symm
theorem c_X6_rows (hl : l.stackTraces = false) {σ : SG} {this_0 : Nat} {at_0 : Int} {r : Int} (h_this : isS this_0) (H : fA_rows σ this_0 at_0 = some r) : en_S l E M_X6_rows 1 0 0 [vr this_0, vi at_0] σ (pS (some (vi r)) σ) := by
  unfold fA_rows at H
  refine z_mk (lv := [some (vr this_0), some (vi at_0)]) m_X6_rows rfl hl (Nat.le_of_ble_eq_true rfl) rfl ?_
  refine z_aload_n (M := M_X6_rows) dX6_rows_0 rfl ?_
  refine z_getR (M := M_X6_rows) (ci := 9) (C := RX6) (T := TX6) (Nf := 5) (ty := tyX6) cl9 dX6_rows_1 (ly_S h_this) 0 (by decide) t_50 rfl ?_
  refine z_iload_n (M := M_X6_rows) dX6_rows_4 rfl ?_
  obtain ⟨x_1, x_1_e, hi_2, H⟩ := rd_e H
  refine z_iald (M := M_X6_rows) dX6_rows_5 (ly_Sp h_this) rfl rfl rfl hi_2 x_1_e ?_
  refine z_iconst (M := M_X6_rows) dX6_rows_6 ?_
  rcases if_e H with ⟨h_3, H⟩ | ⟨h_3, H⟩
  · refine z_icmp_ne_f (M := M_X6_rows) (tgt := 19) dX6_rows_7 (by decide) rfl (by decide +kernel) h_3 ?_
    refine z_aload_n (M := M_X6_rows) dX6_rows_10 rfl ?_
    refine z_getR (M := M_X6_rows) (ci := 9) (C := RX6) (T := TX6) (Nf := 5) (ty := tyX6) cl9 dX6_rows_11 (ly_S h_this) 0 (by decide) t_50 rfl ?_
    refine z_iload_n (M := M_X6_rows) dX6_rows_14 rfl ?_
    refine z_iconst (M := M_X6_rows) dX6_rows_15 ?_
    refine z_iadd (M := M_X6_rows) dX6_rows_16 ?_
    obtain ⟨x_4, x_4_e, hi_5, H⟩ := rd_e H
    refine z_iald (M := M_X6_rows) dX6_rows_17 (ly_Sp h_this) rfl rfl rfl hi_5 x_4_e ?_
    cases H
    exact z_iret (M := M_X6_rows) dX6_rows_18 rfl (Nat.le_of_ble_eq_true rfl) (Nat.le_of_ble_eq_true rfl) ⟨rfl, rfl⟩
  · refine z_icmp_ne_t (M := M_X6_rows) (tgt := 19) dX6_rows_7 (by decide) rfl (by decide +kernel) h_3 ?_
    obtain ⟨v_12, he_13, hk_14⟩ := bd_e H
    have J_15 : ∀ x_11, v_12 = x_11 → YY l E M_X6_rows 1 0 0 (pS (some (vi r)) σ) 34 [some (vr this_0), some (vi at_0)] [vi x_11] σ 0 0 := by
      intro x_11 e
      have H := hk_14
      rw [e] at H
      cases H
      exact z_iret (M := M_X6_rows) dX6_rows_34 rfl (Nat.le_of_ble_eq_true rfl) (Nat.le_of_ble_eq_true rfl) ⟨rfl, rfl⟩
    have H := he_13
    refine z_aload_n (M := M_X6_rows) dX6_rows_19 rfl ?_
    refine z_getR (M := M_X6_rows) (ci := 9) (C := RX6) (T := TX6) (Nf := 5) (ty := tyX6) cl9 dX6_rows_20 (ly_S h_this) 0 (by decide) t_50 rfl ?_
    refine z_iload_n (M := M_X6_rows) dX6_rows_23 rfl ?_
    obtain ⟨x_6, x_6_e, hi_7, H⟩ := rd_e H
    refine z_iald (M := M_X6_rows) dX6_rows_24 (ly_Sp h_this) rfl rfl rfl hi_7 x_6_e ?_
    refine z_iconst (M := M_X6_rows) dX6_rows_25 ?_
    rcases if_e H with ⟨h_8, H⟩ | ⟨h_8, H⟩
    · refine z_icmp_ge_f (M := M_X6_rows) (tgt := 33) dX6_rows_26 (by decide) rfl (by decide +kernel) h_8 ?_
      refine z_iconst (M := M_X6_rows) dX6_rows_29 ?_
      refine z_goto (M := M_X6_rows) (tgt := 34) dX6_rows_30 (by decide) ?_
      exact J_15 _ (Option.some.inj H).symm
    · refine z_icmp_ge_t (M := M_X6_rows) (tgt := 33) dX6_rows_26 (by decide) rfl (by decide +kernel) (Int.not_lt.mp h_8) ?_
      refine z_iconst (M := M_X6_rows) dX6_rows_33 ?_
      exact J_15 _ (Option.some.inj H).symm
theorem c_X6_pointsAt (hl : l.stackTraces = false) {σ : SG} {this_0 : Nat} {at_0 : Int} {r : Int} (h_this : isS this_0) (H : fA_pointsAt σ this_0 at_0 = some r) : en_S l E M_X6_pointsAt 2 0 0 [vr this_0, vi at_0] σ (pS (some (vi r)) σ) := by
  unfold fA_pointsAt at H
  refine z_mk (lv := [some (vr this_0), some (vi at_0), none, none]) m_X6_pointsAt rfl hl (Nat.le_of_ble_eq_true rfl) rfl ?_
  refine z_iconst (M := M_X6_pointsAt) dX6_pointsAt_0 ?_
  refine z_istore_n (M := M_X6_pointsAt) (lv' := [some (vr this_0), some (vi at_0), some (vi 0), none]) dX6_pointsAt_1 (Nat.le_of_ble_eq_true rfl) rfl rfl ?_
  refine z_iconst (M := M_X6_pointsAt) dX6_pointsAt_2 ?_
  refine z_istore_n (M := M_X6_pointsAt) (lv' := [some (vr this_0), some (vi at_0), some (vi 0), some (vi 0)]) dX6_pointsAt_3 (Nat.le_of_ble_eq_true rfl) rfl rfl ?_
  obtain ⟨rl_6, hw_3, hk_4⟩ := bd_e H
  have J_19 : ∀ total_17 row_18, rl_6 = (total_17, row_18) → YY l E M_X6_pointsAt 2 0 0 (pS (some (vi r)) σ) 28 [some (vr this_0), some (vi at_0), some (vi total_17), some (vi row_18)] [] σ 0 0 := by
    intro total_17 row_18 e
    have H := hk_4
    rw [e] at H
    refine z_iload_n (M := M_X6_pointsAt) dX6_pointsAt_28 rfl ?_
    cases H
    exact z_iret (M := M_X6_pointsAt) dX6_pointsAt_29 rfl (Nat.le_of_ble_eq_true rfl) (Nat.le_of_ble_eq_true rfl) ⟨rfl, rfl⟩
  refine whl_go hw_3 (fun (total_1, row_2) => YY l E M_X6_pointsAt 2 0 0 (pS (some (vi r)) σ) 4 [some (vr this_0), some (vi at_0), some (vi total_1), some (vi row_2)] [] σ 0 0) ?_
  rintro ⟨total_1, row_2⟩ o_7 H K_8 K_9
  refine z_iload_n (M := M_X6_pointsAt) dX6_pointsAt_4 rfl ?_
  refine z_aload_n (M := M_X6_pointsAt) dX6_pointsAt_5 rfl ?_
  refine z_iload_n (M := M_X6_pointsAt) dX6_pointsAt_6 rfl ?_
  obtain ⟨x_11, hc_10, H⟩ := bd_e H
  refine z_callV (M := M_X6_pointsAt) (M' := M_X6_rows) (as := [vi at_0]) (rest := [vi row_2]) rfl rfl dX6_pointsAt_7 m_X6_rows t_1100 t_1075 t_1076 (c_X6_rows hl h_this hc_10) rfl rfl (ly_S h_this) rfl (Nat.le_of_ble_eq_true rfl) (Nat.le_of_ble_eq_true rfl) (Nat.le_of_ble_eq_true rfl) (Nat.le_of_ble_eq_true rfl) ?_
  refine z_st (st' := [vi x_11, vi row_2]) rfl ?_
  rcases if_e H with ⟨h_12, H⟩ | ⟨h_12, H⟩
  · refine z_icmp_ge_f (M := M_X6_pointsAt) (tgt := 28) dX6_pointsAt_10 (by decide) rfl rfl h_12 ?_
    refine z_iload_n (M := M_X6_pointsAt) dX6_pointsAt_13 rfl ?_
    refine z_aload_n (M := M_X6_pointsAt) dX6_pointsAt_14 rfl ?_
    refine z_iload_n (M := M_X6_pointsAt) dX6_pointsAt_15 rfl ?_
    refine z_iload_n (M := M_X6_pointsAt) dX6_pointsAt_16 rfl ?_
    obtain ⟨x_14, hc_13, H⟩ := bd_e H
    refine z_callV (M := M_X6_pointsAt) (M' := M_X6_rowLength) (as := [vi at_0, vi row_2]) (rest := [vi total_1]) rfl rfl dX6_pointsAt_17 m_X6_rowLength t_1101 t_1080 t_1081 (c_X6_rowLength hl h_this hc_13) rfl rfl (ly_S h_this) rfl (Nat.le_of_ble_eq_true rfl) (Nat.le_of_ble_eq_true rfl) (Nat.le_of_ble_eq_true rfl) (Nat.le_of_ble_eq_true rfl) ?_
    refine z_st (st' := [vi x_14, vi total_1]) rfl ?_
    refine z_iadd (M := M_X6_pointsAt) dX6_pointsAt_20 ?_
    refine z_istore_n (M := M_X6_pointsAt) (lv' := [some (vr this_0), some (vi at_0), some (vi (total_1 + x_14)), some (vi row_2)]) dX6_pointsAt_21 (Nat.le_of_ble_eq_true rfl) rfl rfl ?_
    refine z_iinc (M := M_X6_pointsAt) (lv' := [some (vr this_0), some (vi at_0), some (vi (total_1 + x_14)), some (vi (row_2 + 1))]) dX6_pointsAt_22 rfl (Nat.le_of_ble_eq_true rfl) rfl rfl ?_
    refine z_goto (M := M_X6_pointsAt) (tgt := 4) dX6_pointsAt_25 (by decide) ?_
    exact K_8 _ (Option.some.inj H).symm
  · refine z_icmp_ge_t (M := M_X6_pointsAt) (tgt := 28) dX6_pointsAt_10 (by decide) rfl rfl (Int.not_lt.mp h_12) ?_
    exact J_19 _ _ (K_9 _ (Option.some.inj H).symm).symm
theorem c_X10_put (hl : l.stackTraces = false) {σ : SG} {value_0 : Int} {σ' : SG}  (H : fO_put σ value_0 = some σ') : en_S l E M_X10_put 1 0 0 [vr 173, vi value_0] σ (pS (none) σ') := by
  unfold fO_put at H
  refine z_mk (lv := [some (vr 173), some (vi value_0)]) m_X10_put rfl hl (Nat.le_of_ble_eq_true rfl) rfl ?_
  obtain ⟨v_4, he_1, hk_2⟩ := bd_e H
  have J_12 : ∀ σ_11, v_4 = σ_11 → YY l E M_X10_put 1 0 0 (pS (none) σ') 30 [some (vr 173), some (vi value_0)] [] σ_11 0 0 := by
    intro σ_11 e
    have H := hk_2
    rw [e] at H
    cases H
    exact z_vret (M := M_X10_put) dX10_put_30 rfl (Nat.le_of_ble_eq_true rfl) (Nat.le_of_ble_eq_true rfl) ⟨rfl, rfl⟩
  have H := he_1
  refine z_aload_n (M := M_X10_put) dX10_put_0 rfl ?_
  refine z_getI (M := M_X10_put) (ci := 13) (C := RX10) (T := TX10) (Nf := 6) (ty := tyX10) cl13 dX10_put_1 ly_173 5 (by decide) t_207 rfl rfl ?_
  refine z_ldc (M := M_X10_put) (n := 80000) dX10_put_4 t_200 (by decide +kernel) ?_
  rcases if_e H with ⟨h_5, H⟩ | ⟨h_5, H⟩
  · refine z_icmp_ge_f (M := M_X10_put) (tgt := 30) dX10_put_6 (by decide) rfl (by decide +kernel) h_5 ?_
    refine z_aload_n (M := M_X10_put) dX10_put_9 rfl ?_
    refine z_getR (M := M_X10_put) (ci := 13) (C := RX10) (T := TX10) (Nf := 6) (ty := tyX10) cl13 dX10_put_10 ly_173 4 (by decide) t_205 rfl ?_
    refine z_aload_n (M := M_X10_put) dX10_put_13 rfl ?_
    refine z_getI (M := M_X10_put) (ci := 13) (C := RX10) (T := TX10) (Nf := 6) (ty := tyX10) cl13 dX10_put_14 ly_173 5 (by decide) t_207 rfl rfl ?_
    refine z_iload_n (M := M_X10_put) dX10_put_17 rfl ?_
    refine z_i2b (M := M_X10_put) dX10_put_18 ?_
    obtain ⟨σ_6, σ_6_e, hi_7, H⟩ := wa_e H
    refine z_bast (M := M_X10_put) dX10_put_19 ly_176 rfl rfl rfl hi_7 σ_6_e ?_
    refine z_aload_n (M := M_X10_put) dX10_put_20 rfl ?_
    refine z_dup (M := M_X10_put) dX10_put_21 rfl ?_
    refine z_getI (M := M_X10_put) (ci := 13) (C := RX10) (T := TX10) (Nf := 6) (ty := tyX10) cl13 dX10_put_22 ly_173 5 (by decide) t_207 rfl rfl ?_
    refine z_iconst (M := M_X10_put) dX10_put_25 ?_
    refine z_iadd (M := M_X10_put) dX10_put_26 ?_
    obtain ⟨σ_8, σ_8_e, H⟩ := wf_e H
    refine z_putI (M := M_X10_put) (ci := 13) (C := RX10) (T := TX10) (Nf := 6) (ty := tyX10) cl13 dX10_put_27 ly_173 5 (by decide) t_207 rfl rfl rfl rfl σ_8_e ?_
    exact J_12 _ (Option.some.inj H).symm
  · refine z_icmp_ge_t (M := M_X10_put) (tgt := 30) dX10_put_6 (by decide) rfl (by decide +kernel) (Int.not_lt.mp h_5) ?_
    exact J_12 _ (Option.some.inj H).symm
theorem c_X10_putText (hl : l.stackTraces = false) {σ : SG} {text_0 : Nat} {σ' : SG} (h_text : isW text_0) (H : fO_putText σ text_0 = some σ') : en_S l E M_X10_putText 6 0 0 [vr 173, vr text_0] σ (pS (none) σ') := by
  unfold fO_putText at H
  refine z_mk (lv := [some (vr 173), some (vr text_0), none]) m_X10_putText rfl hl (Nat.le_of_ble_eq_true rfl) rfl ?_
  refine z_iconst (M := M_X10_putText) dX10_putText_0 ?_
  refine z_istore_n (M := M_X10_putText) (lv' := [some (vr 173), some (vr text_0), some (vi 0)]) dX10_putText_1 (Nat.le_of_ble_eq_true rfl) rfl rfl ?_
  obtain ⟨rl_6, hw_3, hk_4⟩ := bd_e H
  have J_18 : ∀ i_16 σ_17, rl_6 = (i_16, σ_17) → YY l E M_X10_putText 6 0 0 (pS (none) σ') 25 [some (vr 173), some (vr text_0), some (vi i_16)] [] σ_17 0 0 := by
    intro i_16 σ_17 e
    have H := hk_4
    rw [e] at H
    cases H
    exact z_vret (M := M_X10_putText) dX10_putText_25 rfl (Nat.le_of_ble_eq_true rfl) (Nat.le_of_ble_eq_true rfl) ⟨rfl, rfl⟩
  refine whl_go hw_3 (fun (i_1, σ_2) => YY l E M_X10_putText 6 0 0 (pS (none) σ') 2 [some (vr 173), some (vr text_0), some (vi i_1)] [] σ_2 0 0) ?_
  rintro ⟨i_1, σ_2⟩ o_7 H K_8 K_9
  refine z_iload_n (M := M_X10_putText) dX10_putText_2 rfl ?_
  refine z_aload_n (M := M_X10_putText) dX10_putText_3 rfl ?_
  refine z_strlen (M := M_X10_putText) rfl dX10_putText_4 t_1063 h_text hl (Nat.le_of_ble_eq_true rfl) (Nat.le_of_ble_eq_true rfl) (Nat.le_of_ble_eq_true rfl) (Nat.le_of_ble_eq_true rfl) ?_
  rcases if_e H with ⟨h_10, H⟩ | ⟨h_10, H⟩
  · refine z_icmp_ge_f (M := M_X10_putText) (tgt := 25) dX10_putText_7 (by decide) rfl rfl h_10 ?_
    refine z_aload_n (M := M_X10_putText) dX10_putText_10 rfl ?_
    refine z_aload_n (M := M_X10_putText) dX10_putText_11 rfl ?_
    refine z_iload_n (M := M_X10_putText) dX10_putText_12 rfl ?_
    obtain ⟨hi_11, H⟩ := ck_e H
    refine z_strch (M := M_X10_putText) rfl dX10_putText_13 t_1064 h_text rfl hi_11 hl (Nat.le_of_ble_eq_true rfl) (Nat.le_of_ble_eq_true rfl) (Nat.le_of_ble_eq_true rfl) (Nat.le_of_ble_eq_true rfl) ?_
    obtain ⟨σ_13, hc_12, H⟩ := bd_e H
    refine z_callV (M := M_X10_putText) (M' := M_X10_put) (as := [vi (sChr text_0 (w32 i_1))]) (rest := []) rfl rfl dX10_putText_16 m_X10_put t_1065 t_1067 s_36 (c_X10_put hl  hc_12) rfl rfl ly_173 rfl (Nat.le_of_ble_eq_true rfl) (Nat.le_of_ble_eq_true rfl) (Nat.le_of_ble_eq_true rfl) (Nat.le_of_ble_eq_true rfl) ?_
    refine z_st (st' := []) rfl ?_
    refine z_iinc (M := M_X10_putText) (lv' := [some (vr 173), some (vr text_0), some (vi (i_1 + 1))]) dX10_putText_19 rfl (Nat.le_of_ble_eq_true rfl) rfl rfl ?_
    refine z_goto (M := M_X10_putText) (tgt := 2) dX10_putText_22 (by decide) ?_
    exact K_8 _ (Option.some.inj H).symm
  · refine z_icmp_ge_t (M := M_X10_putText) (tgt := 25) dX10_putText_7 (by decide) rfl rfl (Int.not_lt.mp h_10) ?_
    exact J_18 _ _ (K_9 _ (Option.some.inj H).symm).symm
theorem c_X10_closeLevels (hl : l.stackTraces = false) {σ : SG} {open_0 : Int} {r : Int} {σ' : SG}  (H : fO_closeLevels σ open_0 = some (r, σ')) : en_S l E M_X10_closeLevels 7 0 0 [vr 173, vi open_0] σ (pS (some (vi r)) σ') := by
  unfold fO_closeLevels at H
  refine z_mk (lv := [some (vr 173), some (vi open_0), none]) m_X10_closeLevels rfl hl (Nat.le_of_ble_eq_true rfl) rfl ?_
  refine z_iload_n (M := M_X10_closeLevels) dX10_closeLevels_0 rfl ?_
  refine z_istore_n (M := M_X10_closeLevels) (lv' := [some (vr 173), some (vi open_0), some (vi open_0)]) dX10_closeLevels_1 (Nat.le_of_ble_eq_true rfl) rfl rfl ?_
  obtain ⟨rl_6, hw_3, hk_4, hk_5⟩ := bx_e H
  have J_26 : ∀ depth_24 σ_25, rl_6 = (.inl (depth_24, σ_25)) → YY l E M_X10_closeLevels 7 0 0 (pS (some (vi r)) σ') 49 [some (vr 173), some (vi open_0), some (vi depth_24)] [] σ_25 0 0 := by
    intro depth_24 σ_25 e
    have H := hk_4 _ e
    refine z_iconst (M := M_X10_closeLevels) dX10_closeLevels_49 ?_
    cases H
    exact z_iret (M := M_X10_closeLevels) dX10_closeLevels_50 rfl (Nat.le_of_ble_eq_true rfl) (Nat.le_of_ble_eq_true rfl) ⟨rfl, rfl⟩
  refine whl_go hw_3 (fun (depth_1, σ_2) => YY l E M_X10_closeLevels 7 0 0 (pS (some (vi r)) σ') 2 [some (vr 173), some (vi open_0), some (vi depth_1)] [] σ_2 0 0) ?_
  rintro ⟨depth_1, σ_2⟩ o_7 H K_8 K_9
  refine z_iload_n (M := M_X10_closeLevels) dX10_closeLevels_2 rfl ?_
  rcases if_e H with ⟨h_10, H⟩ | ⟨h_10, H⟩
  · refine z_if_le_f (M := M_X10_closeLevels) (tgt := 49) dX10_closeLevels_3 (by decide) rfl h_10 ?_
    refine z_aload_n (M := M_X10_closeLevels) dX10_closeLevels_6 rfl ?_
    refine z_getR (M := M_X10_closeLevels) (ci := 13) (C := RX10) (T := TX10) (Nf := 6) (ty := tyX10) cl13 dX10_closeLevels_7 ly_173 2 (by decide) t_203 rfl ?_
    refine z_iload_n (M := M_X10_closeLevels) dX10_closeLevels_10 rfl ?_
    refine z_iconst (M := M_X10_closeLevels) dX10_closeLevels_11 ?_
    refine z_isub (M := M_X10_closeLevels) dX10_closeLevels_12 ?_
    refine z_dup2 (M := M_X10_closeLevels) dX10_closeLevels_13 rfl rfl ?_
    obtain ⟨x_11, x_11_e, hi_12, H⟩ := rd_e H
    refine z_iald (M := M_X10_closeLevels) dX10_closeLevels_14 ly_175 rfl rfl rfl hi_12 x_11_e ?_
    refine z_iconst (M := M_X10_closeLevels) dX10_closeLevels_15 ?_
    refine z_isub (M := M_X10_closeLevels) dX10_closeLevels_16 ?_
    obtain ⟨σ_13, σ_13_e, hi_14, H⟩ := wa_e H
    refine z_iast (M := M_X10_closeLevels) dX10_closeLevels_17 ly_175 rfl rfl rfl hi_14 σ_13_e ?_
    refine z_aload_n (M := M_X10_closeLevels) dX10_closeLevels_18 rfl ?_
    refine z_getR (M := M_X10_closeLevels) (ci := 13) (C := RX10) (T := TX10) (Nf := 6) (ty := tyX10) cl13 dX10_closeLevels_19 ly_173 2 (by decide) t_203 rfl ?_
    refine z_iload_n (M := M_X10_closeLevels) dX10_closeLevels_22 rfl ?_
    refine z_iconst (M := M_X10_closeLevels) dX10_closeLevels_23 ?_
    refine z_isub (M := M_X10_closeLevels) dX10_closeLevels_24 ?_
    obtain ⟨x_15, x_15_e, hi_16, H⟩ := rd_e H
    refine z_iald (M := M_X10_closeLevels) dX10_closeLevels_25 ly_175 rfl rfl rfl hi_16 x_15_e ?_
    rcases if_e H with ⟨h_17, H⟩ | ⟨h_17, H⟩
    · refine z_if_le_f (M := M_X10_closeLevels) (tgt := 37) dX10_closeLevels_26 (by decide) rfl h_17 ?_
      refine z_aload_n (M := M_X10_closeLevels) dX10_closeLevels_29 rfl ?_
      refine z_ldcS (M := M_X10_closeLevels) (i := 8) (w := 9) (tx := ", ") dX10_closeLevels_30 (by decide +kernel) (by decide) rfl ?_
      obtain ⟨σ_19, hc_18, H⟩ := bd_e H
      refine z_callV (M := M_X10_closeLevels) (M' := M_X10_putText) (as := [vr 9]) (rest := []) rfl rfl dX10_closeLevels_32 m_X10_putText t_1059 t_1061 s_35 (c_X10_putText hl (by decide) hc_18) rfl rfl ly_173 rfl (Nat.le_of_ble_eq_true rfl) (Nat.le_of_ble_eq_true rfl) (Nat.le_of_ble_eq_true rfl) (Nat.le_of_ble_eq_true rfl) ?_
      refine z_st (st' := []) rfl ?_
      refine z_iload_n (M := M_X10_closeLevels) dX10_closeLevels_35 rfl ?_
      have H := congrArg some (hk_5 _ ((K_9 _ (Option.some.inj H).symm).symm))
      cases H
      exact z_iret (M := M_X10_closeLevels) dX10_closeLevels_36 rfl (Nat.le_of_ble_eq_true rfl) (Nat.le_of_ble_eq_true rfl) ⟨rfl, rfl⟩
    · refine z_if_le_t (M := M_X10_closeLevels) (tgt := 37) dX10_closeLevels_26 (by decide) rfl (Int.not_lt.mp h_17) ?_
      refine z_aload_n (M := M_X10_closeLevels) dX10_closeLevels_37 rfl ?_
      refine z_bipush (M := M_X10_closeLevels) dX10_closeLevels_38 (by decide +kernel) ?_
      obtain ⟨σ_21, hc_20, H⟩ := bd_e H
      refine z_callV (M := M_X10_closeLevels) (M' := M_X10_put) (as := [vi 41]) (rest := []) rfl rfl dX10_closeLevels_40 m_X10_put t_1065 t_1067 s_36 (c_X10_put hl  hc_20) rfl rfl ly_173 rfl (Nat.le_of_ble_eq_true rfl) (Nat.le_of_ble_eq_true rfl) (Nat.le_of_ble_eq_true rfl) (Nat.le_of_ble_eq_true rfl) ?_
      refine z_st (st' := []) rfl ?_
      refine z_iinc (M := M_X10_closeLevels) (lv' := [some (vr 173), some (vi open_0), some (vi (depth_1 + (-1)))]) dX10_closeLevels_43 rfl (Nat.le_of_ble_eq_true rfl) rfl rfl ?_
      refine z_goto (M := M_X10_closeLevels) (tgt := 2) dX10_closeLevels_46 (by decide) ?_
      exact K_8 _ (Option.some.inj H).symm
  · refine z_if_le_t (M := M_X10_closeLevels) (tgt := 49) dX10_closeLevels_3 (by decide) rfl (Int.not_lt.mp h_10) ?_
    exact J_26 _ _ (K_9 _ (Option.some.inj H).symm).symm
theorem c_X10_putNumber (hl : l.stackTraces = false) {σ : SG} {units_0 : Int} {σ' : SG}  (H : fO_putNumber σ units_0 = some σ') : en_S l E M_X10_putNumber 2 0 0 [vr 173, vi units_0] σ (pS (none) σ') := by
  unfold fO_putNumber at H
  refine z_mk (lv := [some (vr 173), some (vi units_0), none, none, none, none, none]) m_X10_putNumber rfl hl (Nat.le_of_ble_eq_true rfl) rfl ?_
  obtain ⟨v_4, he_1, hk_2⟩ := bd_e H
  have J_85 : ∀ σ_10, v_4 = σ_10 → YY l E M_X10_putNumber 2 0 0 (pS (none) σ') 10 [some (vr 173), some (vi units_0), none, none, none, none, none] [] σ_10 0 0 := by
    intro σ_10 e
    have H := hk_2
    rw [e] at H
    refine z_iload_n (M := M_X10_putNumber) dX10_putNumber_10 rfl ?_
    refine z_mabs (M := M_X10_putNumber) dX10_putNumber_11 t_1091 t_1092 t_20 t_1093 (Nat.le_of_ble_eq_true rfl) (Nat.le_of_ble_eq_true rfl) (Nat.le_of_ble_eq_true rfl) (Nat.le_of_ble_eq_true rfl) ?_
    refine z_istore_n (M := M_X10_putNumber) (lv' := [some (vr 173), some (vi units_0), some (vi (q_abi units_0)), none, none, none, none]) dX10_putNumber_14 (Nat.le_of_ble_eq_true rfl) rfl rfl ?_
    refine z_getsU (M := M_X10_putNumber) dX10_putNumber_15 n_1094 ?_
    refine z_aload_n (M := M_X10_putNumber) dX10_putNumber_18 rfl ?_
    refine z_getI (M := M_X10_putNumber) (ci := 13) (C := RX10) (T := TX10) (Nf := 6) (ty := tyX10) cl13 dX10_putNumber_19 ly_173 0 (by decide) t_201 rfl rfl ?_
    obtain ⟨hi_11, H⟩ := ck_e H
    refine z_tald (M := M_X10_putNumber) dX10_putNumber_22 rfl hi_11 ?_
    refine z_istore_n (M := M_X10_putNumber) (lv' := [some (vr 173), some (vi units_0), some (vi (q_abi units_0)), some (vi (uNit (w32 (σ_10 kO_digits 0)))), none, none, none]) dX10_putNumber_23 (Nat.le_of_ble_eq_true rfl) rfl rfl ?_
    refine z_iload_n (M := M_X10_putNumber) dX10_putNumber_24 rfl ?_
    refine z_iload_n (M := M_X10_putNumber) dX10_putNumber_25 rfl ?_
    obtain ⟨hd_12, H⟩ := ck_e H
    refine z_idiv (M := M_X10_putNumber) dX10_putNumber_26 hd_12 ?_
    refine z_istore (M := M_X10_putNumber) (lv' := [some (vr 173), some (vi units_0), some (vi (q_abi units_0)), some (vi (uNit (w32 (σ_10 kO_digits 0)))), some (vi (q_idv (q_abi units_0) (uNit (w32 (σ_10 kO_digits 0))))), none, none]) dX10_putNumber_27 (Nat.le_of_ble_eq_true rfl) rfl rfl ?_
    refine z_ldc (M := M_X10_putNumber) (n := 1000000000) dX10_putNumber_29 t_1095 (by decide +kernel) ?_
    refine z_istore (M := M_X10_putNumber) (lv' := [some (vr 173), some (vi units_0), some (vi (q_abi units_0)), some (vi (uNit (w32 (σ_10 kO_digits 0)))), some (vi (q_idv (q_abi units_0) (uNit (w32 (σ_10 kO_digits 0))))), some (vi 1000000000), none]) dX10_putNumber_31 (Nat.le_of_ble_eq_true rfl) rfl rfl ?_
    obtain ⟨rl_18, hw_15, hk_16⟩ := bd_e H
    have J_84 : ∀ step_43 σ_44, rl_18 = (step_43, σ_44) → YY l E M_X10_putNumber 2 0 0 (pS (none) σ') 76 [some (vr 173), some (vi units_0), some (vi (q_abi units_0)), some (vi (uNit (w32 (σ_10 kO_digits 0)))), some (vi (q_idv (q_abi units_0) (uNit (w32 (σ_10 kO_digits 0))))), some (vi step_43), none] [] σ_44 0 0 := by
      intro step_43 σ_44 e
      have H := hk_16
      rw [e] at H
      refine z_iload_n (M := M_X10_putNumber) dX10_putNumber_76 rfl ?_
      refine z_iload_n (M := M_X10_putNumber) dX10_putNumber_77 rfl ?_
      obtain ⟨hd_45, H⟩ := ck_e H
      refine z_irem (M := M_X10_putNumber) dX10_putNumber_78 hd_45 ?_
      refine z_istore (M := M_X10_putNumber) (lv' := [some (vr 173), some (vi units_0), some (vi (q_abi units_0)), some (vi (uNit (w32 (σ_10 kO_digits 0)))), some (vi (q_idv (q_abi units_0) (uNit (w32 (σ_10 kO_digits 0))))), some (vi (q_irm (q_abi units_0) (uNit (w32 (σ_10 kO_digits 0))))), none]) dX10_putNumber_79 (Nat.le_of_ble_eq_true rfl) rfl rfl ?_
      obtain ⟨v_49, he_46, hk_47⟩ := bd_e H
      have J_83 : ∀ σ_55, v_49 = σ_55 → YY l E M_X10_putNumber 2 0 0 (pS (none) σ') 92 [some (vr 173), some (vi units_0), some (vi (q_abi units_0)), some (vi (uNit (w32 (σ_10 kO_digits 0)))), some (vi (q_idv (q_abi units_0) (uNit (w32 (σ_10 kO_digits 0))))), some (vi (q_irm (q_abi units_0) (uNit (w32 (σ_10 kO_digits 0))))), none] [] σ_55 0 0 := by
        intro σ_55 e
        have H := hk_47
        rw [e] at H
        refine z_iload_n (M := M_X10_putNumber) dX10_putNumber_92 rfl ?_
        refine z_bipush (M := M_X10_putNumber) dX10_putNumber_93 (by decide +kernel) ?_
        refine z_idiv (M := M_X10_putNumber) dX10_putNumber_95 (by decide +kernel) ?_
        refine z_istore (M := M_X10_putNumber) (lv' := [some (vr 173), some (vi units_0), some (vi (q_abi units_0)), some (vi (uNit (w32 (σ_10 kO_digits 0)))), some (vi (q_idv (q_abi units_0) (uNit (w32 (σ_10 kO_digits 0))))), some (vi (q_irm (q_abi units_0) (uNit (w32 (σ_10 kO_digits 0))))), some (vi (q_idv (uNit (w32 (σ_10 kO_digits 0))) 10))]) dX10_putNumber_96 (Nat.le_of_ble_eq_true rfl) rfl rfl ?_
        obtain ⟨rl_62, hw_59, hk_60⟩ := bd_e H
        have J_82 : ∀ rest_79 step_80 σ_81, rl_62 = (rest_79, step_80, σ_81) → YY l E M_X10_putNumber 2 0 0 (pS (none) σ') 137 [some (vr 173), some (vi units_0), some (vi (q_abi units_0)), some (vi (uNit (w32 (σ_10 kO_digits 0)))), some (vi (q_idv (q_abi units_0) (uNit (w32 (σ_10 kO_digits 0))))), some (vi rest_79), some (vi step_80)] [] σ_81 0 0 := by
          intro rest_79 step_80 σ_81 e
          have H := hk_60
          rw [e] at H
          cases H
          exact z_vret (M := M_X10_putNumber) dX10_putNumber_137 rfl (Nat.le_of_ble_eq_true rfl) (Nat.le_of_ble_eq_true rfl) ⟨rfl, rfl⟩
        refine whl_go hw_59 (fun (rest_56, step_57, σ_58) => YY l E M_X10_putNumber 2 0 0 (pS (none) σ') 98 [some (vr 173), some (vi units_0), some (vi (q_abi units_0)), some (vi (uNit (w32 (σ_10 kO_digits 0)))), some (vi (q_idv (q_abi units_0) (uNit (w32 (σ_10 kO_digits 0))))), some (vi rest_56), some (vi step_57)] [] σ_58 0 0) ?_
        rintro ⟨rest_56, step_57, σ_58⟩ o_63 H K_64 K_65
        rcases if_e H with ⟨h_72, H⟩ | ⟨h_72, H⟩
        · have J_73 : YY l E M_X10_putNumber 2 0 0 (pS (none) σ') 108 [some (vr 173), some (vi units_0), some (vi (q_abi units_0)), some (vi (uNit (w32 (σ_10 kO_digits 0)))), some (vi (q_idv (q_abi units_0) (uNit (w32 (σ_10 kO_digits 0))))), some (vi rest_56), some (vi step_57)] [] σ_58 0 0 := by
            refine z_aload_n (M := M_X10_putNumber) dX10_putNumber_108 rfl ?_
            refine z_bipush (M := M_X10_putNumber) dX10_putNumber_109 (by decide +kernel) ?_
            refine z_iload (M := M_X10_putNumber) dX10_putNumber_111 rfl ?_
            refine z_iload (M := M_X10_putNumber) dX10_putNumber_113 rfl ?_
            obtain ⟨hd_66, H⟩ := ck_e H
            refine z_idiv (M := M_X10_putNumber) dX10_putNumber_115 hd_66 ?_
            refine z_iadd (M := M_X10_putNumber) dX10_putNumber_116 ?_
            obtain ⟨σ_68, hc_67, H⟩ := bd_e H
            refine z_callV (M := M_X10_putNumber) (M' := M_X10_put) (as := [vi (48 + (q_idv rest_56 step_57))]) (rest := []) rfl rfl dX10_putNumber_117 m_X10_put t_1065 t_1067 s_36 (c_X10_put hl  hc_67) rfl rfl ly_173 rfl (Nat.le_of_ble_eq_true rfl) (Nat.le_of_ble_eq_true rfl) (Nat.le_of_ble_eq_true rfl) (Nat.le_of_ble_eq_true rfl) ?_
            refine z_st (st' := []) rfl ?_
            refine z_iload (M := M_X10_putNumber) dX10_putNumber_120 rfl ?_
            refine z_iload (M := M_X10_putNumber) dX10_putNumber_122 rfl ?_
            obtain ⟨hd_69, H⟩ := ck_e H
            refine z_irem (M := M_X10_putNumber) dX10_putNumber_124 hd_69 ?_
            refine z_istore (M := M_X10_putNumber) (lv' := [some (vr 173), some (vi units_0), some (vi (q_abi units_0)), some (vi (uNit (w32 (σ_10 kO_digits 0)))), some (vi (q_idv (q_abi units_0) (uNit (w32 (σ_10 kO_digits 0))))), some (vi (q_irm rest_56 step_57)), some (vi step_57)]) dX10_putNumber_125 (Nat.le_of_ble_eq_true rfl) rfl rfl ?_
            refine z_iload (M := M_X10_putNumber) dX10_putNumber_127 rfl ?_
            refine z_bipush (M := M_X10_putNumber) dX10_putNumber_129 (by decide +kernel) ?_
            refine z_idiv (M := M_X10_putNumber) dX10_putNumber_131 (by decide +kernel) ?_
            refine z_istore (M := M_X10_putNumber) (lv' := [some (vr 173), some (vi units_0), some (vi (q_abi units_0)), some (vi (uNit (w32 (σ_10 kO_digits 0)))), some (vi (q_idv (q_abi units_0) (uNit (w32 (σ_10 kO_digits 0))))), some (vi (q_irm rest_56 step_57)), some (vi (q_idv step_57 10))]) dX10_putNumber_132 (Nat.le_of_ble_eq_true rfl) rfl rfl ?_
            refine z_goto (M := M_X10_putNumber) (tgt := 98) dX10_putNumber_134 (by decide) ?_
            exact K_64 _ (Option.some.inj H).symm
          refine z_iload (M := M_X10_putNumber) dX10_putNumber_98 rfl ?_
          by_cases h_75 : 0 < (w32 step_57)
          · refine z_if_le_f (M := M_X10_putNumber) (tgt := 137) dX10_putNumber_100 (by decide) rfl h_75 ?_
            refine z_iload (M := M_X10_putNumber) dX10_putNumber_103 rfl ?_
            by_cases h_76 : 0 < (w32 rest_56)
            · refine z_if_le_f (M := M_X10_putNumber) (tgt := 137) dX10_putNumber_105 (by decide) rfl h_76 ?_
              exact J_73
            · refine z_if_le_t (M := M_X10_putNumber) (tgt := 137) dX10_putNumber_105 (by decide) rfl (Int.not_lt.mp h_76) ?_
              exact absurd h_72 (fun q => h_76 q.2)
          · refine z_if_le_t (M := M_X10_putNumber) (tgt := 137) dX10_putNumber_100 (by decide) rfl (Int.not_lt.mp h_75) ?_
            exact absurd h_72 (fun q => h_75 q.1)
        · have J_74 : YY l E M_X10_putNumber 2 0 0 (pS (none) σ') 137 [some (vr 173), some (vi units_0), some (vi (q_abi units_0)), some (vi (uNit (w32 (σ_10 kO_digits 0)))), some (vi (q_idv (q_abi units_0) (uNit (w32 (σ_10 kO_digits 0))))), some (vi rest_56), some (vi step_57)] [] σ_58 0 0 := by
            exact J_82 _ _ _ (K_65 _ (Option.some.inj H).symm).symm
          refine z_iload (M := M_X10_putNumber) dX10_putNumber_98 rfl ?_
          by_cases h_77 : 0 < (w32 step_57)
          · refine z_if_le_f (M := M_X10_putNumber) (tgt := 137) dX10_putNumber_100 (by decide) rfl h_77 ?_
            refine z_iload (M := M_X10_putNumber) dX10_putNumber_103 rfl ?_
            by_cases h_78 : 0 < (w32 rest_56)
            · refine z_if_le_f (M := M_X10_putNumber) (tgt := 137) dX10_putNumber_105 (by decide) rfl h_78 ?_
              exact absurd ⟨h_77, h_78⟩ h_72
            · refine z_if_le_t (M := M_X10_putNumber) (tgt := 137) dX10_putNumber_105 (by decide) rfl (Int.not_lt.mp h_78) ?_
              exact J_74
          · refine z_if_le_t (M := M_X10_putNumber) (tgt := 137) dX10_putNumber_100 (by decide) rfl (Int.not_lt.mp h_77) ?_
            exact J_74
      have H := he_46
      refine z_iload (M := M_X10_putNumber) dX10_putNumber_81 rfl ?_
      rcases if_e H with ⟨h_50, H⟩ | ⟨h_50, H⟩
      · refine z_if_le_f (M := M_X10_putNumber) (tgt := 92) dX10_putNumber_83 (by decide) rfl h_50 ?_
        refine z_aload_n (M := M_X10_putNumber) dX10_putNumber_86 rfl ?_
        refine z_bipush (M := M_X10_putNumber) dX10_putNumber_87 (by decide +kernel) ?_
        obtain ⟨σ_52, hc_51, H⟩ := bd_e H
        refine z_callV (M := M_X10_putNumber) (M' := M_X10_put) (as := [vi 46]) (rest := []) rfl rfl dX10_putNumber_89 m_X10_put t_1065 t_1067 s_36 (c_X10_put hl  hc_51) rfl rfl ly_173 rfl (Nat.le_of_ble_eq_true rfl) (Nat.le_of_ble_eq_true rfl) (Nat.le_of_ble_eq_true rfl) (Nat.le_of_ble_eq_true rfl) ?_
        refine z_st (st' := []) rfl ?_
        exact J_83 _ (Option.some.inj H).symm
      · refine z_if_le_t (M := M_X10_putNumber) (tgt := 92) dX10_putNumber_83 (by decide) rfl (Int.not_lt.mp h_50) ?_
        exact J_83 _ (Option.some.inj H).symm
    refine whl_go hw_15 (fun (step_13, σ_14) => YY l E M_X10_putNumber 2 0 0 (pS (none) σ') 33 [some (vr 173), some (vi units_0), some (vi (q_abi units_0)), some (vi (uNit (w32 (σ_10 kO_digits 0)))), some (vi (q_idv (q_abi units_0) (uNit (w32 (σ_10 kO_digits 0))))), some (vi step_13), none] [] σ_14 0 0) ?_
    rintro ⟨step_13, σ_14⟩ o_19 H K_20 K_21
    refine z_iload (M := M_X10_putNumber) dX10_putNumber_33 rfl ?_
    rcases if_e H with ⟨h_22, H⟩ | ⟨h_22, H⟩
    · refine z_if_le_f (M := M_X10_putNumber) (tgt := 76) dX10_putNumber_35 (by decide) rfl h_22 ?_
      obtain ⟨v_26, he_23, hk_24⟩ := bd_e H
      have J_41 : ∀ σ_39, v_26 = σ_39 → YY l E M_X10_putNumber 2 0 0 (pS (none) σ') 66 [some (vr 173), some (vi units_0), some (vi (q_abi units_0)), some (vi (uNit (w32 (σ_10 kO_digits 0)))), some (vi (q_idv (q_abi units_0) (uNit (w32 (σ_10 kO_digits 0))))), some (vi step_13), none] [] σ_39 0 0 := by
        intro σ_39 e
        have H := hk_24
        rw [e] at H
        refine z_iload (M := M_X10_putNumber) dX10_putNumber_66 rfl ?_
        refine z_bipush (M := M_X10_putNumber) dX10_putNumber_68 (by decide +kernel) ?_
        refine z_idiv (M := M_X10_putNumber) dX10_putNumber_70 (by decide +kernel) ?_
        refine z_istore (M := M_X10_putNumber) (lv' := [some (vr 173), some (vi units_0), some (vi (q_abi units_0)), some (vi (uNit (w32 (σ_10 kO_digits 0)))), some (vi (q_idv (q_abi units_0) (uNit (w32 (σ_10 kO_digits 0))))), some (vi (q_idv step_13 10)), none]) dX10_putNumber_71 (Nat.le_of_ble_eq_true rfl) rfl rfl ?_
        refine z_goto (M := M_X10_putNumber) (tgt := 33) dX10_putNumber_73 (by decide) ?_
        exact K_20 _ (Option.some.inj H).symm
      have H := he_23
      rcases if_e H with ⟨h_32, H⟩ | ⟨h_32, H⟩
      · have J_33 : YY l E M_X10_putNumber 2 0 0 (pS (none) σ') 51 [some (vr 173), some (vi units_0), some (vi (q_abi units_0)), some (vi (uNit (w32 (σ_10 kO_digits 0)))), some (vi (q_idv (q_abi units_0) (uNit (w32 (σ_10 kO_digits 0))))), some (vi step_13), none] [] σ_14 0 0 := by
          refine z_aload_n (M := M_X10_putNumber) dX10_putNumber_51 rfl ?_
          refine z_bipush (M := M_X10_putNumber) dX10_putNumber_52 (by decide +kernel) ?_
          refine z_iload (M := M_X10_putNumber) dX10_putNumber_54 rfl ?_
          refine z_iload (M := M_X10_putNumber) dX10_putNumber_56 rfl ?_
          obtain ⟨hd_27, H⟩ := ck_e H
          refine z_idiv (M := M_X10_putNumber) dX10_putNumber_58 hd_27 ?_
          refine z_bipush (M := M_X10_putNumber) dX10_putNumber_59 (by decide +kernel) ?_
          refine z_irem (M := M_X10_putNumber) dX10_putNumber_61 (by decide +kernel) ?_
          refine z_iadd (M := M_X10_putNumber) dX10_putNumber_62 ?_
          obtain ⟨σ_29, hc_28, H⟩ := bd_e H
          refine z_callV (M := M_X10_putNumber) (M' := M_X10_put) (as := [vi (48 + (q_irm (q_idv (q_idv (q_abi units_0) (uNit (w32 (σ_10 kO_digits 0)))) step_13) 10))]) (rest := []) rfl rfl dX10_putNumber_63 m_X10_put t_1065 t_1067 s_36 (c_X10_put hl  hc_28) rfl rfl ly_173 rfl (Nat.le_of_ble_eq_true rfl) (Nat.le_of_ble_eq_true rfl) (Nat.le_of_ble_eq_true rfl) (Nat.le_of_ble_eq_true rfl) ?_
          refine z_st (st' := []) rfl ?_
          exact J_41 _ (Option.some.inj H).symm
        refine z_iload (M := M_X10_putNumber) dX10_putNumber_38 rfl ?_
        refine z_iload (M := M_X10_putNumber) dX10_putNumber_40 rfl ?_
        by_cases h_35 : (w32 step_13) ≤ (w32 (q_idv (q_abi units_0) (uNit (w32 (σ_10 kO_digits 0)))))
        · refine z_icmp_ge_t (M := M_X10_putNumber) (tgt := 51) dX10_putNumber_42 (by decide) rfl rfl h_35 ?_
          exact J_33
        · refine z_icmp_ge_f (M := M_X10_putNumber) (tgt := 51) dX10_putNumber_42 (by decide) rfl rfl (Int.not_le.mp h_35) ?_
          refine z_iload (M := M_X10_putNumber) dX10_putNumber_45 rfl ?_
          refine z_iconst (M := M_X10_putNumber) dX10_putNumber_47 ?_
          by_cases h_36 : (w32 step_13) = 1
          · refine z_icmp_ne_f (M := M_X10_putNumber) (tgt := 66) dX10_putNumber_48 (by decide) rfl (by decide +kernel) h_36 ?_
            exact J_33
          · refine z_icmp_ne_t (M := M_X10_putNumber) (tgt := 66) dX10_putNumber_48 (by decide) rfl (by decide +kernel) h_36 ?_
            exact absurd h_32 (fun q => q.elim h_35 h_36)
      · have J_34 : YY l E M_X10_putNumber 2 0 0 (pS (none) σ') 66 [some (vr 173), some (vi units_0), some (vi (q_abi units_0)), some (vi (uNit (w32 (σ_10 kO_digits 0)))), some (vi (q_idv (q_abi units_0) (uNit (w32 (σ_10 kO_digits 0))))), some (vi step_13), none] [] σ_14 0 0 := by
          exact J_41 _ (Option.some.inj H).symm
        refine z_iload (M := M_X10_putNumber) dX10_putNumber_38 rfl ?_
        refine z_iload (M := M_X10_putNumber) dX10_putNumber_40 rfl ?_
        by_cases h_37 : (w32 step_13) ≤ (w32 (q_idv (q_abi units_0) (uNit (w32 (σ_10 kO_digits 0)))))
        · refine z_icmp_ge_t (M := M_X10_putNumber) (tgt := 51) dX10_putNumber_42 (by decide) rfl rfl h_37 ?_
          exact absurd (Or.inl h_37) h_32
        · refine z_icmp_ge_f (M := M_X10_putNumber) (tgt := 51) dX10_putNumber_42 (by decide) rfl rfl (Int.not_le.mp h_37) ?_
          refine z_iload (M := M_X10_putNumber) dX10_putNumber_45 rfl ?_
          refine z_iconst (M := M_X10_putNumber) dX10_putNumber_47 ?_
          by_cases h_38 : (w32 step_13) = 1
          · refine z_icmp_ne_f (M := M_X10_putNumber) (tgt := 66) dX10_putNumber_48 (by decide) rfl (by decide +kernel) h_38 ?_
            exact absurd (Or.inr h_38) h_32
          · refine z_icmp_ne_t (M := M_X10_putNumber) (tgt := 66) dX10_putNumber_48 (by decide) rfl (by decide +kernel) h_38 ?_
            exact J_34
    · refine z_if_le_t (M := M_X10_putNumber) (tgt := 76) dX10_putNumber_35 (by decide) rfl (Int.not_lt.mp h_22) ?_
      exact J_84 _ _ (K_21 _ (Option.some.inj H).symm).symm
  have H := he_1
  refine z_iload_n (M := M_X10_putNumber) dX10_putNumber_0 rfl ?_
  rcases if_e H with ⟨h_5, H⟩ | ⟨h_5, H⟩
  · refine z_if_ge_f (M := M_X10_putNumber) (tgt := 10) dX10_putNumber_1 (by decide) rfl h_5 ?_
    refine z_aload_n (M := M_X10_putNumber) dX10_putNumber_4 rfl ?_
    refine z_bipush (M := M_X10_putNumber) dX10_putNumber_5 (by decide +kernel) ?_
    obtain ⟨σ_7, hc_6, H⟩ := bd_e H
    refine z_callV (M := M_X10_putNumber) (M' := M_X10_put) (as := [vi 45]) (rest := []) rfl rfl dX10_putNumber_7 m_X10_put t_1065 t_1067 s_36 (c_X10_put hl  hc_6) rfl rfl ly_173 rfl (Nat.le_of_ble_eq_true rfl) (Nat.le_of_ble_eq_true rfl) (Nat.le_of_ble_eq_true rfl) (Nat.le_of_ble_eq_true rfl) ?_
    refine z_st (st' := []) rfl ?_
    exact J_85 _ (Option.some.inj H).symm
  · refine z_if_ge_t (M := M_X10_putNumber) (tgt := 10) dX10_putNumber_1 (by decide) rfl (Int.not_lt.mp h_5) ?_
    exact J_85 _ (Option.some.inj H).symm
theorem c_X10_putCoordinates (hl : l.stackTraces = false) {σ : SG} {shape_0 : Nat} {from_0 : Int} {length_0 : Int} {σ' : SG} (h_shape : isS shape_0) (H : fO_putCoordinates σ shape_0 from_0 length_0 = some σ') : en_S l E M_X10_putCoordinates 7 0 0 [vr 173, vr shape_0, vi from_0, vi length_0] σ (pS (none) σ') := by
  unfold fO_putCoordinates at H
  refine z_mk (lv := [some (vr 173), some (vr shape_0), some (vi from_0), some (vi length_0), none]) m_X10_putCoordinates rfl hl (Nat.le_of_ble_eq_true rfl) rfl ?_
  refine z_aload_n (M := M_X10_putCoordinates) dX10_putCoordinates_0 rfl ?_
  refine z_bipush (M := M_X10_putCoordinates) dX10_putCoordinates_1 (by decide +kernel) ?_
  obtain ⟨σ_2, hc_1, H⟩ := bd_e H
  refine z_callV (M := M_X10_putCoordinates) (M' := M_X10_put) (as := [vi 40]) (rest := []) rfl rfl dX10_putCoordinates_3 m_X10_put t_1065 t_1067 s_36 (c_X10_put hl  hc_1) rfl rfl ly_173 rfl (Nat.le_of_ble_eq_true rfl) (Nat.le_of_ble_eq_true rfl) (Nat.le_of_ble_eq_true rfl) (Nat.le_of_ble_eq_true rfl) ?_
  refine z_st (st' := []) rfl ?_
  refine z_iconst (M := M_X10_putCoordinates) dX10_putCoordinates_6 ?_
  refine z_istore (M := M_X10_putCoordinates) (lv' := [some (vr 173), some (vr shape_0), some (vi from_0), some (vi length_0), some (vi 0)]) dX10_putCoordinates_7 (Nat.le_of_ble_eq_true rfl) rfl rfl ?_
  obtain ⟨rl_8, hw_5, hk_6⟩ := bd_e H
  have J_40 : ∀ i_36 σ_37, rl_8 = (i_36, σ_37) → YY l E M_X10_putCoordinates 7 0 0 (pS (none) σ') 64 [some (vr 173), some (vr shape_0), some (vi from_0), some (vi length_0), some (vi i_36)] [] σ_37 0 0 := by
    intro i_36 σ_37 e
    have H := hk_6
    rw [e] at H
    refine z_aload_n (M := M_X10_putCoordinates) dX10_putCoordinates_64 rfl ?_
    refine z_bipush (M := M_X10_putCoordinates) dX10_putCoordinates_65 (by decide +kernel) ?_
    obtain ⟨σ_39, hc_38, H⟩ := bd_e H
    refine z_callV (M := M_X10_putCoordinates) (M' := M_X10_put) (as := [vi 41]) (rest := []) rfl rfl dX10_putCoordinates_67 m_X10_put t_1065 t_1067 s_36 (c_X10_put hl  hc_38) rfl rfl ly_173 rfl (Nat.le_of_ble_eq_true rfl) (Nat.le_of_ble_eq_true rfl) (Nat.le_of_ble_eq_true rfl) (Nat.le_of_ble_eq_true rfl) ?_
    refine z_st (st' := []) rfl ?_
    cases H
    exact z_vret (M := M_X10_putCoordinates) dX10_putCoordinates_70 rfl (Nat.le_of_ble_eq_true rfl) (Nat.le_of_ble_eq_true rfl) ⟨rfl, rfl⟩
  refine whl_go hw_5 (fun (i_3, σ_4) => YY l E M_X10_putCoordinates 7 0 0 (pS (none) σ') 9 [some (vr 173), some (vr shape_0), some (vi from_0), some (vi length_0), some (vi i_3)] [] σ_4 0 0) ?_
  rintro ⟨i_3, σ_4⟩ o_9 H K_10 K_11
  refine z_iload (M := M_X10_putCoordinates) dX10_putCoordinates_9 rfl ?_
  refine z_iload_n (M := M_X10_putCoordinates) dX10_putCoordinates_11 rfl ?_
  rcases if_e H with ⟨h_12, H⟩ | ⟨h_12, H⟩
  · refine z_icmp_ge_f (M := M_X10_putCoordinates) (tgt := 64) dX10_putCoordinates_12 (by decide) rfl rfl h_12 ?_
    obtain ⟨v_16, he_13, hk_14⟩ := bd_e H
    have J_34 : ∀ σ_22, v_16 = σ_22 → YY l E M_X10_putCoordinates 7 0 0 (pS (none) σ') 26 [some (vr 173), some (vr shape_0), some (vi from_0), some (vi length_0), some (vi i_3)] [] σ_22 0 0 := by
      intro σ_22 e
      have H := hk_14
      rw [e] at H
      refine z_aload_n (M := M_X10_putCoordinates) dX10_putCoordinates_26 rfl ?_
      refine z_aload_n (M := M_X10_putCoordinates) dX10_putCoordinates_27 rfl ?_
      refine z_getR (M := M_X10_putCoordinates) (ci := 9) (C := RX6) (T := TX6) (Nf := 5) (ty := tyX6) cl9 dX10_putCoordinates_28 (ly_S h_shape) 1 (by decide) t_63 rfl ?_
      refine z_iload_n (M := M_X10_putCoordinates) dX10_putCoordinates_31 rfl ?_
      refine z_iload (M := M_X10_putCoordinates) dX10_putCoordinates_32 rfl ?_
      refine z_iadd (M := M_X10_putCoordinates) dX10_putCoordinates_34 ?_
      obtain ⟨x_23, x_23_e, hi_24, H⟩ := rd_e H
      refine z_iald (M := M_X10_putCoordinates) dX10_putCoordinates_35 (ly_Sx h_shape) rfl rfl rfl hi_24 x_23_e ?_
      obtain ⟨σ_26, hc_25, H⟩ := bd_e H
      refine z_callV (M := M_X10_putCoordinates) (M' := M_X10_putNumber) (as := [vi x_23]) (rest := []) rfl rfl dX10_putCoordinates_36 m_X10_putNumber t_1087 t_1089 s_39 (c_X10_putNumber hl  hc_25) rfl rfl ly_173 rfl (Nat.le_of_ble_eq_true rfl) (Nat.le_of_ble_eq_true rfl) (Nat.le_of_ble_eq_true rfl) (Nat.le_of_ble_eq_true rfl) ?_
      refine z_st (st' := []) rfl ?_
      refine z_aload_n (M := M_X10_putCoordinates) dX10_putCoordinates_39 rfl ?_
      refine z_bipush (M := M_X10_putCoordinates) dX10_putCoordinates_40 (by decide +kernel) ?_
      obtain ⟨σ_28, hc_27, H⟩ := bd_e H
      refine z_callV (M := M_X10_putCoordinates) (M' := M_X10_put) (as := [vi 32]) (rest := []) rfl rfl dX10_putCoordinates_42 m_X10_put t_1065 t_1067 s_36 (c_X10_put hl  hc_27) rfl rfl ly_173 rfl (Nat.le_of_ble_eq_true rfl) (Nat.le_of_ble_eq_true rfl) (Nat.le_of_ble_eq_true rfl) (Nat.le_of_ble_eq_true rfl) ?_
      refine z_st (st' := []) rfl ?_
      refine z_aload_n (M := M_X10_putCoordinates) dX10_putCoordinates_45 rfl ?_
      refine z_aload_n (M := M_X10_putCoordinates) dX10_putCoordinates_46 rfl ?_
      refine z_getR (M := M_X10_putCoordinates) (ci := 9) (C := RX6) (T := TX6) (Nf := 5) (ty := tyX6) cl9 dX10_putCoordinates_47 (ly_S h_shape) 2 (by decide) t_70 rfl ?_
      refine z_iload_n (M := M_X10_putCoordinates) dX10_putCoordinates_50 rfl ?_
      refine z_iload (M := M_X10_putCoordinates) dX10_putCoordinates_51 rfl ?_
      refine z_iadd (M := M_X10_putCoordinates) dX10_putCoordinates_53 ?_
      obtain ⟨x_29, x_29_e, hi_30, H⟩ := rd_e H
      refine z_iald (M := M_X10_putCoordinates) dX10_putCoordinates_54 (ly_Sy h_shape) rfl rfl rfl hi_30 x_29_e ?_
      obtain ⟨σ_32, hc_31, H⟩ := bd_e H
      refine z_callV (M := M_X10_putCoordinates) (M' := M_X10_putNumber) (as := [vi x_29]) (rest := []) rfl rfl dX10_putCoordinates_55 m_X10_putNumber t_1087 t_1089 s_39 (c_X10_putNumber hl  hc_31) rfl rfl ly_173 rfl (Nat.le_of_ble_eq_true rfl) (Nat.le_of_ble_eq_true rfl) (Nat.le_of_ble_eq_true rfl) (Nat.le_of_ble_eq_true rfl) ?_
      refine z_st (st' := []) rfl ?_
      refine z_iinc (M := M_X10_putCoordinates) (lv' := [some (vr 173), some (vr shape_0), some (vi from_0), some (vi length_0), some (vi (i_3 + 1))]) dX10_putCoordinates_58 rfl (Nat.le_of_ble_eq_true rfl) rfl rfl ?_
      refine z_goto (M := M_X10_putCoordinates) (tgt := 9) dX10_putCoordinates_61 (by decide) ?_
      exact K_10 _ (Option.some.inj H).symm
    have H := he_13
    refine z_iload (M := M_X10_putCoordinates) dX10_putCoordinates_15 rfl ?_
    rcases if_e H with ⟨h_17, H⟩ | ⟨h_17, H⟩
    · refine z_if_le_f (M := M_X10_putCoordinates) (tgt := 26) dX10_putCoordinates_17 (by decide) rfl h_17 ?_
      refine z_aload_n (M := M_X10_putCoordinates) dX10_putCoordinates_20 rfl ?_
      refine z_ldcS (M := M_X10_putCoordinates) (i := 8) (w := 9) (tx := ", ") dX10_putCoordinates_21 (by decide +kernel) (by decide) rfl ?_
      obtain ⟨σ_19, hc_18, H⟩ := bd_e H
      refine z_callV (M := M_X10_putCoordinates) (M' := M_X10_putText) (as := [vr 9]) (rest := []) rfl rfl dX10_putCoordinates_23 m_X10_putText t_1059 t_1061 s_35 (c_X10_putText hl (by decide) hc_18) rfl rfl ly_173 rfl (Nat.le_of_ble_eq_true rfl) (Nat.le_of_ble_eq_true rfl) (Nat.le_of_ble_eq_true rfl) (Nat.le_of_ble_eq_true rfl) ?_
      refine z_st (st' := []) rfl ?_
      exact J_34 _ (Option.some.inj H).symm
    · refine z_if_le_t (M := M_X10_putCoordinates) (tgt := 26) dX10_putCoordinates_17 (by decide) rfl (Int.not_lt.mp h_17) ?_
      exact J_34 _ (Option.some.inj H).symm
  · refine z_icmp_ge_t (M := M_X10_putCoordinates) (tgt := 64) dX10_putCoordinates_12 (by decide) rfl rfl (Int.not_lt.mp h_12) ?_
    exact J_40 _ _ (K_11 _ (Option.some.inj H).symm).symm
theorem c_X10_putRows (hl : l.stackTraces = false) {σ : SG} {shape_0 : Nat} {at_0 : Int} {from_0 : Int} {σ' : SG} (h_shape : isS shape_0) (H : fO_putRows σ shape_0 at_0 from_0 = some σ') : en_S l E M_X10_putRows 8 0 0 [vr 173, vr shape_0, vi at_0, vi from_0] σ (pS (none) σ') := by
  unfold fO_putRows at H
  refine z_mk (lv := [some (vr 173), some (vr shape_0), some (vi at_0), some (vi from_0), none, none, none, none]) m_X10_putRows rfl hl (Nat.le_of_ble_eq_true rfl) rfl ?_
  refine z_aload_n (M := M_X10_putRows) dX10_putRows_0 rfl ?_
  refine z_getR (M := M_X10_putRows) (ci := 9) (C := RX6) (T := TX6) (Nf := 5) (ty := tyX6) cl9 dX10_putRows_1 (ly_S h_shape) 0 (by decide) t_52 rfl ?_
  refine z_iload_n (M := M_X10_putRows) dX10_putRows_4 rfl ?_
  refine z_iconst (M := M_X10_putRows) dX10_putRows_5 ?_
  refine z_iadd (M := M_X10_putRows) dX10_putRows_6 ?_
  obtain ⟨x_1, x_1_e, hi_2, H⟩ := rd_e H
  refine z_iald (M := M_X10_putRows) dX10_putRows_7 (ly_Sp h_shape) rfl rfl rfl hi_2 x_1_e ?_
  rcases if_e H with ⟨h_3, H⟩ | ⟨h_3, H⟩
  · refine z_if_ne_f (M := M_X10_putRows) (tgt := 18) dX10_putRows_8 (by decide) rfl h_3 ?_
    refine z_aload_n (M := M_X10_putRows) dX10_putRows_11 rfl ?_
    refine z_ldcS (M := M_X10_putRows) (i := 7) (w := 8) (tx := "EMPTY") dX10_putRows_12 (by decide +kernel) (by decide) rfl ?_
    obtain ⟨σ_5, hc_4, H⟩ := bd_e H
    refine z_callV (M := M_X10_putRows) (M' := M_X10_putText) (as := [vr 8]) (rest := []) rfl rfl dX10_putRows_14 m_X10_putText t_1059 t_1061 s_35 (c_X10_putText hl (by decide) hc_4) rfl rfl ly_173 rfl (Nat.le_of_ble_eq_true rfl) (Nat.le_of_ble_eq_true rfl) (Nat.le_of_ble_eq_true rfl) (Nat.le_of_ble_eq_true rfl) ?_
    refine z_st (st' := []) rfl ?_
    cases H
    exact z_vret (M := M_X10_putRows) dX10_putRows_17 rfl (Nat.le_of_ble_eq_true rfl) (Nat.le_of_ble_eq_true rfl) ⟨rfl, rfl⟩
  · refine z_if_ne_t (M := M_X10_putRows) (tgt := 18) dX10_putRows_8 (by decide) rfl h_3 ?_
    obtain ⟨v_68, he_69, hk_70⟩ := bd_e H
    have J_71 : ∀ x_11, v_68 = x_11 → YY l E M_X10_putRows 8 0 0 (pS (none) σ') 33 [some (vr 173), some (vr shape_0), some (vi at_0), some (vi from_0), none, none, none, none] [zv x_11] σ 0 0 := by
      intro x_11 e
      have H := hk_70
      rw [e] at H
      refine z_zstore (M := M_X10_putRows) (lv' := [some (vr 173), some (vr shape_0), some (vi at_0), some (vi from_0), some (zv x_11), none, none, none]) dX10_putRows_33 (Nat.le_of_ble_eq_true rfl) rfl rfl ?_
      obtain ⟨v_15, he_12, hk_13⟩ := bd_e H
      have J_67 : ∀ σ_21, v_15 = σ_21 → YY l E M_X10_putRows 8 0 0 (pS (none) σ') 46 [some (vr 173), some (vr shape_0), some (vi at_0), some (vi from_0), some (zv x_11), none, none, none] [] σ_21 0 0 := by
        intro σ_21 e
        have H := hk_13
        rw [e] at H
        refine z_iload_n (M := M_X10_putRows) dX10_putRows_46 rfl ?_
        refine z_istore (M := M_X10_putRows) (lv' := [some (vr 173), some (vr shape_0), some (vi at_0), some (vi from_0), some (zv x_11), some (vi from_0), none, none]) dX10_putRows_47 (Nat.le_of_ble_eq_true rfl) rfl rfl ?_
        refine z_iconst (M := M_X10_putRows) dX10_putRows_49 ?_
        refine z_istore (M := M_X10_putRows) (lv' := [some (vr 173), some (vr shape_0), some (vi at_0), some (vi from_0), some (zv x_11), some (vi from_0), some (vi 0), none]) dX10_putRows_50 (Nat.le_of_ble_eq_true rfl) rfl rfl ?_
        obtain ⟨rl_28, hw_25, hk_26⟩ := bd_e H
        have J_66 : ∀ start_52 row_53 σ_54, rl_28 = (start_52, row_53, σ_54) → YY l E M_X10_putRows 8 0 0 (pS (none) σ') 104 [some (vr 173), some (vr shape_0), some (vi at_0), some (vi from_0), some (zv x_11), some (vi start_52), some (vi row_53), none] [] σ_54 0 0 := by
          intro start_52 row_53 σ_54 e
          have H := hk_26
          rw [e] at H
          obtain ⟨v_58, he_55, hk_56⟩ := bd_e H
          have J_65 : ∀ σ_64, v_58 = σ_64 → YY l E M_X10_putRows 8 0 0 (pS (none) σ') 115 [some (vr 173), some (vr shape_0), some (vi at_0), some (vi from_0), some (zv x_11), some (vi start_52), none, none] [] σ_64 0 0 := by
            intro σ_64 e
            have H := hk_56
            rw [e] at H
            cases H
            exact z_vret (M := M_X10_putRows) dX10_putRows_115 rfl (Nat.le_of_ble_eq_true rfl) (Nat.le_of_ble_eq_true rfl) ⟨rfl, rfl⟩
          have H := he_55
          refine z_zload (M := M_X10_putRows) dX10_putRows_104 rfl ?_
          rcases if_e H with ⟨h_59, H⟩ | ⟨h_59, H⟩
          · refine z_zeq_f (M := M_X10_putRows) (tgt := 115) dX10_putRows_106 (by decide) h_59 ?_
            refine z_aload_n (M := M_X10_putRows) dX10_putRows_109 rfl ?_
            refine z_bipush (M := M_X10_putRows) dX10_putRows_110 (by decide +kernel) ?_
            obtain ⟨σ_61, hc_60, H⟩ := bd_e H
            refine z_callV (M := M_X10_putRows) (M' := M_X10_put) (as := [vi 41]) (rest := []) rfl rfl dX10_putRows_112 m_X10_put t_1065 t_1067 s_36 (c_X10_put hl  hc_60) rfl rfl ly_173 rfl (Nat.le_of_ble_eq_true rfl) (Nat.le_of_ble_eq_true rfl) (Nat.le_of_ble_eq_true rfl) (Nat.le_of_ble_eq_true rfl) ?_
            refine z_st (st' := []) rfl ?_
            refine z_le (lv' := [some (vr 173), some (vr shape_0), some (vi at_0), some (vi from_0), some (zv x_11), some (vi start_52), none, none]) ⟨Or.inr rfl, Or.inr rfl, Or.inr rfl, Or.inr rfl, Or.inr rfl, Or.inr rfl, Or.inl rfl, Or.inl rfl, trivial⟩ ?_
            exact J_65 _ (Option.some.inj H).symm
          · refine z_zeq_t (M := M_X10_putRows) (tgt := 115) dX10_putRows_106 (by decide) h_59 ?_
            refine z_le (lv' := [some (vr 173), some (vr shape_0), some (vi at_0), some (vi from_0), some (zv x_11), some (vi start_52), none, none]) ⟨Or.inr rfl, Or.inr rfl, Or.inr rfl, Or.inr rfl, Or.inr rfl, Or.inr rfl, Or.inl rfl, Or.inl rfl, trivial⟩ ?_
            exact J_65 _ (Option.some.inj H).symm
        refine whl_go hw_25 (fun (start_22, row_23, σ_24) => YY l E M_X10_putRows 8 0 0 (pS (none) σ') 52 [some (vr 173), some (vr shape_0), some (vi at_0), some (vi from_0), some (zv x_11), some (vi start_22), some (vi row_23), none] [] σ_24 0 0) ?_
        rintro ⟨start_22, row_23, σ_24⟩ o_29 H K_30 K_31
        refine z_iload (M := M_X10_putRows) dX10_putRows_52 rfl ?_
        refine z_aload_n (M := M_X10_putRows) dX10_putRows_54 rfl ?_
        refine z_iload_n (M := M_X10_putRows) dX10_putRows_55 rfl ?_
        obtain ⟨x_33, hc_32, H⟩ := bd_e H
        refine z_callV (M := M_X10_putRows) (M' := M_X6_rows) (as := [vi at_0]) (rest := [vi row_23]) rfl rfl dX10_putRows_56 m_X6_rows t_1074 t_1075 t_1076 (c_X6_rows hl h_shape hc_32) rfl rfl (ly_S h_shape) rfl (Nat.le_of_ble_eq_true rfl) (Nat.le_of_ble_eq_true rfl) (Nat.le_of_ble_eq_true rfl) (Nat.le_of_ble_eq_true rfl) ?_
        refine z_st (st' := [vi x_33, vi row_23]) rfl ?_
        rcases if_e H with ⟨h_34, H⟩ | ⟨h_34, H⟩
        · refine z_icmp_ge_f (M := M_X10_putRows) (tgt := 104) dX10_putRows_59 (by decide) rfl rfl h_34 ?_
          obtain ⟨v_38, he_35, hk_36⟩ := bd_e H
          have J_50 : ∀ σ_44, v_38 = σ_44 → YY l E M_X10_putRows 8 0 0 (pS (none) σ') 73 [some (vr 173), some (vr shape_0), some (vi at_0), some (vi from_0), some (zv x_11), some (vi start_22), some (vi row_23), none] [] σ_44 0 0 := by
            intro σ_44 e
            have H := hk_36
            rw [e] at H
            refine z_aload_n (M := M_X10_putRows) dX10_putRows_73 rfl ?_
            refine z_iload_n (M := M_X10_putRows) dX10_putRows_74 rfl ?_
            refine z_iload (M := M_X10_putRows) dX10_putRows_75 rfl ?_
            obtain ⟨x_46, hc_45, H⟩ := bd_e H
            refine z_callV (M := M_X10_putRows) (M' := M_X6_rowLength) (as := [vi at_0, vi row_23]) (rest := []) rfl rfl dX10_putRows_77 m_X6_rowLength t_1079 t_1080 t_1081 (c_X6_rowLength hl h_shape hc_45) rfl rfl (ly_S h_shape) rfl (Nat.le_of_ble_eq_true rfl) (Nat.le_of_ble_eq_true rfl) (Nat.le_of_ble_eq_true rfl) (Nat.le_of_ble_eq_true rfl) ?_
            refine z_st (st' := [vi x_46]) rfl ?_
            refine z_istore (M := M_X10_putRows) (lv' := [some (vr 173), some (vr shape_0), some (vi at_0), some (vi from_0), some (zv x_11), some (vi start_22), some (vi row_23), some (vi x_46)]) dX10_putRows_80 (Nat.le_of_ble_eq_true rfl) rfl rfl ?_
            refine z_aload_n (M := M_X10_putRows) dX10_putRows_82 rfl ?_
            refine z_aload_n (M := M_X10_putRows) dX10_putRows_83 rfl ?_
            refine z_iload (M := M_X10_putRows) dX10_putRows_84 rfl ?_
            refine z_iload (M := M_X10_putRows) dX10_putRows_86 rfl ?_
            obtain ⟨σ_48, hc_47, H⟩ := bd_e H
            refine z_callV (M := M_X10_putRows) (M' := M_X10_putCoordinates) (as := [vr shape_0, vi start_22, vi x_46]) (rest := []) rfl rfl dX10_putRows_88 m_X10_putCoordinates t_1083 t_1085 s_38 (c_X10_putCoordinates hl h_shape hc_47) rfl rfl ly_173 rfl (Nat.le_of_ble_eq_true rfl) (Nat.le_of_ble_eq_true rfl) (Nat.le_of_ble_eq_true rfl) (Nat.le_of_ble_eq_true rfl) ?_
            refine z_st (st' := []) rfl ?_
            refine z_iload (M := M_X10_putRows) dX10_putRows_91 rfl ?_
            refine z_iload (M := M_X10_putRows) dX10_putRows_93 rfl ?_
            refine z_iadd (M := M_X10_putRows) dX10_putRows_95 ?_
            refine z_istore (M := M_X10_putRows) (lv' := [some (vr 173), some (vr shape_0), some (vi at_0), some (vi from_0), some (zv x_11), some (vi (start_22 + x_46)), some (vi row_23), some (vi x_46)]) dX10_putRows_96 (Nat.le_of_ble_eq_true rfl) rfl rfl ?_
            refine z_iinc (M := M_X10_putRows) (lv' := [some (vr 173), some (vr shape_0), some (vi at_0), some (vi from_0), some (zv x_11), some (vi (start_22 + x_46)), some (vi (row_23 + 1)), some (vi x_46)]) dX10_putRows_98 rfl (Nat.le_of_ble_eq_true rfl) rfl rfl ?_
            refine z_goto (M := M_X10_putRows) (tgt := 52) dX10_putRows_101 (by decide) ?_
            refine z_le (lv' := [some (vr 173), some (vr shape_0), some (vi at_0), some (vi from_0), some (zv x_11), some (vi (start_22 + x_46)), some (vi (row_23 + 1)), none]) ⟨Or.inr rfl, Or.inr rfl, Or.inr rfl, Or.inr rfl, Or.inr rfl, Or.inr rfl, Or.inr rfl, Or.inl rfl, trivial⟩ ?_
            exact K_30 _ (Option.some.inj H).symm
          have H := he_35
          refine z_iload (M := M_X10_putRows) dX10_putRows_62 rfl ?_
          rcases if_e H with ⟨h_39, H⟩ | ⟨h_39, H⟩
          · refine z_if_le_f (M := M_X10_putRows) (tgt := 73) dX10_putRows_64 (by decide) rfl h_39 ?_
            refine z_aload_n (M := M_X10_putRows) dX10_putRows_67 rfl ?_
            refine z_ldcS (M := M_X10_putRows) (i := 8) (w := 9) (tx := ", ") dX10_putRows_68 (by decide +kernel) (by decide) rfl ?_
            obtain ⟨σ_41, hc_40, H⟩ := bd_e H
            refine z_callV (M := M_X10_putRows) (M' := M_X10_putText) (as := [vr 9]) (rest := []) rfl rfl dX10_putRows_70 m_X10_putText t_1059 t_1061 s_35 (c_X10_putText hl (by decide) hc_40) rfl rfl ly_173 rfl (Nat.le_of_ble_eq_true rfl) (Nat.le_of_ble_eq_true rfl) (Nat.le_of_ble_eq_true rfl) (Nat.le_of_ble_eq_true rfl) ?_
            refine z_st (st' := []) rfl ?_
            exact J_50 _ (Option.some.inj H).symm
          · refine z_if_le_t (M := M_X10_putRows) (tgt := 73) dX10_putRows_64 (by decide) rfl (Int.not_lt.mp h_39) ?_
            exact J_50 _ (Option.some.inj H).symm
        · refine z_icmp_ge_t (M := M_X10_putRows) (tgt := 104) dX10_putRows_59 (by decide) rfl rfl (Int.not_lt.mp h_34) ?_
          exact J_66 _ _ _ (K_31 _ (Option.some.inj H).symm).symm
      have H := he_12
      refine z_zload (M := M_X10_putRows) dX10_putRows_35 rfl ?_
      rcases if_e H with ⟨h_16, H⟩ | ⟨h_16, H⟩
      · refine z_zeq_f (M := M_X10_putRows) (tgt := 46) dX10_putRows_37 (by decide) h_16 ?_
        refine z_aload_n (M := M_X10_putRows) dX10_putRows_40 rfl ?_
        refine z_bipush (M := M_X10_putRows) dX10_putRows_41 (by decide +kernel) ?_
        obtain ⟨σ_18, hc_17, H⟩ := bd_e H
        refine z_callV (M := M_X10_putRows) (M' := M_X10_put) (as := [vi 40]) (rest := []) rfl rfl dX10_putRows_43 m_X10_put t_1065 t_1067 s_36 (c_X10_put hl  hc_17) rfl rfl ly_173 rfl (Nat.le_of_ble_eq_true rfl) (Nat.le_of_ble_eq_true rfl) (Nat.le_of_ble_eq_true rfl) (Nat.le_of_ble_eq_true rfl) ?_
        refine z_st (st' := []) rfl ?_
        exact J_67 _ (Option.some.inj H).symm
      · refine z_zeq_t (M := M_X10_putRows) (tgt := 46) dX10_putRows_37 (by decide) h_16 ?_
        exact J_67 _ (Option.some.inj H).symm
    have H := he_69
    refine z_aload_n (M := M_X10_putRows) dX10_putRows_18 rfl ?_
    refine z_getR (M := M_X10_putRows) (ci := 9) (C := RX6) (T := TX6) (Nf := 5) (ty := tyX6) cl9 dX10_putRows_19 (ly_S h_shape) 0 (by decide) t_52 rfl ?_
    refine z_iload_n (M := M_X10_putRows) dX10_putRows_22 rfl ?_
    obtain ⟨x_6, x_6_e, hi_7, H⟩ := rd_e H
    refine z_iald (M := M_X10_putRows) dX10_putRows_23 (ly_Sp h_shape) rfl rfl rfl hi_7 x_6_e ?_
    refine z_iconst (M := M_X10_putRows) dX10_putRows_24 ?_
    rcases if_e H with ⟨h_8, H⟩ | ⟨h_8, H⟩
    · refine z_icmp_ne_f (M := M_X10_putRows) (tgt := 32) dX10_putRows_25 (by decide) rfl (by decide +kernel) h_8 ?_
      refine z_zconst (M := M_X10_putRows) (b := true) dX10_putRows_28 rfl ?_
      refine z_goto (M := M_X10_putRows) (tgt := 33) dX10_putRows_29 (by decide) ?_
      exact J_71 _ (Option.some.inj H).symm
    · refine z_icmp_ne_t (M := M_X10_putRows) (tgt := 32) dX10_putRows_25 (by decide) rfl (by decide +kernel) h_8 ?_
      refine z_zconst (M := M_X10_putRows) (b := false) dX10_putRows_32 rfl ?_
      exact J_71 _ (Option.some.inj H).symm
theorem c_X10_tellInWords (hl : l.stackTraces = false) {σ : SG} {shape_0 : Nat} {r : Int} {σ' : SG} (h_shape : isS shape_0) (H : fO_tellInWords σ shape_0 = some (r, σ')) : en_S l E M_X10_tellInWords 9 0 0 [vr 173, vr shape_0] σ (pS (some (vi r)) σ') := by
  unfold fO_tellInWords at H
  refine z_mk (lv := [some (vr 173), some (vr shape_0), none, none, none, none, none]) m_X10_tellInWords rfl hl (Nat.le_of_ble_eq_true rfl) rfl ?_
  refine z_aload_n (M := M_X10_tellInWords) dX10_tellInWords_0 rfl ?_
  refine z_iconst (M := M_X10_tellInWords) dX10_tellInWords_1 ?_
  obtain ⟨σ_1, σ_1_e, H⟩ := wf_e H
  refine z_putI (M := M_X10_tellInWords) (ci := 13) (C := RX10) (T := TX10) (Nf := 6) (ty := tyX10) cl13 dX10_tellInWords_2 ly_173 5 (by decide) t_207 rfl rfl rfl rfl σ_1_e ?_
  refine z_iconst (M := M_X10_tellInWords) dX10_tellInWords_5 ?_
  refine z_istore_n (M := M_X10_tellInWords) (lv' := [some (vr 173), some (vr shape_0), some (vi 0), none, none, none, none]) dX10_tellInWords_6 (Nat.le_of_ble_eq_true rfl) rfl rfl ?_
  refine z_iconst (M := M_X10_tellInWords) dX10_tellInWords_7 ?_
  refine z_istore_n (M := M_X10_tellInWords) (lv' := [some (vr 173), some (vr shape_0), some (vi 0), some (vi 0), none, none, none]) dX10_tellInWords_8 (Nat.le_of_ble_eq_true rfl) rfl rfl ?_
  refine z_iconst (M := M_X10_tellInWords) dX10_tellInWords_9 ?_
  refine z_istore (M := M_X10_tellInWords) (lv' := [some (vr 173), some (vr shape_0), some (vi 0), some (vi 0), some (vi 0), none, none]) dX10_tellInWords_10 (Nat.le_of_ble_eq_true rfl) rfl rfl ?_
  obtain ⟨rl_9, hw_6, hk_7⟩ := bd_e H
  have J_87 : ∀ depth_83 from_84 at_85 σ_86, rl_9 = (depth_83, from_84, at_85, σ_86) → YY l E M_X10_tellInWords 9 0 0 (pS (some (vi r)) σ') 154 [some (vr 173), some (vr shape_0), some (vi depth_83), some (vi from_84), some (vi at_85), none, none] [] σ_86 0 0 := by
    intro depth_83 from_84 at_85 σ_86 e
    have H := hk_7
    rw [e] at H
    refine z_aload_n (M := M_X10_tellInWords) dX10_tellInWords_154 rfl ?_
    refine z_getI (M := M_X10_tellInWords) (ci := 13) (C := RX10) (T := TX10) (Nf := 6) (ty := tyX10) cl13 dX10_tellInWords_155 ly_173 5 (by decide) t_207 rfl rfl ?_
    cases H
    exact z_iret (M := M_X10_tellInWords) dX10_tellInWords_158 rfl (Nat.le_of_ble_eq_true rfl) (Nat.le_of_ble_eq_true rfl) ⟨rfl, rfl⟩
  refine whl_go hw_6 (fun (depth_2, from_3, at_4, σ_5) => YY l E M_X10_tellInWords 9 0 0 (pS (some (vi r)) σ') 12 [some (vr 173), some (vr shape_0), some (vi depth_2), some (vi from_3), some (vi at_4), none, none] [] σ_5 0 0) ?_
  rintro ⟨depth_2, from_3, at_4, σ_5⟩ o_10 H K_11 K_12
  refine z_iload (M := M_X10_tellInWords) dX10_tellInWords_12 rfl ?_
  refine z_iconst (M := M_X10_tellInWords) dX10_tellInWords_14 ?_
  refine z_iadd (M := M_X10_tellInWords) dX10_tellInWords_15 ?_
  refine z_aload_n (M := M_X10_tellInWords) dX10_tellInWords_16 rfl ?_
  refine z_getI (M := M_X10_tellInWords) (ci := 9) (C := RX6) (T := TX6) (Nf := 5) (ty := tyX6) cl9 dX10_tellInWords_17 (ly_S h_shape) 3 (by decide) t_75 rfl rfl ?_
  rcases if_e H with ⟨h_13, H⟩ | ⟨h_13, H⟩
  · refine z_icmp_ge_f (M := M_X10_tellInWords) (tgt := 154) dX10_tellInWords_20 (by decide) rfl rfl h_13 ?_
    refine z_aload_n (M := M_X10_tellInWords) dX10_tellInWords_23 rfl ?_
    refine z_getR (M := M_X10_tellInWords) (ci := 9) (C := RX6) (T := TX6) (Nf := 5) (ty := tyX6) cl9 dX10_tellInWords_24 (ly_S h_shape) 0 (by decide) t_52 rfl ?_
    refine z_iload (M := M_X10_tellInWords) dX10_tellInWords_27 rfl ?_
    obtain ⟨x_14, x_14_e, hi_15, H⟩ := rd_e H
    refine z_iald (M := M_X10_tellInWords) dX10_tellInWords_29 (ly_Sp h_shape) rfl rfl rfl hi_15 x_14_e ?_
    refine z_istore (M := M_X10_tellInWords) (lv' := [some (vr 173), some (vr shape_0), some (vi depth_2), some (vi from_3), some (vi at_4), some (vi x_14), none]) dX10_tellInWords_30 (Nat.le_of_ble_eq_true rfl) rfl rfl ?_
    refine z_aload_n (M := M_X10_tellInWords) dX10_tellInWords_32 rfl ?_
    refine z_getR (M := M_X10_tellInWords) (ci := 9) (C := RX6) (T := TX6) (Nf := 5) (ty := tyX6) cl9 dX10_tellInWords_33 (ly_S h_shape) 0 (by decide) t_52 rfl ?_
    refine z_iload (M := M_X10_tellInWords) dX10_tellInWords_36 rfl ?_
    refine z_iconst (M := M_X10_tellInWords) dX10_tellInWords_38 ?_
    refine z_iadd (M := M_X10_tellInWords) dX10_tellInWords_39 ?_
    obtain ⟨x_16, x_16_e, hi_17, H⟩ := rd_e H
    refine z_iald (M := M_X10_tellInWords) dX10_tellInWords_40 (ly_Sp h_shape) rfl rfl rfl hi_17 x_16_e ?_
    refine z_istore (M := M_X10_tellInWords) (lv' := [some (vr 173), some (vr shape_0), some (vi depth_2), some (vi from_3), some (vi at_4), some (vi x_14), some (vi x_16)]) dX10_tellInWords_41 (Nat.le_of_ble_eq_true rfl) rfl rfl ?_
    obtain ⟨v_21, he_18, hk_19⟩ := bd_e H
    have J_81 : ∀ σ_52, v_21 = σ_52 → YY l E M_X10_tellInWords 9 0 0 (pS (some (vi r)) σ') 75 [some (vr 173), some (vr shape_0), some (vi depth_2), some (vi from_3), some (vi at_4), some (vi x_14), some (vi x_16)] [] σ_52 0 0 := by
      intro σ_52 e
      have H := hk_19
      rw [e] at H
      rcases if_e H with ⟨h_72, H⟩ | ⟨h_72, H⟩
      · have J_73 : YY l E M_X10_tellInWords 9 0 0 (pS (some (vi r)) σ') 92 [some (vr 173), some (vr shape_0), some (vi depth_2), some (vi from_3), some (vi at_4), some (vi x_14), some (vi x_16)] [] σ_52 0 0 := by
          refine z_aload_n (M := M_X10_tellInWords) dX10_tellInWords_92 rfl ?_
          refine z_bipush (M := M_X10_tellInWords) dX10_tellInWords_93 (by decide +kernel) ?_
          obtain ⟨σ_54, hc_53, H⟩ := bd_e H
          refine z_callV (M := M_X10_tellInWords) (M' := M_X10_put) (as := [vi 40]) (rest := []) rfl rfl dX10_tellInWords_95 m_X10_put t_1065 t_1067 s_36 (c_X10_put hl  hc_53) rfl rfl ly_173 rfl (Nat.le_of_ble_eq_true rfl) (Nat.le_of_ble_eq_true rfl) (Nat.le_of_ble_eq_true rfl) (Nat.le_of_ble_eq_true rfl) ?_
          refine z_st (st' := []) rfl ?_
          refine z_aload_n (M := M_X10_tellInWords) dX10_tellInWords_98 rfl ?_
          refine z_getR (M := M_X10_tellInWords) (ci := 13) (C := RX10) (T := TX10) (Nf := 6) (ty := tyX10) cl13 dX10_tellInWords_99 ly_173 1 (by decide) t_202 rfl ?_
          refine z_iload_n (M := M_X10_tellInWords) dX10_tellInWords_102 rfl ?_
          refine z_iload (M := M_X10_tellInWords) dX10_tellInWords_103 rfl ?_
          obtain ⟨σ_55, σ_55_e, hi_56, H⟩ := wa_e H
          refine z_iast (M := M_X10_tellInWords) dX10_tellInWords_105 ly_174 rfl rfl rfl hi_56 σ_55_e ?_
          refine z_aload_n (M := M_X10_tellInWords) dX10_tellInWords_106 rfl ?_
          refine z_getR (M := M_X10_tellInWords) (ci := 13) (C := RX10) (T := TX10) (Nf := 6) (ty := tyX10) cl13 dX10_tellInWords_107 ly_173 2 (by decide) t_203 rfl ?_
          refine z_iload_n (M := M_X10_tellInWords) dX10_tellInWords_110 rfl ?_
          refine z_iload (M := M_X10_tellInWords) dX10_tellInWords_111 rfl ?_
          obtain ⟨σ_57, σ_57_e, hi_58, H⟩ := wa_e H
          refine z_iast (M := M_X10_tellInWords) dX10_tellInWords_113 ly_175 rfl rfl rfl hi_58 σ_57_e ?_
          refine z_iinc (M := M_X10_tellInWords) (lv' := [some (vr 173), some (vr shape_0), some (vi (depth_2 + 1)), some (vi from_3), some (vi at_4), some (vi x_14), some (vi x_16)]) dX10_tellInWords_114 rfl (Nat.le_of_ble_eq_true rfl) rfl rfl ?_
          refine z_goto (M := M_X10_tellInWords) (tgt := 143) dX10_tellInWords_117 (by decide) ?_
          refine z_aload_n (M := M_X10_tellInWords) dX10_tellInWords_143 rfl ?_
          refine z_iload (M := M_X10_tellInWords) dX10_tellInWords_144 rfl ?_
          obtain ⟨x_60, hc_59, H⟩ := bd_e H
          refine z_callV (M := M_X10_tellInWords) (M' := M_X6_behind) (as := [vi at_4]) (rest := []) rfl rfl dX10_tellInWords_146 m_X6_behind t_1106 t_1107 t_1108 (c_X6_behind hl h_shape hc_59) rfl rfl (ly_S h_shape) rfl (Nat.le_of_ble_eq_true rfl) (Nat.le_of_ble_eq_true rfl) (Nat.le_of_ble_eq_true rfl) (Nat.le_of_ble_eq_true rfl) ?_
          refine z_st (st' := [vi x_60]) rfl ?_
          refine z_istore (M := M_X10_tellInWords) (lv' := [some (vr 173), some (vr shape_0), some (vi (depth_2 + 1)), some (vi from_3), some (vi x_60), some (vi x_14), some (vi x_16)]) dX10_tellInWords_149 (Nat.le_of_ble_eq_true rfl) rfl rfl ?_
          refine z_goto (M := M_X10_tellInWords) (tgt := 12) dX10_tellInWords_151 (by decide) ?_
          refine z_le (lv' := [some (vr 173), some (vr shape_0), some (vi (depth_2 + 1)), some (vi from_3), some (vi x_60), none, none]) ⟨Or.inr rfl, Or.inr rfl, Or.inr rfl, Or.inr rfl, Or.inr rfl, Or.inl rfl, Or.inl rfl, trivial⟩ ?_
          exact K_11 _ (Option.some.inj H).symm
        refine z_iload (M := M_X10_tellInWords) dX10_tellInWords_75 rfl ?_
        by_cases h_75 : 0 < (w32 x_16)
        · refine z_if_le_f (M := M_X10_tellInWords) (tgt := 120) dX10_tellInWords_77 (by decide) rfl h_75 ?_
          refine z_iload (M := M_X10_tellInWords) dX10_tellInWords_80 rfl ?_
          refine z_iconst (M := M_X10_tellInWords) dX10_tellInWords_82 ?_
          by_cases h_76 : 3 < (w32 x_14)
          · refine z_icmp_le_f (M := M_X10_tellInWords) (tgt := 120) dX10_tellInWords_83 (by decide) rfl (by decide +kernel) h_76 ?_
            refine z_iload_n (M := M_X10_tellInWords) dX10_tellInWords_86 rfl ?_
            refine z_bipush (M := M_X10_tellInWords) dX10_tellInWords_87 (by decide +kernel) ?_
            by_cases h_77 : (w32 depth_2) < 64
            · refine z_icmp_ge_f (M := M_X10_tellInWords) (tgt := 120) dX10_tellInWords_89 (by decide) rfl (by decide +kernel) h_77 ?_
              exact J_73
            · refine z_icmp_ge_t (M := M_X10_tellInWords) (tgt := 120) dX10_tellInWords_89 (by decide) rfl (by decide +kernel) (Int.not_lt.mp h_77) ?_
              exact absurd h_72 (fun q => h_77 q.2)
          · refine z_icmp_le_t (M := M_X10_tellInWords) (tgt := 120) dX10_tellInWords_83 (by decide) rfl (by decide +kernel) (Int.not_lt.mp h_76) ?_
            exact absurd h_72 (fun q => (fun q => h_76 q.2) q.1)
        · refine z_if_le_t (M := M_X10_tellInWords) (tgt := 120) dX10_tellInWords_77 (by decide) rfl (Int.not_lt.mp h_75) ?_
          exact absurd h_72 (fun q => (fun q => h_75 q.1) q.1)
      · have J_74 : YY l E M_X10_tellInWords 9 0 0 (pS (some (vi r)) σ') 120 [some (vr 173), some (vr shape_0), some (vi depth_2), some (vi from_3), some (vi at_4), some (vi x_14), some (vi x_16)] [] σ_52 0 0 := by
          refine z_aload_n (M := M_X10_tellInWords) dX10_tellInWords_120 rfl ?_
          refine z_aload_n (M := M_X10_tellInWords) dX10_tellInWords_121 rfl ?_
          refine z_iload (M := M_X10_tellInWords) dX10_tellInWords_122 rfl ?_
          refine z_iload_n (M := M_X10_tellInWords) dX10_tellInWords_124 rfl ?_
          obtain ⟨σ_63, hc_62, H⟩ := bd_e H
          refine z_callV (M := M_X10_tellInWords) (M' := M_X10_putRows) (as := [vr shape_0, vi at_4, vi from_3]) (rest := []) rfl rfl dX10_tellInWords_125 m_X10_putRows t_1069 t_1071 s_37 (c_X10_putRows hl h_shape hc_62) rfl rfl ly_173 rfl (Nat.le_of_ble_eq_true rfl) (Nat.le_of_ble_eq_true rfl) (Nat.le_of_ble_eq_true rfl) (Nat.le_of_ble_eq_true rfl) ?_
          refine z_st (st' := []) rfl ?_
          refine z_iload_n (M := M_X10_tellInWords) dX10_tellInWords_128 rfl ?_
          refine z_aload_n (M := M_X10_tellInWords) dX10_tellInWords_129 rfl ?_
          refine z_iload (M := M_X10_tellInWords) dX10_tellInWords_130 rfl ?_
          obtain ⟨x_65, hc_64, H⟩ := bd_e H
          refine z_callV (M := M_X10_tellInWords) (M' := M_X6_pointsAt) (as := [vi at_4]) (rest := [vi from_3]) rfl rfl dX10_tellInWords_132 m_X6_pointsAt t_1096 t_1097 t_1098 (c_X6_pointsAt hl h_shape hc_64) rfl rfl (ly_S h_shape) rfl (Nat.le_of_ble_eq_true rfl) (Nat.le_of_ble_eq_true rfl) (Nat.le_of_ble_eq_true rfl) (Nat.le_of_ble_eq_true rfl) ?_
          refine z_st (st' := [vi x_65, vi from_3]) rfl ?_
          refine z_iadd (M := M_X10_tellInWords) dX10_tellInWords_135 ?_
          refine z_istore_n (M := M_X10_tellInWords) (lv' := [some (vr 173), some (vr shape_0), some (vi depth_2), some (vi (from_3 + x_65)), some (vi at_4), some (vi x_14), some (vi x_16)]) dX10_tellInWords_136 (Nat.le_of_ble_eq_true rfl) rfl rfl ?_
          refine z_aload_n (M := M_X10_tellInWords) dX10_tellInWords_137 rfl ?_
          refine z_iload_n (M := M_X10_tellInWords) dX10_tellInWords_138 rfl ?_
          obtain ⟨⟨x_68, σ_67⟩, hc_66, H⟩ := bd_e H
          refine z_callV (M := M_X10_tellInWords) (M' := M_X10_closeLevels) (as := [vi depth_2]) (rest := []) rfl rfl dX10_tellInWords_139 m_X10_closeLevels t_1102 t_1104 s_40 (c_X10_closeLevels hl  hc_66) rfl rfl ly_173 rfl (Nat.le_of_ble_eq_true rfl) (Nat.le_of_ble_eq_true rfl) (Nat.le_of_ble_eq_true rfl) (Nat.le_of_ble_eq_true rfl) ?_
          refine z_st (st' := [vi x_68]) rfl ?_
          refine z_istore_n (M := M_X10_tellInWords) (lv' := [some (vr 173), some (vr shape_0), some (vi x_68), some (vi (from_3 + x_65)), some (vi at_4), some (vi x_14), some (vi x_16)]) dX10_tellInWords_142 (Nat.le_of_ble_eq_true rfl) rfl rfl ?_
          refine z_aload_n (M := M_X10_tellInWords) dX10_tellInWords_143 rfl ?_
          refine z_iload (M := M_X10_tellInWords) dX10_tellInWords_144 rfl ?_
          obtain ⟨x_70, hc_69, H⟩ := bd_e H
          refine z_callV (M := M_X10_tellInWords) (M' := M_X6_behind) (as := [vi at_4]) (rest := []) rfl rfl dX10_tellInWords_146 m_X6_behind t_1106 t_1107 t_1108 (c_X6_behind hl h_shape hc_69) rfl rfl (ly_S h_shape) rfl (Nat.le_of_ble_eq_true rfl) (Nat.le_of_ble_eq_true rfl) (Nat.le_of_ble_eq_true rfl) (Nat.le_of_ble_eq_true rfl) ?_
          refine z_st (st' := [vi x_70]) rfl ?_
          refine z_istore (M := M_X10_tellInWords) (lv' := [some (vr 173), some (vr shape_0), some (vi x_68), some (vi (from_3 + x_65)), some (vi x_70), some (vi x_14), some (vi x_16)]) dX10_tellInWords_149 (Nat.le_of_ble_eq_true rfl) rfl rfl ?_
          refine z_goto (M := M_X10_tellInWords) (tgt := 12) dX10_tellInWords_151 (by decide) ?_
          refine z_le (lv' := [some (vr 173), some (vr shape_0), some (vi x_68), some (vi (from_3 + x_65)), some (vi x_70), none, none]) ⟨Or.inr rfl, Or.inr rfl, Or.inr rfl, Or.inr rfl, Or.inr rfl, Or.inl rfl, Or.inl rfl, trivial⟩ ?_
          exact K_11 _ (Option.some.inj H).symm
        refine z_iload (M := M_X10_tellInWords) dX10_tellInWords_75 rfl ?_
        by_cases h_78 : 0 < (w32 x_16)
        · refine z_if_le_f (M := M_X10_tellInWords) (tgt := 120) dX10_tellInWords_77 (by decide) rfl h_78 ?_
          refine z_iload (M := M_X10_tellInWords) dX10_tellInWords_80 rfl ?_
          refine z_iconst (M := M_X10_tellInWords) dX10_tellInWords_82 ?_
          by_cases h_79 : 3 < (w32 x_14)
          · refine z_icmp_le_f (M := M_X10_tellInWords) (tgt := 120) dX10_tellInWords_83 (by decide) rfl (by decide +kernel) h_79 ?_
            refine z_iload_n (M := M_X10_tellInWords) dX10_tellInWords_86 rfl ?_
            refine z_bipush (M := M_X10_tellInWords) dX10_tellInWords_87 (by decide +kernel) ?_
            by_cases h_80 : (w32 depth_2) < 64
            · refine z_icmp_ge_f (M := M_X10_tellInWords) (tgt := 120) dX10_tellInWords_89 (by decide) rfl (by decide +kernel) h_80 ?_
              exact absurd ⟨⟨h_78, h_79⟩, h_80⟩ h_72
            · refine z_icmp_ge_t (M := M_X10_tellInWords) (tgt := 120) dX10_tellInWords_89 (by decide) rfl (by decide +kernel) (Int.not_lt.mp h_80) ?_
              exact J_74
          · refine z_icmp_le_t (M := M_X10_tellInWords) (tgt := 120) dX10_tellInWords_83 (by decide) rfl (by decide +kernel) (Int.not_lt.mp h_79) ?_
            exact J_74
        · refine z_if_le_t (M := M_X10_tellInWords) (tgt := 120) dX10_tellInWords_77 (by decide) rfl (Int.not_lt.mp h_78) ?_
          exact J_74
    have H := he_18
    refine z_iload_n (M := M_X10_tellInWords) dX10_tellInWords_43 rfl ?_
    rcases if_e H with ⟨h_35, H⟩ | ⟨h_35, H⟩
    · refine z_if_eq_t (M := M_X10_tellInWords) (tgt := 60) dX10_tellInWords_44 (by decide) rfl h_35 ?_
      refine z_aload_n (M := M_X10_tellInWords) dX10_tellInWords_60 rfl ?_
      refine z_iload (M := M_X10_tellInWords) dX10_tellInWords_61 rfl ?_
      obtain ⟨hs_36, H⟩ := ck_e H
      refine z_callS (M := M_X10_tellInWords) (M' := M_X10_wordFor) (as := [vi x_14]) (rest := [vr 173]) rfl rfl dX10_tellInWords_63 m_X10_wordFor t_1058 t_806 (c_X10_wordFor hl  rfl) rfl rfl (Nat.le_of_ble_eq_true rfl) (Nat.le_of_ble_eq_true rfl) (Nat.le_of_ble_eq_true rfl) (Nat.le_of_ble_eq_true rfl) ?_
      refine z_st (st' := [vr (fO_wordFor x_14), vr 173]) rfl ?_
      obtain ⟨σ_38, hc_37, H⟩ := bd_e H
      refine z_callV (M := M_X10_tellInWords) (M' := M_X10_putText) (as := [vr (fO_wordFor x_14)]) (rest := []) rfl rfl dX10_tellInWords_66 m_X10_putText t_1059 t_1061 s_35 (c_X10_putText hl hs_36 hc_37) rfl rfl ly_173 rfl (Nat.le_of_ble_eq_true rfl) (Nat.le_of_ble_eq_true rfl) (Nat.le_of_ble_eq_true rfl) (Nat.le_of_ble_eq_true rfl) ?_
      refine z_st (st' := []) rfl ?_
      refine z_aload_n (M := M_X10_tellInWords) dX10_tellInWords_69 rfl ?_
      refine z_bipush (M := M_X10_tellInWords) dX10_tellInWords_70 (by decide +kernel) ?_
      obtain ⟨σ_40, hc_39, H⟩ := bd_e H
      refine z_callV (M := M_X10_tellInWords) (M' := M_X10_put) (as := [vi 32]) (rest := []) rfl rfl dX10_tellInWords_72 m_X10_put t_1065 t_1067 s_36 (c_X10_put hl  hc_39) rfl rfl ly_173 rfl (Nat.le_of_ble_eq_true rfl) (Nat.le_of_ble_eq_true rfl) (Nat.le_of_ble_eq_true rfl) (Nat.le_of_ble_eq_true rfl) ?_
      refine z_st (st' := []) rfl ?_
      exact J_81 _ (Option.some.inj H).symm
    · refine z_if_eq_f (M := M_X10_tellInWords) (tgt := 60) dX10_tellInWords_44 (by decide) rfl h_35 ?_
      refine z_aload_n (M := M_X10_tellInWords) dX10_tellInWords_47 rfl ?_
      refine z_getR (M := M_X10_tellInWords) (ci := 13) (C := RX10) (T := TX10) (Nf := 6) (ty := tyX10) cl13 dX10_tellInWords_48 ly_173 1 (by decide) t_202 rfl ?_
      refine z_iload_n (M := M_X10_tellInWords) dX10_tellInWords_51 rfl ?_
      refine z_iconst (M := M_X10_tellInWords) dX10_tellInWords_52 ?_
      refine z_isub (M := M_X10_tellInWords) dX10_tellInWords_53 ?_
      obtain ⟨x_42, x_42_e, hi_43, H⟩ := rd_e H
      refine z_iald (M := M_X10_tellInWords) dX10_tellInWords_54 ly_174 rfl rfl rfl hi_43 x_42_e ?_
      refine z_bipush (M := M_X10_tellInWords) dX10_tellInWords_55 (by decide +kernel) ?_
      rcases if_e H with ⟨h_44, H⟩ | ⟨h_44, H⟩
      · refine z_icmp_ne_f (M := M_X10_tellInWords) (tgt := 75) dX10_tellInWords_57 (by decide) rfl (by decide +kernel) h_44 ?_
        refine z_aload_n (M := M_X10_tellInWords) dX10_tellInWords_60 rfl ?_
        refine z_iload (M := M_X10_tellInWords) dX10_tellInWords_61 rfl ?_
        obtain ⟨hs_45, H⟩ := ck_e H
        refine z_callS (M := M_X10_tellInWords) (M' := M_X10_wordFor) (as := [vi x_14]) (rest := [vr 173]) rfl rfl dX10_tellInWords_63 m_X10_wordFor t_1058 t_806 (c_X10_wordFor hl  rfl) rfl rfl (Nat.le_of_ble_eq_true rfl) (Nat.le_of_ble_eq_true rfl) (Nat.le_of_ble_eq_true rfl) (Nat.le_of_ble_eq_true rfl) ?_
        refine z_st (st' := [vr (fO_wordFor x_14), vr 173]) rfl ?_
        obtain ⟨σ_47, hc_46, H⟩ := bd_e H
        refine z_callV (M := M_X10_tellInWords) (M' := M_X10_putText) (as := [vr (fO_wordFor x_14)]) (rest := []) rfl rfl dX10_tellInWords_66 m_X10_putText t_1059 t_1061 s_35 (c_X10_putText hl hs_45 hc_46) rfl rfl ly_173 rfl (Nat.le_of_ble_eq_true rfl) (Nat.le_of_ble_eq_true rfl) (Nat.le_of_ble_eq_true rfl) (Nat.le_of_ble_eq_true rfl) ?_
        refine z_st (st' := []) rfl ?_
        refine z_aload_n (M := M_X10_tellInWords) dX10_tellInWords_69 rfl ?_
        refine z_bipush (M := M_X10_tellInWords) dX10_tellInWords_70 (by decide +kernel) ?_
        obtain ⟨σ_49, hc_48, H⟩ := bd_e H
        refine z_callV (M := M_X10_tellInWords) (M' := M_X10_put) (as := [vi 32]) (rest := []) rfl rfl dX10_tellInWords_72 m_X10_put t_1065 t_1067 s_36 (c_X10_put hl  hc_48) rfl rfl ly_173 rfl (Nat.le_of_ble_eq_true rfl) (Nat.le_of_ble_eq_true rfl) (Nat.le_of_ble_eq_true rfl) (Nat.le_of_ble_eq_true rfl) ?_
        refine z_st (st' := []) rfl ?_
        exact J_81 _ (Option.some.inj H).symm
      · refine z_icmp_ne_t (M := M_X10_tellInWords) (tgt := 75) dX10_tellInWords_57 (by decide) rfl (by decide +kernel) h_44 ?_
        exact J_81 _ (Option.some.inj H).symm
  · refine z_icmp_ge_t (M := M_X10_tellInWords) (tgt := 154) dX10_tellInWords_20 (by decide) rfl rfl (Int.not_lt.mp h_13) ?_
    exact J_87 _ _ _ _ (K_12 _ (Option.some.inj H).symm).symm
theorem c_X6_isThere (hl : l.stackTraces = false) {σ : SG} {this_0 : Nat} {r : Bool} (h_this : isS this_0) (H : fA_isThere σ this_0 = r) : en_S l E M_X6_isThere 1 0 0 [vr this_0] σ (pS (some (zv r)) σ) := by
  unfold fA_isThere at H
  refine z_mk (lv := [some (vr this_0)]) m_X6_isThere rfl hl (Nat.le_of_ble_eq_true rfl) rfl ?_
  have J_1 : YY l E M_X6_isThere 1 0 0 (pS (some (zv r)) σ) 12 [some (vr this_0)] [zv (decide (0 < (w32 (σ (kA_plans this_0) 0))))] σ 0 0 := by
    cases H
    exact z_zret (M := M_X6_isThere) dX6_isThere_12 rfl (Nat.le_of_ble_eq_true rfl) (Nat.le_of_ble_eq_true rfl) ⟨rfl, rfl⟩
  refine z_aload_n (M := M_X6_isThere) dX6_isThere_0 rfl ?_
  refine z_getI (M := M_X6_isThere) (ci := 9) (C := RX6) (T := TX6) (Nf := 5) (ty := tyX6) cl9 dX6_isThere_1 (ly_S h_this) 3 (by decide) t_72 rfl rfl ?_
  by_cases h_2 : 0 < (w32 (σ (kA_plans this_0) 0))
  · refine z_if_le_f (M := M_X6_isThere) (tgt := 11) dX6_isThere_4 (by decide) rfl h_2 ?_
    refine z_iconst (M := M_X6_isThere) dX6_isThere_7 ?_
    refine z_goto (M := M_X6_isThere) (tgt := 12) dX6_isThere_8 (by decide) ?_
    exact z_st (by rw [zv_t (p := 0 < (w32 (σ (kA_plans this_0) 0))) h_2]) J_1
  · refine z_if_le_t (M := M_X6_isThere) (tgt := 11) dX6_isThere_4 (by decide) rfl (Int.not_lt.mp h_2) ?_
    refine z_iconst (M := M_X6_isThere) dX6_isThere_11 ?_
    exact z_st (by rw [zv_f (p := 0 < (w32 (σ (kA_plans this_0) 0))) h_2]) J_1
theorem c_X11_mustBeThere (hl : l.stackTraces = false) {σ : SG} {shape_0 : Nat} {r : Unit ⊕ Nat} {σ' : SG} (h_shape : isS shape_0) (H : fQ_mustBeThere σ shape_0 = some (r, σ')) : en_S l E M_X11_mustBeThere 6 1 6 [vr shape_0] σ (pT (ruT r) σ') := by
  unfold fQ_mustBeThere at H
  refine z_mk (lv := [some (vr shape_0)]) m_X11_mustBeThere rfl hl (Nat.le_of_ble_eq_true rfl) rfl ?_
  refine z_aload_n (M := M_X11_mustBeThere) dX11_mustBeThere_0 rfl ?_
  refine z_callV (M := M_X11_mustBeThere) (M' := M_X6_isThere) (as := []) (rest := []) rfl rfl dX11_mustBeThere_1 m_X6_isThere t_1050 t_1051 t_1052 (c_X6_isThere hl h_shape rfl) rfl rfl (ly_S h_shape) rfl (Nat.le_of_ble_eq_true rfl) (Nat.le_of_ble_eq_true rfl) (Nat.le_of_ble_eq_true rfl) (Nat.le_of_ble_eq_true rfl) ?_
  refine z_st (st' := [zv (fA_isThere σ shape_0)]) rfl ?_
  rcases if_e H with ⟨h_1, H⟩ | ⟨h_1, H⟩
  · refine z_zne_t (M := M_X11_mustBeThere) (tgt := 15) dX11_mustBeThere_4 (by decide) h_1 ?_
    cases H
    exact z_vret (M := M_X11_mustBeThere) dX11_mustBeThere_15 rfl (Nat.le_of_ble_eq_true rfl) (Nat.le_of_ble_eq_true rfl) ⟨rfl, rfl⟩
  · refine z_zne_f (M := M_X11_mustBeThere) (tgt := 15) dX11_mustBeThere_4 (by decide) h_1 ?_
    cases H
    exact z_throw (M := M_X11_mustBeThere) (names := en_nm) rfl dX11_mustBeThere_7 dX11_mustBeThere_10 dX11_mustBeThere_11 dX11_mustBeThere_14 (by decide +kernel) en_nm_ok (Or.inl t_643) (Or.inl t_18) at_X11_IllegalStateException_112 (Nat.le_of_ble_eq_true rfl) (Nat.le_of_ble_eq_true rfl) (Nat.le_of_ble_eq_true rfl) (Nat.le_of_ble_eq_true rfl) ⟨rfl, rfl⟩
theorem c_X11_writeWords (hl : l.stackTraces = false) {σ : SG} {slot_0 : Int} {r : Int ⊕ Nat} {σ' : SG}  (H : fQ_writeWords σ slot_0 = some (r, σ')) : en_S l E M_X11_writeWords 10 2 12 [vr 32, vi slot_0] σ (pT (riT r) σ') := by
  unfold fQ_writeWords at H
  refine z_mk (lv := [some (vr 32), some (vi slot_0), none]) m_X11_writeWords rfl hl (Nat.le_of_ble_eq_true rfl) rfl ?_
  refine z_aload_n (M := M_X11_writeWords) dX11_writeWords_0 rfl ?_
  refine z_iload_n (M := M_X11_writeWords) dX11_writeWords_1 rfl ?_
  obtain ⟨z_16, σ_2, hc_1, K_4, K_5⟩ := bt_e H
  rcases z_16 with x_3 | z_16
  · have H := K_4 _ rfl
    refine z_callV (M := M_X11_writeWords) (M' := M_X11_slotNumbered) (as := [vi slot_0]) (rest := []) rfl rfl dX11_writeWords_2 m_X11_slotNumbered t_744 t_746 s_2 (v := some (vr x_3)) (c_X11_slotNumbered hl  hc_1) rfl rfl ly_32 rfl (Nat.le_of_ble_eq_true rfl) (Nat.le_of_ble_eq_true rfl) (Nat.le_of_ble_eq_true rfl) (Nat.le_of_ble_eq_true rfl) ?_
    refine z_st (st' := [vr x_3]) rfl ?_
    obtain ⟨hs_6, H⟩ := ck_e H
    refine z_astore_n (M := M_X11_writeWords) (lv' := [some (vr 32), some (vi slot_0), some (vr x_3)]) dX11_writeWords_5 (Nat.le_of_ble_eq_true rfl) rfl rfl ?_
    refine z_aload_n (M := M_X11_writeWords) dX11_writeWords_6 rfl ?_
    obtain ⟨z_15, σ_8, hc_7, K_10, K_11⟩ := bt_e H
    rcases z_15 with x_9 | z_15
    · have H := K_10 _ rfl
      refine z_callS (M := M_X11_writeWords) (M' := M_X11_mustBeThere) (as := [vr x_3]) (rest := []) rfl rfl dX11_writeWords_7 m_X11_mustBeThere t_1047 t_1048 (v := none) (c_X11_mustBeThere hl hs_6 hc_7) rfl rfl (Nat.le_of_ble_eq_true rfl) (Nat.le_of_ble_eq_true rfl) (Nat.le_of_ble_eq_true rfl) (Nat.le_of_ble_eq_true rfl) ?_
      refine z_st (st' := []) rfl ?_
      refine z_aload_n (M := M_X11_writeWords) dX11_writeWords_10 rfl ?_
      refine z_getR (M := M_X11_writeWords) (ci := 14) (C := RX11) (T := TX11) (Nf := 19) (ty := tyX11) cl14 dX11_writeWords_11 ly_32 8 (by decide) t_571 rfl ?_
      refine z_aload_n (M := M_X11_writeWords) dX11_writeWords_14 rfl ?_
      obtain ⟨⟨x_14, σ_13⟩, hc_12, H⟩ := bd_e H
      refine z_callV (M := M_X11_writeWords) (M' := M_X10_tellInWords) (as := [vr x_3]) (rest := []) rfl rfl dX11_writeWords_15 m_X10_tellInWords t_1054 t_1055 t_1056 (c_X10_tellInWords hl hs_6 hc_12) rfl rfl ly_173 rfl (Nat.le_of_ble_eq_true rfl) (Nat.le_of_ble_eq_true rfl) (Nat.le_of_ble_eq_true rfl) (Nat.le_of_ble_eq_true rfl) ?_
      refine z_st (st' := [vi x_14]) rfl ?_
      cases H
      exact z_iret (M := M_X11_writeWords) dX11_writeWords_18 rfl (Nat.le_of_ble_eq_true rfl) (Nat.le_of_ble_eq_true rfl) ⟨rfl, rfl⟩
    · have H := K_11 _ rfl
      cases H
      exact z_callSX (M := M_X11_writeWords) (M' := M_X11_mustBeThere) (as := [vr x_3]) (rest := []) rfl rfl dX11_writeWords_7 m_X11_mustBeThere t_1047 t_1048 (e := z_15) (c_X11_mustBeThere hl hs_6 hc_7) rfl rfl (Nat.le_of_ble_eq_true rfl) (Nat.le_of_ble_eq_true rfl) (Nat.le_of_ble_eq_true rfl) (Nat.le_of_ble_eq_true rfl) ⟨rfl, rfl⟩
  · have H := K_5 _ rfl
    cases H
    exact z_callVX (M := M_X11_writeWords) (M' := M_X11_slotNumbered) (as := [vi slot_0]) (rest := []) rfl rfl dX11_writeWords_2 m_X11_slotNumbered t_744 t_746 s_2 (e := z_16) (c_X11_slotNumbered hl  hc_1) rfl rfl ly_32 rfl (Nat.le_of_ble_eq_true rfl) (Nat.le_of_ble_eq_true rfl) (Nat.le_of_ble_eq_true rfl) (Nat.le_of_ble_eq_true rfl) ⟨rfl, rfl⟩
theorem c_X10_bitsOf (hl : l.stackTraces = false) {σ : SG} {units_0 : Int} {r : Int}  (H : fO_bitsOf σ units_0 = some r) : en_S l E M_X10_bitsOf 1 0 0 [vr 173, vi units_0] σ (pS (some (vl r)) σ) := by
  unfold fO_bitsOf at H
  refine z_mk (lv := [some (vr 173), some (vi units_0), none, none, none, none, none, none, none, none, none, none, none, none]) m_X10_bitsOf rfl hl (Nat.le_of_ble_eq_true rfl) rfl ?_
  refine z_iload_n (M := M_X10_bitsOf) dX10_bitsOf_0 rfl ?_
  rcases if_e H with ⟨h_1, H⟩ | ⟨h_1, H⟩
  · refine z_if_ne_f (M := M_X10_bitsOf) (tgt := 6) dX10_bitsOf_1 (by decide) rfl h_1 ?_
    refine z_lconst (M := M_X10_bitsOf) (m := 0) dX10_bitsOf_4 (by decide +kernel) ?_
    cases H
    exact z_lret (M := M_X10_bitsOf) dX10_bitsOf_5 rfl (Nat.le_of_ble_eq_true rfl) (Nat.le_of_ble_eq_true rfl) ⟨rfl, rfl⟩
  · refine z_if_ne_t (M := M_X10_bitsOf) (tgt := 6) dX10_bitsOf_1 (by decide) rfl h_1 ?_
    refine z_iload_n (M := M_X10_bitsOf) dX10_bitsOf_6 rfl ?_
    refine z_i2l (M := M_X10_bitsOf) dX10_bitsOf_7 ?_
    refine z_labs (M := M_X10_bitsOf) dX10_bitsOf_8 t_1130 t_1131 t_20 t_1132 (Nat.le_of_ble_eq_true rfl) (Nat.le_of_ble_eq_true rfl) (Nat.le_of_ble_eq_true rfl) (Nat.le_of_ble_eq_true rfl) ?_
    refine z_lstore_n (M := M_X10_bitsOf) (lv' := [some (vr 173), some (vi units_0), some (vl (q_abl (w32 units_0))), none, none, none, none, none, none, none, none, none, none, none]) dX10_bitsOf_11 (Nat.le_of_ble_eq_true rfl) rfl rfl ?_
    refine z_getsU (M := M_X10_bitsOf) dX10_bitsOf_12 n_1094 ?_
    refine z_aload_n (M := M_X10_bitsOf) dX10_bitsOf_15 rfl ?_
    refine z_getI (M := M_X10_bitsOf) (ci := 13) (C := RX10) (T := TX10) (Nf := 6) (ty := tyX10) cl13 dX10_bitsOf_16 ly_173 0 (by decide) t_201 rfl rfl ?_
    obtain ⟨hi_2, H⟩ := ck_e H
    refine z_tald (M := M_X10_bitsOf) dX10_bitsOf_19 rfl hi_2 ?_
    refine z_istore (M := M_X10_bitsOf) (lv' := [some (vr 173), some (vi units_0), some (vl (q_abl (w32 units_0))), none, some (vi (uNit (w32 (σ kO_digits 0)))), none, none, none, none, none, none, none, none, none]) dX10_bitsOf_20 (Nat.le_of_ble_eq_true rfl) rfl rfl ?_
    refine z_ldc2 (M := M_X10_bitsOf) (n := 4503599627370496) dX10_bitsOf_22 t_1133 (by decide +kernel) ?_
    refine z_lstore (M := M_X10_bitsOf) (lv' := [some (vr 173), some (vi units_0), some (vl (q_abl (w32 units_0))), none, some (vi (uNit (w32 (σ kO_digits 0)))), some (vl 4503599627370496), none, none, none, none, none, none, none, none]) dX10_bitsOf_25 (Nat.le_of_ble_eq_true rfl) rfl rfl ?_
    refine z_iconst (M := M_X10_bitsOf) dX10_bitsOf_27 ?_
    refine z_istore (M := M_X10_bitsOf) (lv' := [some (vr 173), some (vi units_0), some (vl (q_abl (w32 units_0))), none, some (vi (uNit (w32 (σ kO_digits 0)))), some (vl 4503599627370496), none, some (vi 0), none, none, none, none, none, none]) dX10_bitsOf_28 (Nat.le_of_ble_eq_true rfl) rfl rfl ?_
    obtain ⟨rl_7, hw_4, hk_5⟩ := bd_e H
    have J_59 : ∀ shift_24, rl_7 = shift_24 → YY l E M_X10_bitsOf 1 0 0 (pS (some (vl r)) σ) 57 [some (vr 173), some (vi units_0), some (vl (q_abl (w32 units_0))), none, some (vi (uNit (w32 (σ kO_digits 0)))), some (vl 4503599627370496), none, some (vi shift_24), none, none, none, none, none, none] [] σ 0 0 := by
      intro shift_24 e
      have H := hk_5
      rw [e] at H
      refine z_lload_n (M := M_X10_bitsOf) dX10_bitsOf_57 rfl ?_
      refine z_iload (M := M_X10_bitsOf) dX10_bitsOf_58 rfl ?_
      refine z_lshl (M := M_X10_bitsOf) dX10_bitsOf_60 ?_
      refine z_iload (M := M_X10_bitsOf) dX10_bitsOf_61 rfl ?_
      refine z_i2l (M := M_X10_bitsOf) dX10_bitsOf_63 ?_
      obtain ⟨hd_25, H⟩ := ck_e H
      refine z_ldiv (M := M_X10_bitsOf) dX10_bitsOf_64 hd_25 ?_
      obtain ⟨x_26, x_26_e, H⟩ := lt_e H
      refine z_st (congrArg (fun z => vl z :: []) x_26_e) ?_
      refine z_lstore (M := M_X10_bitsOf) (lv' := [some (vr 173), some (vi units_0), some (vl (q_abl (w32 units_0))), none, some (vi (uNit (w32 (σ kO_digits 0)))), some (vl 4503599627370496), none, some (vi shift_24), some (vl x_26), none, none, none, none, none]) dX10_bitsOf_65 (Nat.le_of_ble_eq_true rfl) rfl rfl ?_
      refine z_lload_n (M := M_X10_bitsOf) dX10_bitsOf_67 rfl ?_
      refine z_iload (M := M_X10_bitsOf) dX10_bitsOf_68 rfl ?_
      refine z_lshl (M := M_X10_bitsOf) dX10_bitsOf_70 ?_
      refine z_iload (M := M_X10_bitsOf) dX10_bitsOf_71 rfl ?_
      refine z_i2l (M := M_X10_bitsOf) dX10_bitsOf_73 ?_
      obtain ⟨hd_27, H⟩ := ck_e H
      refine z_lrem (M := M_X10_bitsOf) dX10_bitsOf_74 hd_27 ?_
      obtain ⟨x_28, x_28_e, H⟩ := lt_e H
      refine z_st (congrArg (fun z => vl z :: []) x_28_e) ?_
      refine z_lstore (M := M_X10_bitsOf) (lv' := [some (vr 173), some (vi units_0), some (vl (q_abl (w32 units_0))), none, some (vi (uNit (w32 (σ kO_digits 0)))), some (vl 4503599627370496), none, some (vi shift_24), some (vl x_26), none, some (vl x_28), none, none, none]) dX10_bitsOf_75 (Nat.le_of_ble_eq_true rfl) rfl rfl ?_
      obtain ⟨v_32, he_29, hk_30⟩ := bd_e H
      have J_58 : ∀ whole_44, v_32 = whole_44 → YY l E M_X10_bitsOf 1 0 0 (pS (some (vl r)) σ) 118 [some (vr 173), some (vi units_0), some (vl (q_abl (w32 units_0))), none, some (vi (uNit (w32 (σ kO_digits 0)))), some (vl 4503599627370496), none, some (vi shift_24), some (vl whole_44), none, some (vl x_28), none, none, none] [] σ 0 0 := by
        intro whole_44 e
        have H := hk_30
        rw [e] at H
        obtain ⟨v_48, he_45, hk_46⟩ := bd_e H
        have J_57 : ∀ shift_52 whole_53, v_48 = (shift_52, whole_53) → YY l E M_X10_bitsOf 1 0 0 (pS (some (vl r)) σ) 137 [some (vr 173), some (vi units_0), some (vl (q_abl (w32 units_0))), none, some (vi (uNit (w32 (σ kO_digits 0)))), some (vl 4503599627370496), none, some (vi shift_52), some (vl whole_53), none, some (vl x_28), none, none, none] [] σ 0 0 := by
          intro shift_52 whole_53 e
          have H := hk_46
          rw [e] at H
          refine z_sipush (M := M_X10_bitsOf) dX10_bitsOf_137 (by decide +kernel) ?_
          refine z_iload (M := M_X10_bitsOf) dX10_bitsOf_140 rfl ?_
          refine z_isub (M := M_X10_bitsOf) dX10_bitsOf_142 ?_
          refine z_i2l (M := M_X10_bitsOf) dX10_bitsOf_143 ?_
          refine z_bipush (M := M_X10_bitsOf) dX10_bitsOf_144 (by decide +kernel) ?_
          refine z_lshl (M := M_X10_bitsOf) dX10_bitsOf_146 ?_
          refine z_lload (M := M_X10_bitsOf) dX10_bitsOf_147 rfl ?_
          refine z_ladd (M := M_X10_bitsOf) dX10_bitsOf_149 ?_
          refine z_lload (M := M_X10_bitsOf) dX10_bitsOf_150 rfl ?_
          refine z_lsub (M := M_X10_bitsOf) dX10_bitsOf_152 ?_
          obtain ⟨x_54, x_54_e, H⟩ := lt_e H
          refine z_st (congrArg (fun z => vl z :: []) x_54_e) ?_
          refine z_lstore (M := M_X10_bitsOf) (lv' := [some (vr 173), some (vi units_0), some (vl (q_abl (w32 units_0))), none, some (vi (uNit (w32 (σ kO_digits 0)))), some (vl 4503599627370496), none, some (vi shift_52), some (vl whole_53), none, some (vl x_28), none, some (vl x_54), none]) dX10_bitsOf_153 (Nat.le_of_ble_eq_true rfl) rfl rfl ?_
          have J_55 : YY l E M_X10_bitsOf 1 0 0 (pS (some (vl r)) σ) 170 [some (vr 173), some (vi units_0), some (vl (q_abl (w32 units_0))), none, some (vi (uNit (w32 (σ kO_digits 0)))), some (vl 4503599627370496), none, some (vi shift_52), some (vl whole_53), none, some (vl x_28), none, some (vl x_54), none] [vl (if (w32 units_0) < 0 then (q_lor x_54 (-9223372036854775808)) else x_54)] σ 0 0 := by
            cases H
            exact z_lret (M := M_X10_bitsOf) dX10_bitsOf_170 rfl (Nat.le_of_ble_eq_true rfl) (Nat.le_of_ble_eq_true rfl) ⟨rfl, rfl⟩
          refine z_iload_n (M := M_X10_bitsOf) dX10_bitsOf_155 rfl ?_
          by_cases h_56 : (w32 units_0) < 0
          · refine z_if_ge_f (M := M_X10_bitsOf) (tgt := 168) dX10_bitsOf_156 (by decide) rfl h_56 ?_
            refine z_lload (M := M_X10_bitsOf) dX10_bitsOf_159 rfl ?_
            refine z_ldc2 (M := M_X10_bitsOf) (n := (-9223372036854775808)) dX10_bitsOf_161 t_1135 (by decide +kernel) ?_
            refine z_lor (M := M_X10_bitsOf) dX10_bitsOf_164 ?_
            refine z_goto (M := M_X10_bitsOf) (tgt := 170) dX10_bitsOf_165 (by decide) ?_
            exact z_st (by rw [if_pos (c := (w32 units_0) < 0) h_56]) J_55
          · refine z_if_ge_t (M := M_X10_bitsOf) (tgt := 168) dX10_bitsOf_156 (by decide) rfl (Int.not_lt.mp h_56) ?_
            refine z_lload (M := M_X10_bitsOf) dX10_bitsOf_168 rfl ?_
            exact z_st (by rw [if_neg (c := (w32 units_0) < 0) h_56]) J_55
        have H := he_45
        refine z_lload (M := M_X10_bitsOf) dX10_bitsOf_118 rfl ?_
        refine z_ldc2 (M := M_X10_bitsOf) (n := 2) dX10_bitsOf_120 t_1134 (by decide +kernel) ?_
        refine z_lload (M := M_X10_bitsOf) dX10_bitsOf_123 rfl ?_
        refine z_lmul (M := M_X10_bitsOf) dX10_bitsOf_125 ?_
        refine z_lcmp (M := M_X10_bitsOf) dX10_bitsOf_126 ?_
        rcases if_e H with ⟨h_49, H⟩ | ⟨h_49, H⟩
        · refine z_lif_ne_f (M := M_X10_bitsOf) (tgt := 137) dX10_bitsOf_127 (by decide) rfl rfl h_49 ?_
          refine z_lload (M := M_X10_bitsOf) dX10_bitsOf_130 rfl ?_
          refine z_lstore (M := M_X10_bitsOf) (lv' := [some (vr 173), some (vi units_0), some (vl (q_abl (w32 units_0))), none, some (vi (uNit (w32 (σ kO_digits 0)))), some (vl 4503599627370496), none, some (vi shift_24), some (vl 4503599627370496), none, some (vl x_28), none, none, none]) dX10_bitsOf_132 (Nat.le_of_ble_eq_true rfl) rfl rfl ?_
          refine z_iinc (M := M_X10_bitsOf) (lv' := [some (vr 173), some (vi units_0), some (vl (q_abl (w32 units_0))), none, some (vi (uNit (w32 (σ kO_digits 0)))), some (vl 4503599627370496), none, some (vi (shift_24 + (-1))), some (vl 4503599627370496), none, some (vl x_28), none, none, none]) dX10_bitsOf_134 rfl (Nat.le_of_ble_eq_true rfl) rfl rfl ?_
          exact J_57 _ _ (Option.some.inj H).symm
        · refine z_lif_ne_t (M := M_X10_bitsOf) (tgt := 137) dX10_bitsOf_127 (by decide) rfl rfl h_49 ?_
          exact J_57 _ _ (Option.some.inj H).symm
      have H := he_29
      rcases if_e H with ⟨h_35, H⟩ | ⟨h_35, H⟩
      · have J_36 : YY l E M_X10_bitsOf 1 0 0 (pS (some (vl r)) σ) 112 [some (vr 173), some (vi units_0), some (vl (q_abl (w32 units_0))), none, some (vi (uNit (w32 (σ kO_digits 0)))), some (vl 4503599627370496), none, some (vi shift_24), some (vl x_26), none, some (vl x_28), none, none, none] [] σ 0 0 := by
          refine z_lload (M := M_X10_bitsOf) dX10_bitsOf_112 rfl ?_
          refine z_lconst (M := M_X10_bitsOf) (m := 1) dX10_bitsOf_114 (by decide +kernel) ?_
          refine z_ladd (M := M_X10_bitsOf) dX10_bitsOf_115 ?_
          refine z_lstore (M := M_X10_bitsOf) (lv' := [some (vr 173), some (vi units_0), some (vl (q_abl (w32 units_0))), none, some (vi (uNit (w32 (σ kO_digits 0)))), some (vl 4503599627370496), none, some (vi shift_24), some (vl (x_26 + 1)), none, some (vl x_28), none, none, none]) dX10_bitsOf_116 (Nat.le_of_ble_eq_true rfl) rfl rfl ?_
          exact J_58 _ (Option.some.inj H).symm
        refine z_ldc2 (M := M_X10_bitsOf) (n := 2) dX10_bitsOf_77 t_1134 (by decide +kernel) ?_
        refine z_lload (M := M_X10_bitsOf) dX10_bitsOf_80 rfl ?_
        refine z_lmul (M := M_X10_bitsOf) dX10_bitsOf_82 ?_
        refine z_iload (M := M_X10_bitsOf) dX10_bitsOf_83 rfl ?_
        refine z_i2l (M := M_X10_bitsOf) dX10_bitsOf_85 ?_
        refine z_lcmp (M := M_X10_bitsOf) dX10_bitsOf_86 ?_
        by_cases h_38 : (w64 (w32 (uNit (w32 (σ kO_digits 0))))) < (w64 (2 * x_28))
        · refine z_lif_gt_t (M := M_X10_bitsOf) (tgt := 112) dX10_bitsOf_87 (by decide) rfl rfl h_38 ?_
          exact J_36
        · refine z_lif_gt_f (M := M_X10_bitsOf) (tgt := 112) dX10_bitsOf_87 (by decide) rfl rfl (Int.not_lt.mp h_38) ?_
          refine z_ldc2 (M := M_X10_bitsOf) (n := 2) dX10_bitsOf_90 t_1134 (by decide +kernel) ?_
          refine z_lload (M := M_X10_bitsOf) dX10_bitsOf_93 rfl ?_
          refine z_lmul (M := M_X10_bitsOf) dX10_bitsOf_95 ?_
          refine z_iload (M := M_X10_bitsOf) dX10_bitsOf_96 rfl ?_
          refine z_i2l (M := M_X10_bitsOf) dX10_bitsOf_98 ?_
          refine z_lcmp (M := M_X10_bitsOf) dX10_bitsOf_99 ?_
          by_cases h_39 : (w64 (2 * x_28)) = (w64 (w32 (uNit (w32 (σ kO_digits 0)))))
          · refine z_lif_ne_f (M := M_X10_bitsOf) (tgt := 118) dX10_bitsOf_100 (by decide) rfl rfl h_39 ?_
            refine z_lload (M := M_X10_bitsOf) dX10_bitsOf_103 rfl ?_
            refine z_lconst (M := M_X10_bitsOf) (m := 1) dX10_bitsOf_105 (by decide +kernel) ?_
            refine z_land (M := M_X10_bitsOf) dX10_bitsOf_106 ?_
            refine z_lconst (M := M_X10_bitsOf) (m := 1) dX10_bitsOf_107 (by decide +kernel) ?_
            refine z_lcmp (M := M_X10_bitsOf) dX10_bitsOf_108 ?_
            by_cases h_40 : (w64 (q_lan x_26 1)) = 1
            · refine z_lif_ne_f (M := M_X10_bitsOf) (tgt := 118) dX10_bitsOf_109 (by decide) rfl (by decide +kernel) h_40 ?_
              exact J_36
            · refine z_lif_ne_t (M := M_X10_bitsOf) (tgt := 118) dX10_bitsOf_109 (by decide) rfl (by decide +kernel) h_40 ?_
              exact absurd h_35 (fun q => q.elim h_38 (fun q => h_40 q.2))
          · refine z_lif_ne_t (M := M_X10_bitsOf) (tgt := 118) dX10_bitsOf_100 (by decide) rfl rfl h_39 ?_
            exact absurd h_35 (fun q => q.elim h_38 (fun q => h_39 q.1))
      · have J_37 : YY l E M_X10_bitsOf 1 0 0 (pS (some (vl r)) σ) 118 [some (vr 173), some (vi units_0), some (vl (q_abl (w32 units_0))), none, some (vi (uNit (w32 (σ kO_digits 0)))), some (vl 4503599627370496), none, some (vi shift_24), some (vl x_26), none, some (vl x_28), none, none, none] [] σ 0 0 := by
          exact J_58 _ (Option.some.inj H).symm
        refine z_ldc2 (M := M_X10_bitsOf) (n := 2) dX10_bitsOf_77 t_1134 (by decide +kernel) ?_
        refine z_lload (M := M_X10_bitsOf) dX10_bitsOf_80 rfl ?_
        refine z_lmul (M := M_X10_bitsOf) dX10_bitsOf_82 ?_
        refine z_iload (M := M_X10_bitsOf) dX10_bitsOf_83 rfl ?_
        refine z_i2l (M := M_X10_bitsOf) dX10_bitsOf_85 ?_
        refine z_lcmp (M := M_X10_bitsOf) dX10_bitsOf_86 ?_
        by_cases h_41 : (w64 (w32 (uNit (w32 (σ kO_digits 0))))) < (w64 (2 * x_28))
        · refine z_lif_gt_t (M := M_X10_bitsOf) (tgt := 112) dX10_bitsOf_87 (by decide) rfl rfl h_41 ?_
          exact absurd (Or.inl h_41) h_35
        · refine z_lif_gt_f (M := M_X10_bitsOf) (tgt := 112) dX10_bitsOf_87 (by decide) rfl rfl (Int.not_lt.mp h_41) ?_
          refine z_ldc2 (M := M_X10_bitsOf) (n := 2) dX10_bitsOf_90 t_1134 (by decide +kernel) ?_
          refine z_lload (M := M_X10_bitsOf) dX10_bitsOf_93 rfl ?_
          refine z_lmul (M := M_X10_bitsOf) dX10_bitsOf_95 ?_
          refine z_iload (M := M_X10_bitsOf) dX10_bitsOf_96 rfl ?_
          refine z_i2l (M := M_X10_bitsOf) dX10_bitsOf_98 ?_
          refine z_lcmp (M := M_X10_bitsOf) dX10_bitsOf_99 ?_
          by_cases h_42 : (w64 (2 * x_28)) = (w64 (w32 (uNit (w32 (σ kO_digits 0)))))
          · refine z_lif_ne_f (M := M_X10_bitsOf) (tgt := 118) dX10_bitsOf_100 (by decide) rfl rfl h_42 ?_
            refine z_lload (M := M_X10_bitsOf) dX10_bitsOf_103 rfl ?_
            refine z_lconst (M := M_X10_bitsOf) (m := 1) dX10_bitsOf_105 (by decide +kernel) ?_
            refine z_land (M := M_X10_bitsOf) dX10_bitsOf_106 ?_
            refine z_lconst (M := M_X10_bitsOf) (m := 1) dX10_bitsOf_107 (by decide +kernel) ?_
            refine z_lcmp (M := M_X10_bitsOf) dX10_bitsOf_108 ?_
            by_cases h_43 : (w64 (q_lan x_26 1)) = 1
            · refine z_lif_ne_f (M := M_X10_bitsOf) (tgt := 118) dX10_bitsOf_109 (by decide) rfl (by decide +kernel) h_43 ?_
              exact absurd (Or.inr ⟨h_42, h_43⟩) h_35
            · refine z_lif_ne_t (M := M_X10_bitsOf) (tgt := 118) dX10_bitsOf_109 (by decide) rfl (by decide +kernel) h_43 ?_
              exact J_37
          · refine z_lif_ne_t (M := M_X10_bitsOf) (tgt := 118) dX10_bitsOf_100 (by decide) rfl rfl h_42 ?_
            exact J_37
    refine whl_go hw_4 (fun shift_3 => YY l E M_X10_bitsOf 1 0 0 (pS (some (vl r)) σ) 30 [some (vr 173), some (vi units_0), some (vl (q_abl (w32 units_0))), none, some (vi (uNit (w32 (σ kO_digits 0)))), some (vl 4503599627370496), none, some (vi shift_3), none, none, none, none, none, none] [] σ 0 0) ?_
    rintro shift_3 o_8 H K_9 K_10
    refine z_iload (M := M_X10_bitsOf) dX10_bitsOf_30 rfl ?_
    refine z_bipush (M := M_X10_bitsOf) dX10_bitsOf_32 (by decide +kernel) ?_
    rcases if_e H with ⟨h_18, H⟩ | ⟨h_18, H⟩
    · refine z_icmp_ge_f (M := M_X10_bitsOf) (tgt := 57) dX10_bitsOf_34 (by decide) rfl (by decide +kernel) h_18 ?_
      refine z_lload_n (M := M_X10_bitsOf) dX10_bitsOf_37 rfl ?_
      refine z_iload (M := M_X10_bitsOf) dX10_bitsOf_38 rfl ?_
      refine z_lshl (M := M_X10_bitsOf) dX10_bitsOf_40 ?_
      refine z_iload (M := M_X10_bitsOf) dX10_bitsOf_41 rfl ?_
      refine z_i2l (M := M_X10_bitsOf) dX10_bitsOf_43 ?_
      obtain ⟨hd_19, H⟩ := ck_e H
      refine z_ldiv (M := M_X10_bitsOf) dX10_bitsOf_44 hd_19 ?_
      refine z_lload (M := M_X10_bitsOf) dX10_bitsOf_45 rfl ?_
      refine z_lcmp (M := M_X10_bitsOf) dX10_bitsOf_47 ?_
      rcases if_e H with ⟨h_20, H⟩ | ⟨h_20, H⟩
      · refine z_lif_ge_f (M := M_X10_bitsOf) (tgt := 57) dX10_bitsOf_48 (by decide) rfl (by decide +kernel) h_20 ?_
        refine z_iinc (M := M_X10_bitsOf) (lv' := [some (vr 173), some (vi units_0), some (vl (q_abl (w32 units_0))), none, some (vi (uNit (w32 (σ kO_digits 0)))), some (vl 4503599627370496), none, some (vi (shift_3 + 1)), none, none, none, none, none, none]) dX10_bitsOf_51 rfl (Nat.le_of_ble_eq_true rfl) rfl rfl ?_
        refine z_goto (M := M_X10_bitsOf) (tgt := 30) dX10_bitsOf_54 (by decide) ?_
        exact K_9 _ (Option.some.inj H).symm
      · refine z_lif_ge_t (M := M_X10_bitsOf) (tgt := 57) dX10_bitsOf_48 (by decide) rfl (by decide +kernel) (Int.not_lt.mp h_20) ?_
        exact J_59 _ (K_10 _ (Option.some.inj H).symm).symm
    · refine z_icmp_ge_t (M := M_X10_bitsOf) (tgt := 57) dX10_bitsOf_34 (by decide) rfl (by decide +kernel) (Int.not_lt.mp h_18) ?_
      exact J_59 _ (K_10 _ (Option.some.inj H).symm).symm
theorem c_X10_putBytes (hl : l.stackTraces = false) {σ : SG} {value_0 : Int} {bytes_0 : Int} {σ' : SG}  (H : fO_putBytes σ value_0 bytes_0 = some σ') : en_S l E M_X10_putBytes 2 0 0 [vr 173, vl value_0, vi bytes_0] σ (pS (none) σ') := by
  unfold fO_putBytes at H
  refine z_mk (lv := [some (vr 173), some (vl value_0), none, some (vi bytes_0), none, none]) m_X10_putBytes rfl hl (Nat.le_of_ble_eq_true rfl) rfl ?_
  refine z_iconst (M := M_X10_putBytes) dX10_putBytes_0 ?_
  refine z_istore (M := M_X10_putBytes) (lv' := [some (vr 173), some (vl value_0), none, some (vi bytes_0), some (vi 0), none]) dX10_putBytes_1 (Nat.le_of_ble_eq_true rfl) rfl rfl ?_
  obtain ⟨rl_6, hw_3, hk_4⟩ := bd_e H
  have J_20 : ∀ i_18 σ_19, rl_6 = (i_18, σ_19) → YY l E M_X10_putBytes 2 0 0 (pS (none) σ') 50 [some (vr 173), some (vl value_0), none, some (vi bytes_0), some (vi i_18), none] [] σ_19 0 0 := by
    intro i_18 σ_19 e
    have H := hk_4
    rw [e] at H
    cases H
    exact z_vret (M := M_X10_putBytes) dX10_putBytes_50 rfl (Nat.le_of_ble_eq_true rfl) (Nat.le_of_ble_eq_true rfl) ⟨rfl, rfl⟩
  refine whl_go hw_3 (fun (i_1, σ_2) => YY l E M_X10_putBytes 2 0 0 (pS (none) σ') 3 [some (vr 173), some (vl value_0), none, some (vi bytes_0), some (vi i_1), none] [] σ_2 0 0) ?_
  rintro ⟨i_1, σ_2⟩ o_7 H K_8 K_9
  refine z_iload (M := M_X10_putBytes) dX10_putBytes_3 rfl ?_
  refine z_iload_n (M := M_X10_putBytes) dX10_putBytes_5 rfl ?_
  rcases if_e H with ⟨h_10, H⟩ | ⟨h_10, H⟩
  · refine z_icmp_ge_f (M := M_X10_putBytes) (tgt := 50) dX10_putBytes_6 (by decide) rfl rfl h_10 ?_
    have J_11 : YY l E M_X10_putBytes 2 0 0 (pS (none) σ') 33 [some (vr 173), some (vl value_0), none, some (vi bytes_0), some (vi i_1), none] [vi (if (nz (σ_2 kO_lowFirst 0)) = true then (8 * i_1) else (8 * ((bytes_0 - 1) - i_1)))] σ_2 0 0 := by
      obtain ⟨x_12, x_12_e, H⟩ := lt_e H
      refine z_st (congrArg (fun z => vi z :: []) x_12_e) ?_
      refine z_istore (M := M_X10_putBytes) (lv' := [some (vr 173), some (vl value_0), none, some (vi bytes_0), some (vi i_1), some (vi x_12)]) dX10_putBytes_33 (Nat.le_of_ble_eq_true rfl) rfl rfl ?_
      refine z_aload_n (M := M_X10_putBytes) dX10_putBytes_35 rfl ?_
      refine z_lload_n (M := M_X10_putBytes) dX10_putBytes_36 rfl ?_
      refine z_iload (M := M_X10_putBytes) dX10_putBytes_37 rfl ?_
      refine z_lushr (M := M_X10_putBytes) dX10_putBytes_39 ?_
      refine z_l2i (M := M_X10_putBytes) dX10_putBytes_40 ?_
      obtain ⟨σ_14, hc_13, H⟩ := bd_e H
      refine z_callV (M := M_X10_putBytes) (M' := M_X10_put) (as := [vi (q_lus value_0 x_12)]) (rest := []) rfl rfl dX10_putBytes_41 m_X10_put t_1065 t_1067 s_36 (c_X10_put hl  hc_13) rfl rfl ly_173 rfl (Nat.le_of_ble_eq_true rfl) (Nat.le_of_ble_eq_true rfl) (Nat.le_of_ble_eq_true rfl) (Nat.le_of_ble_eq_true rfl) ?_
      refine z_st (st' := []) rfl ?_
      refine z_iinc (M := M_X10_putBytes) (lv' := [some (vr 173), some (vl value_0), none, some (vi bytes_0), some (vi (i_1 + 1)), some (vi x_12)]) dX10_putBytes_44 rfl (Nat.le_of_ble_eq_true rfl) rfl rfl ?_
      refine z_goto (M := M_X10_putBytes) (tgt := 3) dX10_putBytes_47 (by decide) ?_
      refine z_le (lv' := [some (vr 173), some (vl value_0), none, some (vi bytes_0), some (vi (i_1 + 1)), none]) ⟨Or.inr rfl, Or.inr rfl, Or.inl rfl, Or.inr rfl, Or.inr rfl, Or.inl rfl, trivial⟩ ?_
      exact K_8 _ (Option.some.inj H).symm
    refine z_aload_n (M := M_X10_putBytes) dX10_putBytes_9 rfl ?_
    refine z_getZ (M := M_X10_putBytes) (ci := 13) (C := RX10) (T := TX10) (Nf := 6) (ty := tyX10) cl13 dX10_putBytes_10 ly_173 3 (by decide) t_204 rfl rfl ?_
    by_cases h_16 : (nz (σ_2 kO_lowFirst 0)) = true
    · refine z_zeq_f (M := M_X10_putBytes) (tgt := 24) dX10_putBytes_13 (by decide) h_16 ?_
      refine z_bipush (M := M_X10_putBytes) dX10_putBytes_16 (by decide +kernel) ?_
      refine z_iload (M := M_X10_putBytes) dX10_putBytes_18 rfl ?_
      refine z_imul (M := M_X10_putBytes) dX10_putBytes_20 ?_
      refine z_goto (M := M_X10_putBytes) (tgt := 33) dX10_putBytes_21 (by decide) ?_
      exact z_st (by rw [if_pos (c := (nz (σ_2 kO_lowFirst 0)) = true) h_16]) J_11
    · refine z_zeq_t (M := M_X10_putBytes) (tgt := 24) dX10_putBytes_13 (by decide) h_16 ?_
      refine z_bipush (M := M_X10_putBytes) dX10_putBytes_24 (by decide +kernel) ?_
      refine z_iload_n (M := M_X10_putBytes) dX10_putBytes_26 rfl ?_
      refine z_iconst (M := M_X10_putBytes) dX10_putBytes_27 ?_
      refine z_isub (M := M_X10_putBytes) dX10_putBytes_28 ?_
      refine z_iload (M := M_X10_putBytes) dX10_putBytes_29 rfl ?_
      refine z_isub (M := M_X10_putBytes) dX10_putBytes_31 ?_
      refine z_imul (M := M_X10_putBytes) dX10_putBytes_32 ?_
      exact z_st (by rw [if_neg (c := (nz (σ_2 kO_lowFirst 0)) = true) h_16]) J_11
  · refine z_icmp_ge_t (M := M_X10_putBytes) (tgt := 50) dX10_putBytes_6 (by decide) rfl rfl (Int.not_lt.mp h_10) ?_
    exact J_20 _ _ (K_9 _ (Option.some.inj H).symm).symm
end LFAC
