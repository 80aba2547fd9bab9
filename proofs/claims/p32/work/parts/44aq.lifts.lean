section LFAQ
variable {l : Launch} {E : EE}
theorem c_X12_beginShape (hl : l.stackTraces = false) {σ : SG} {r : Bool} {σ' : SG}  (H : fR_beginShape σ = some (r, σ')) : en_S l E M_X12_beginShape 12 0 0 [vr 277] σ (pS (some (zv r)) σ') := by
  unfold fR_beginShape at H
  refine z_mk (lv := [some (vr 277), none, none, none]) m_X12_beginShape rfl hl (Nat.le_of_ble_eq_true rfl) rfl ?_
  refine z_aload_n (M := M_X12_beginShape) dX12_beginShape_0 rfl ?_
  refine z_zconst (M := M_X12_beginShape) (b := false) dX12_beginShape_1 rfl ?_
  obtain ⟨σ_1, σ_1_e, H⟩ := wf_e H
  refine z_putZ (M := M_X12_beginShape) (ci := 15) (C := RX12) (T := TX12) (Nf := 135) (ty := tyX12) cl15 dX12_beginShape_2 ly_277 21 (by decide) t_2412 rfl rfl rfl rfl σ_1_e ?_
  refine z_aload_n (M := M_X12_beginShape) dX12_beginShape_5 rfl ?_
  obtain ⟨σ_3, hc_2, H⟩ := bd_e H
  refine z_callV (M := M_X12_beginShape) (M' := M_X12_skip) (as := []) (rest := []) rfl rfl dX12_beginShape_6 m_X12_skip t_2856 t_2858 s_163 (c_X12_skip hl  hc_2) rfl rfl ly_277 rfl (Nat.le_of_ble_eq_true rfl) (Nat.le_of_ble_eq_true rfl) (Nat.le_of_ble_eq_true rfl) (Nat.le_of_ble_eq_true rfl) ?_
  refine z_st (st' := []) rfl ?_
  refine z_aload_n (M := M_X12_beginShape) dX12_beginShape_9 rfl ?_
  obtain ⟨x_17, hc_16, H⟩ := bd_e H
  refine z_callV (M := M_X12_beginShape) (M' := M_X12_here) (as := []) (rest := []) rfl rfl dX12_beginShape_10 m_X12_here t_2860 t_2862 s_164 (c_X12_here hl  hc_16) rfl rfl ly_277 rfl (Nat.le_of_ble_eq_true rfl) (Nat.le_of_ble_eq_true rfl) (Nat.le_of_ble_eq_true rfl) (Nat.le_of_ble_eq_true rfl) ?_
  refine z_st (st' := [vi x_17]) rfl ?_
  refine z_iconst (M := M_X12_beginShape) dX12_beginShape_13 ?_
  rcases if_e H with ⟨h_18, H⟩ | ⟨h_18, H⟩
  · refine z_icmp_eq_t (M := M_X12_beginShape) (tgt := 27) dX12_beginShape_14 (by decide) rfl (by decide +kernel) h_18 ?_
    refine z_aload_n (M := M_X12_beginShape) dX12_beginShape_27 rfl ?_
    refine z_zconst (M := M_X12_beginShape) (b := true) dX12_beginShape_28 rfl ?_
    obtain ⟨⟨x_21, σ_20⟩, hc_19, H⟩ := bd_e H
    refine z_callV (M := M_X12_beginShape) (M' := M_X12_strange) (as := [zv true]) (rest := []) rfl rfl dX12_beginShape_29 m_X12_strange t_2870 t_2872 s_165 (c_X12_strange hl  hc_19) rfl rfl ly_277 rfl (Nat.le_of_ble_eq_true rfl) (Nat.le_of_ble_eq_true rfl) (Nat.le_of_ble_eq_true rfl) (Nat.le_of_ble_eq_true rfl) ?_
    refine z_st (st' := [zv x_21]) rfl ?_
    cases H
    exact z_zret (M := M_X12_beginShape) dX12_beginShape_32 rfl (Nat.le_of_ble_eq_true rfl) (Nat.le_of_ble_eq_true rfl) ⟨rfl, rfl⟩
  · refine z_icmp_eq_f (M := M_X12_beginShape) (tgt := 27) dX12_beginShape_14 (by decide) rfl (by decide +kernel) h_18 ?_
    refine z_aload_n (M := M_X12_beginShape) dX12_beginShape_17 rfl ?_
    obtain ⟨x_23, hc_22, H⟩ := bd_e H
    refine z_callV (M := M_X12_beginShape) (M' := M_X12_here) (as := []) (rest := []) rfl rfl dX12_beginShape_18 m_X12_here t_2860 t_2862 s_164 (c_X12_here hl  hc_22) rfl rfl ly_277 rfl (Nat.le_of_ble_eq_true rfl) (Nat.le_of_ble_eq_true rfl) (Nat.le_of_ble_eq_true rfl) (Nat.le_of_ble_eq_true rfl) ?_
    refine z_st (st' := [vi x_23]) rfl ?_
    refine z_callS (M := M_X12_beginShape) (M' := M_X12_isLetter) (as := [vi x_23]) (rest := []) rfl rfl dX12_beginShape_21 m_X12_isLetter t_2867 t_2868 (c_X12_isLetter hl  rfl) rfl rfl (Nat.le_of_ble_eq_true rfl) (Nat.le_of_ble_eq_true rfl) (Nat.le_of_ble_eq_true rfl) (Nat.le_of_ble_eq_true rfl) ?_
    refine z_st (st' := [zv (fR_isLetter x_23)]) rfl ?_
    rcases if_e H with ⟨h_24, H⟩ | ⟨h_24, H⟩
    · refine z_zne_t (M := M_X12_beginShape) (tgt := 33) dX12_beginShape_24 (by decide) h_24 ?_
      refine z_aload_n (M := M_X12_beginShape) dX12_beginShape_33 rfl ?_
      refine z_getI (M := M_X12_beginShape) (ci := 15) (C := RX12) (T := TX12) (Nf := 135) (ty := tyX12) cl15 dX12_beginShape_34 ly_277 17 (by decide) t_2408 rfl rfl ?_
      refine z_istore_n (M := M_X12_beginShape) (lv' := [some (vr 277), some (vi (σ_3 kR_at 0)), none, none]) dX12_beginShape_37 (Nat.le_of_ble_eq_true rfl) rfl rfl ?_
      refine z_aload_n (M := M_X12_beginShape) dX12_beginShape_38 rfl ?_
      obtain ⟨⟨x_27, σ_26⟩, hc_25, H⟩ := bd_e H
      refine z_callV (M := M_X12_beginShape) (M' := M_X12_word) (as := []) (rest := []) rfl rfl dX12_beginShape_39 m_X12_word t_2884 t_2886 s_167 (c_X12_word hl  hc_25) rfl rfl ly_277 rfl (Nat.le_of_ble_eq_true rfl) (Nat.le_of_ble_eq_true rfl) (Nat.le_of_ble_eq_true rfl) (Nat.le_of_ble_eq_true rfl) ?_
      refine z_st (st' := [vi x_27]) rfl ?_
      refine z_istore_n (M := M_X12_beginShape) (lv' := [some (vr 277), some (vi (σ_3 kR_at 0)), some (vi x_27), none]) dX12_beginShape_42 (Nat.le_of_ble_eq_true rfl) rfl rfl ?_
      rcases if_e H with ⟨h_117, H⟩ | ⟨h_117, H⟩
      · have J_118 : YY l E M_X12_beginShape 12 0 0 (pS (some (zv r)) σ') 53 [some (vr 277), some (vi (σ_3 kR_at 0)), some (vi x_27), none] [] σ_26 0 0 := by
          refine z_aload_n (M := M_X12_beginShape) dX12_beginShape_53 rfl ?_
          refine z_iconst (M := M_X12_beginShape) dX12_beginShape_54 ?_
          refine z_iload_n (M := M_X12_beginShape) dX12_beginShape_55 rfl ?_
          obtain ⟨⟨x_30, σ_29⟩, hc_28, H⟩ := bd_e H
          refine z_callV (M := M_X12_beginShape) (M' := M_X12_wrong) (as := [vi 2, vi (σ_3 kR_at 0)]) (rest := []) rfl rfl dX12_beginShape_56 m_X12_wrong t_2874 t_2876 s_166 (c_X12_wrong hl  hc_28) rfl rfl ly_277 rfl (Nat.le_of_ble_eq_true rfl) (Nat.le_of_ble_eq_true rfl) (Nat.le_of_ble_eq_true rfl) (Nat.le_of_ble_eq_true rfl) ?_
          refine z_st (st' := [zv x_30]) rfl ?_
          cases H
          exact z_zret (M := M_X12_beginShape) dX12_beginShape_59 rfl (Nat.le_of_ble_eq_true rfl) (Nat.le_of_ble_eq_true rfl) ⟨rfl, rfl⟩
        refine z_iload_n (M := M_X12_beginShape) dX12_beginShape_43 rfl ?_
        by_cases h_120 : (w32 x_27) = 0
        · refine z_if_eq_t (M := M_X12_beginShape) (tgt := 53) dX12_beginShape_44 (by decide) rfl h_120 ?_
          exact J_118
        · refine z_if_eq_f (M := M_X12_beginShape) (tgt := 53) dX12_beginShape_44 (by decide) rfl h_120 ?_
          refine z_iload_n (M := M_X12_beginShape) dX12_beginShape_47 rfl ?_
          refine z_bipush (M := M_X12_beginShape) dX12_beginShape_48 (by decide +kernel) ?_
          by_cases h_121 : (w32 x_27) = 8
          · refine z_icmp_ne_f (M := M_X12_beginShape) (tgt := 60) dX12_beginShape_50 (by decide) rfl (by decide +kernel) h_121 ?_
            exact J_118
          · refine z_icmp_ne_t (M := M_X12_beginShape) (tgt := 60) dX12_beginShape_50 (by decide) rfl (by decide +kernel) h_121 ?_
            exact absurd h_117 (fun q => q.elim h_120 h_121)
      · have J_119 : YY l E M_X12_beginShape 12 0 0 (pS (some (zv r)) σ') 60 [some (vr 277), some (vi (σ_3 kR_at 0)), some (vi x_27), none] [] σ_26 0 0 := by
          rcases if_e H with ⟨h_110, H⟩ | ⟨h_110, H⟩
          · have J_111 : YY l E M_X12_beginShape 12 0 0 (pS (some (zv r)) σ') 75 [some (vr 277), some (vi (σ_3 kR_at 0)), some (vi x_27), none] [] σ_26 0 0 := by
              refine z_aload_n (M := M_X12_beginShape) dX12_beginShape_75 rfl ?_
              refine z_bipush (M := M_X12_beginShape) dX12_beginShape_76 (by decide +kernel) ?_
              refine z_iload_n (M := M_X12_beginShape) dX12_beginShape_78 rfl ?_
              obtain ⟨⟨x_33, σ_32⟩, hc_31, H⟩ := bd_e H
              refine z_callV (M := M_X12_beginShape) (M' := M_X12_wrong) (as := [vi 6, vi (σ_3 kR_at 0)]) (rest := []) rfl rfl dX12_beginShape_79 m_X12_wrong t_2874 t_2876 s_166 (c_X12_wrong hl  hc_31) rfl rfl ly_277 rfl (Nat.le_of_ble_eq_true rfl) (Nat.le_of_ble_eq_true rfl) (Nat.le_of_ble_eq_true rfl) (Nat.le_of_ble_eq_true rfl) ?_
              refine z_st (st' := [zv x_33]) rfl ?_
              cases H
              exact z_zret (M := M_X12_beginShape) dX12_beginShape_82 rfl (Nat.le_of_ble_eq_true rfl) (Nat.le_of_ble_eq_true rfl) ⟨rfl, rfl⟩
            refine z_iload_n (M := M_X12_beginShape) dX12_beginShape_60 rfl ?_
            refine z_bipush (M := M_X12_beginShape) dX12_beginShape_61 (by decide +kernel) ?_
            by_cases h_113 : (w32 x_27) = 7
            · refine z_icmp_ne_f (M := M_X12_beginShape) (tgt := 83) dX12_beginShape_63 (by decide) rfl (by decide +kernel) h_113 ?_
              refine z_aload_n (M := M_X12_beginShape) dX12_beginShape_66 rfl ?_
              refine z_getI (M := M_X12_beginShape) (ci := 15) (C := RX12) (T := TX12) (Nf := 135) (ty := tyX12) cl15 dX12_beginShape_67 ly_277 20 (by decide) t_2411 rfl rfl ?_
              refine z_bipush (M := M_X12_beginShape) dX12_beginShape_70 (by decide +kernel) ?_
              by_cases h_114 : (w32 (σ_26 kR_open 0)) = 50
              · refine z_icmp_ne_f (M := M_X12_beginShape) (tgt := 83) dX12_beginShape_72 (by decide) rfl (by decide +kernel) h_114 ?_
                exact J_111
              · refine z_icmp_ne_t (M := M_X12_beginShape) (tgt := 83) dX12_beginShape_72 (by decide) rfl (by decide +kernel) h_114 ?_
                exact absurd h_110 (fun q => h_114 q.2)
            · refine z_icmp_ne_t (M := M_X12_beginShape) (tgt := 83) dX12_beginShape_63 (by decide) rfl (by decide +kernel) h_113 ?_
              exact absurd h_110 (fun q => h_113 q.1)
          · have J_112 : YY l E M_X12_beginShape 12 0 0 (pS (some (zv r)) σ') 83 [some (vr 277), some (vi (σ_3 kR_at 0)), some (vi x_27), none] [] σ_26 0 0 := by
              refine z_aload_n (M := M_X12_beginShape) dX12_beginShape_83 rfl ?_
              refine z_iload_n (M := M_X12_beginShape) dX12_beginShape_84 rfl ?_
              obtain ⟨⟨x_36, σ_35⟩, hc_34, H⟩ := bd_e H
              refine z_callV (M := M_X12_beginShape) (M' := M_X12_pair) (as := [vi x_27]) (rest := []) rfl rfl dX12_beginShape_85 m_X12_pair t_2898 t_2900 s_169 (c_X12_pair hl  hc_34) rfl rfl ly_277 rfl (Nat.le_of_ble_eq_true rfl) (Nat.le_of_ble_eq_true rfl) (Nat.le_of_ble_eq_true rfl) (Nat.le_of_ble_eq_true rfl) ?_
              refine z_st (st' := [zv x_36]) rfl ?_
              rcases if_e H with ⟨h_37, H⟩ | ⟨h_37, H⟩
              · refine z_zne_t (M := M_X12_beginShape) (tgt := 93) dX12_beginShape_88 (by decide) h_37 ?_
                refine z_aload_n (M := M_X12_beginShape) dX12_beginShape_93 rfl ?_
                refine z_getR (M := M_X12_beginShape) (ci := 15) (C := RX12) (T := TX12) (Nf := 135) (ty := tyX12) cl15 dX12_beginShape_94 ly_277 9 (by decide) t_2400 rfl ?_
                refine z_bipush (M := M_X12_beginShape) dX12_beginShape_97 (by decide +kernel) ?_
                obtain ⟨x_38, x_38_e, hi_39, H⟩ := rd_e H
                refine z_iald (M := M_X12_beginShape) dX12_beginShape_99 ly_280 rfl (by decide +kernel) rfl hi_39 x_38_e ?_
                refine z_iconst (M := M_X12_beginShape) dX12_beginShape_100 ?_
                refine z_isub (M := M_X12_beginShape) dX12_beginShape_101 ?_
                refine z_istore_n (M := M_X12_beginShape) (lv' := [some (vr 277), some (vi (σ_3 kR_at 0)), some (vi x_27), some (vi (x_38 - 1))]) dX12_beginShape_102 (Nat.le_of_ble_eq_true rfl) rfl rfl ?_
                obtain ⟨v_43, he_40, hk_41⟩ := bd_e H
                have J_109 : ∀ σ_51, v_43 = σ_51 → YY l E M_X12_beginShape 12 0 0 (pS (some (zv r)) σ') 125 [some (vr 277), some (vi (σ_3 kR_at 0)), some (vi x_27), some (vi (x_38 - 1))] [] σ_51 0 0 := by
                  intro σ_51 e
                  have H := hk_41
                  rw [e] at H
                  obtain ⟨v_104, he_105, hk_106⟩ := bd_e H
                  have J_107 : v_104 = true → YY l E M_X12_beginShape 12 0 0 (pS (some (zv r)) σ') 143 [some (vr 277), some (vi (σ_3 kR_at 0)), some (vi x_27), some (vi (x_38 - 1))] [] σ_51 0 0 := by
                    intro e
                    have H := hk_106
                    rw [e] at H
                    rcases if_e H with ⟨_, H⟩ | ⟨q, H⟩
                    · refine z_aload_n (M := M_X12_beginShape) dX12_beginShape_143 rfl ?_
                      obtain ⟨⟨x_88, σ_87⟩, hc_86, H⟩ := bd_e H
                      refine z_callV (M := M_X12_beginShape) (M' := M_X12_emptyWord) (as := []) (rest := []) rfl rfl dX12_beginShape_144 m_X12_emptyWord t_2910 t_2912 s_172 (c_X12_emptyWord hl  hc_86) rfl rfl ly_277 rfl (Nat.le_of_ble_eq_true rfl) (Nat.le_of_ble_eq_true rfl) (Nat.le_of_ble_eq_true rfl) (Nat.le_of_ble_eq_true rfl) ?_
                      refine z_st (st' := [zv x_88]) rfl ?_
                      cases H
                      exact z_zret (M := M_X12_beginShape) dX12_beginShape_147 rfl (Nat.le_of_ble_eq_true rfl) (Nat.le_of_ble_eq_true rfl) ⟨rfl, rfl⟩
                    · exact absurd rfl q
                  have J_108 : v_104 = false → YY l E M_X12_beginShape 12 0 0 (pS (some (zv r)) σ') 148 [some (vr 277), some (vi (σ_3 kR_at 0)), some (vi x_27), some (vi (x_38 - 1))] [] σ_51 0 0 := by
                    intro e
                    have H := hk_106
                    rw [e] at H
                    rcases if_e H with ⟨q, H⟩ | ⟨_, H⟩
                    · exact nomatch q
                    · refine z_aload_n (M := M_X12_beginShape) dX12_beginShape_148 rfl ?_
                      obtain ⟨x_90, hc_89, H⟩ := bd_e H
                      refine z_callV (M := M_X12_beginShape) (M' := M_X12_here) (as := []) (rest := []) rfl rfl dX12_beginShape_149 m_X12_here t_2860 t_2862 s_164 (c_X12_here hl  hc_89) rfl rfl ly_277 rfl (Nat.le_of_ble_eq_true rfl) (Nat.le_of_ble_eq_true rfl) (Nat.le_of_ble_eq_true rfl) (Nat.le_of_ble_eq_true rfl) ?_
                      refine z_st (st' := [vi x_90]) rfl ?_
                      refine z_bipush (M := M_X12_beginShape) dX12_beginShape_152 (by decide +kernel) ?_
                      rcases if_e H with ⟨h_91, H⟩ | ⟨h_91, H⟩
                      · refine z_icmp_eq_f (M := M_X12_beginShape) (tgt := 163) dX12_beginShape_154 (by decide) rfl (by decide +kernel) h_91 ?_
                        refine z_aload_n (M := M_X12_beginShape) dX12_beginShape_157 rfl ?_
                        refine z_zconst (M := M_X12_beginShape) (b := true) dX12_beginShape_158 rfl ?_
                        obtain ⟨⟨x_94, σ_93⟩, hc_92, H⟩ := bd_e H
                        refine z_callV (M := M_X12_beginShape) (M' := M_X12_strange) (as := [zv true]) (rest := []) rfl rfl dX12_beginShape_159 m_X12_strange t_2870 t_2872 s_165 (c_X12_strange hl  hc_92) rfl rfl ly_277 rfl (Nat.le_of_ble_eq_true rfl) (Nat.le_of_ble_eq_true rfl) (Nat.le_of_ble_eq_true rfl) (Nat.le_of_ble_eq_true rfl) ?_
                        refine z_st (st' := [zv x_94]) rfl ?_
                        cases H
                        exact z_zret (M := M_X12_beginShape) dX12_beginShape_162 rfl (Nat.le_of_ble_eq_true rfl) (Nat.le_of_ble_eq_true rfl) ⟨rfl, rfl⟩
                      · refine z_icmp_eq_t (M := M_X12_beginShape) (tgt := 163) dX12_beginShape_154 (by decide) rfl (by decide +kernel) (Decidable.not_not.mp h_91) ?_
                        refine z_aload_n (M := M_X12_beginShape) dX12_beginShape_163 rfl ?_
                        refine z_dup (M := M_X12_beginShape) dX12_beginShape_164 rfl ?_
                        refine z_getI (M := M_X12_beginShape) (ci := 15) (C := RX12) (T := TX12) (Nf := 135) (ty := tyX12) cl15 dX12_beginShape_165 ly_277 17 (by decide) t_2408 rfl rfl ?_
                        refine z_iconst (M := M_X12_beginShape) dX12_beginShape_168 ?_
                        refine z_iadd (M := M_X12_beginShape) dX12_beginShape_169 ?_
                        obtain ⟨σ_95, σ_95_e, H⟩ := wf_e H
                        refine z_putI (M := M_X12_beginShape) (ci := 15) (C := RX12) (T := TX12) (Nf := 135) (ty := tyX12) cl15 dX12_beginShape_170 ly_277 17 (by decide) t_2408 rfl rfl rfl rfl σ_95_e ?_
                        refine z_iload_n (M := M_X12_beginShape) dX12_beginShape_173 rfl ?_
                        refine z_bipush (M := M_X12_beginShape) dX12_beginShape_174 (by decide +kernel) ?_
                        rcases if_e H with ⟨h_96, H⟩ | ⟨h_96, H⟩
                        · refine z_icmp_ne_f (M := M_X12_beginShape) (tgt := 206) dX12_beginShape_176 (by decide) rfl (by decide +kernel) h_96 ?_
                          refine z_aload_n (M := M_X12_beginShape) dX12_beginShape_179 rfl ?_
                          refine z_getR (M := M_X12_beginShape) (ci := 15) (C := RX12) (T := TX12) (Nf := 135) (ty := tyX12) cl15 dX12_beginShape_180 ly_277 19 (by decide) t_2410 rfl ?_
                          refine z_aload_n (M := M_X12_beginShape) dX12_beginShape_183 rfl ?_
                          refine z_getI (M := M_X12_beginShape) (ci := 15) (C := RX12) (T := TX12) (Nf := 135) (ty := tyX12) cl15 dX12_beginShape_184 ly_277 20 (by decide) t_2411 rfl rfl ?_
                          refine z_iload_n (M := M_X12_beginShape) dX12_beginShape_187 rfl ?_
                          obtain ⟨σ_97, σ_97_e, hi_98, H⟩ := wa_e H
                          refine z_iast (M := M_X12_beginShape) dX12_beginShape_188 ly_287 rfl rfl rfl hi_98 σ_97_e ?_
                          refine z_aload_n (M := M_X12_beginShape) dX12_beginShape_189 rfl ?_
                          refine z_dup (M := M_X12_beginShape) dX12_beginShape_190 rfl ?_
                          refine z_getI (M := M_X12_beginShape) (ci := 15) (C := RX12) (T := TX12) (Nf := 135) (ty := tyX12) cl15 dX12_beginShape_191 ly_277 20 (by decide) t_2411 rfl rfl ?_
                          refine z_iconst (M := M_X12_beginShape) dX12_beginShape_194 ?_
                          refine z_iadd (M := M_X12_beginShape) dX12_beginShape_195 ?_
                          obtain ⟨σ_99, σ_99_e, H⟩ := wf_e H
                          refine z_putI (M := M_X12_beginShape) (ci := 15) (C := RX12) (T := TX12) (Nf := 135) (ty := tyX12) cl15 dX12_beginShape_196 ly_277 20 (by decide) t_2411 rfl rfl rfl rfl σ_99_e ?_
                          refine z_aload_n (M := M_X12_beginShape) dX12_beginShape_199 rfl ?_
                          refine z_zconst (M := M_X12_beginShape) (b := true) dX12_beginShape_200 rfl ?_
                          obtain ⟨σ_100, σ_100_e, H⟩ := wf_e H
                          refine z_putZ (M := M_X12_beginShape) (ci := 15) (C := RX12) (T := TX12) (Nf := 135) (ty := tyX12) cl15 dX12_beginShape_201 ly_277 21 (by decide) t_2412 rfl rfl rfl rfl σ_100_e ?_
                          refine z_zconst (M := M_X12_beginShape) (b := true) dX12_beginShape_204 rfl ?_
                          cases H
                          exact z_zret (M := M_X12_beginShape) dX12_beginShape_205 rfl (Nat.le_of_ble_eq_true rfl) (Nat.le_of_ble_eq_true rfl) ⟨rfl, rfl⟩
                        · refine z_icmp_ne_t (M := M_X12_beginShape) (tgt := 206) dX12_beginShape_176 (by decide) rfl (by decide +kernel) h_96 ?_
                          refine z_aload_n (M := M_X12_beginShape) dX12_beginShape_206 rfl ?_
                          refine z_iload_n (M := M_X12_beginShape) dX12_beginShape_207 rfl ?_
                          refine z_iload_n (M := M_X12_beginShape) dX12_beginShape_208 rfl ?_
                          obtain ⟨⟨x_103, σ_102⟩, hc_101, H⟩ := bd_e H
                          refine z_callV (M := M_X12_beginShape) (M' := M_X12_body) (as := [vi x_27, vi (x_38 - 1)]) (rest := []) rfl rfl dX12_beginShape_209 m_X12_body t_2914 t_2916 s_173 (c_X12_body hl  hc_101) rfl rfl ly_277 rfl (Nat.le_of_ble_eq_true rfl) (Nat.le_of_ble_eq_true rfl) (Nat.le_of_ble_eq_true rfl) (Nat.le_of_ble_eq_true rfl) ?_
                          refine z_st (st' := [zv x_103]) rfl ?_
                          cases H
                          exact z_zret (M := M_X12_beginShape) dX12_beginShape_212 rfl (Nat.le_of_ble_eq_true rfl) (Nat.le_of_ble_eq_true rfl) ⟨rfl, rfl⟩
                  have H := he_105
                  refine z_aload_n (M := M_X12_beginShape) dX12_beginShape_125 rfl ?_
                  obtain ⟨x_77, hc_76, H⟩ := bd_e H
                  refine z_callV (M := M_X12_beginShape) (M' := M_X12_here) (as := []) (rest := []) rfl rfl dX12_beginShape_126 m_X12_here t_2860 t_2862 s_164 (c_X12_here hl  hc_76) rfl rfl ly_277 rfl (Nat.le_of_ble_eq_true rfl) (Nat.le_of_ble_eq_true rfl) (Nat.le_of_ble_eq_true rfl) (Nat.le_of_ble_eq_true rfl) ?_
                  refine z_st (st' := [vi x_77]) rfl ?_
                  refine z_iconst (M := M_X12_beginShape) dX12_beginShape_129 ?_
                  rcases if_e H with ⟨h_78, H⟩ | ⟨h_78, H⟩
                  · refine z_icmp_eq_f (M := M_X12_beginShape) (tgt := 148) dX12_beginShape_130 (by decide) rfl (by decide +kernel) h_78 ?_
                    refine z_aload_n (M := M_X12_beginShape) dX12_beginShape_133 rfl ?_
                    obtain ⟨x_80, hc_79, H⟩ := bd_e H
                    refine z_callV (M := M_X12_beginShape) (M' := M_X12_here) (as := []) (rest := []) rfl rfl dX12_beginShape_134 m_X12_here t_2860 t_2862 s_164 (c_X12_here hl  hc_79) rfl rfl ly_277 rfl (Nat.le_of_ble_eq_true rfl) (Nat.le_of_ble_eq_true rfl) (Nat.le_of_ble_eq_true rfl) (Nat.le_of_ble_eq_true rfl) ?_
                    refine z_st (st' := [vi x_80]) rfl ?_
                    refine z_callS (M := M_X12_beginShape) (M' := M_X12_isLetter) (as := [vi x_80]) (rest := []) rfl rfl dX12_beginShape_137 m_X12_isLetter t_2867 t_2868 (c_X12_isLetter hl  rfl) rfl rfl (Nat.le_of_ble_eq_true rfl) (Nat.le_of_ble_eq_true rfl) (Nat.le_of_ble_eq_true rfl) (Nat.le_of_ble_eq_true rfl) ?_
                    refine z_st (st' := [zv (fR_isLetter x_80)]) rfl ?_
                    rcases if_e H with ⟨h_81, H⟩ | ⟨h_81, H⟩
                    · refine z_zeq_f (M := M_X12_beginShape) (tgt := 148) dX12_beginShape_140 (by decide) h_81 ?_
                      exact J_107 (Option.some.inj H).symm
                    · refine z_zeq_t (M := M_X12_beginShape) (tgt := 148) dX12_beginShape_140 (by decide) h_81 ?_
                      exact J_108 (Option.some.inj H).symm
                  · refine z_icmp_eq_t (M := M_X12_beginShape) (tgt := 148) dX12_beginShape_130 (by decide) rfl (by decide +kernel) (Decidable.not_not.mp h_78) ?_
                    exact J_108 (Option.some.inj H).symm
                have H := he_40
                refine z_aload_n (M := M_X12_beginShape) dX12_beginShape_103 rfl ?_
                refine z_getI (M := M_X12_beginShape) (ci := 15) (C := RX12) (T := TX12) (Nf := 135) (ty := tyX12) cl15 dX12_beginShape_104 ly_277 20 (by decide) t_2411 rfl rfl ?_
                rcases if_e H with ⟨h_44, H⟩ | ⟨h_44, H⟩
                · refine z_if_le_f (M := M_X12_beginShape) (tgt := 125) dX12_beginShape_107 (by decide) rfl h_44 ?_
                  refine z_aload_n (M := M_X12_beginShape) dX12_beginShape_110 rfl ?_
                  refine z_aload_n (M := M_X12_beginShape) dX12_beginShape_111 rfl ?_
                  refine z_getR (M := M_X12_beginShape) (ci := 15) (C := RX12) (T := TX12) (Nf := 135) (ty := tyX12) cl15 dX12_beginShape_112 ly_277 19 (by decide) t_2410 rfl ?_
                  refine z_aload_n (M := M_X12_beginShape) dX12_beginShape_115 rfl ?_
                  refine z_getI (M := M_X12_beginShape) (ci := 15) (C := RX12) (T := TX12) (Nf := 135) (ty := tyX12) cl15 dX12_beginShape_116 ly_277 20 (by decide) t_2411 rfl rfl ?_
                  refine z_iconst (M := M_X12_beginShape) dX12_beginShape_119 ?_
                  refine z_isub (M := M_X12_beginShape) dX12_beginShape_120 ?_
                  obtain ⟨x_45, x_45_e, hi_46, H⟩ := rd_e H
                  refine z_iald (M := M_X12_beginShape) dX12_beginShape_121 ly_287 rfl rfl rfl hi_46 x_45_e ?_
                  obtain ⟨σ_48, hc_47, H⟩ := bd_e H
                  refine z_callV (M := M_X12_beginShape) (M' := M_X12_more) (as := [vi x_45]) (rest := []) rfl rfl dX12_beginShape_122 m_X12_more t_2906 t_2908 s_171 (c_X12_more hl  hc_47) rfl rfl ly_277 rfl (Nat.le_of_ble_eq_true rfl) (Nat.le_of_ble_eq_true rfl) (Nat.le_of_ble_eq_true rfl) (Nat.le_of_ble_eq_true rfl) ?_
                  refine z_st (st' := []) rfl ?_
                  exact J_109 _ (Option.some.inj H).symm
                · refine z_if_le_t (M := M_X12_beginShape) (tgt := 125) dX12_beginShape_107 (by decide) rfl (Int.not_lt.mp h_44) ?_
                  exact J_109 _ (Option.some.inj H).symm
              · refine z_zne_f (M := M_X12_beginShape) (tgt := 93) dX12_beginShape_88 (by decide) h_37 ?_
                refine z_zconst (M := M_X12_beginShape) (b := false) dX12_beginShape_91 rfl ?_
                cases H
                exact z_zret (M := M_X12_beginShape) dX12_beginShape_92 rfl (Nat.le_of_ble_eq_true rfl) (Nat.le_of_ble_eq_true rfl) ⟨rfl, rfl⟩
            refine z_iload_n (M := M_X12_beginShape) dX12_beginShape_60 rfl ?_
            refine z_bipush (M := M_X12_beginShape) dX12_beginShape_61 (by decide +kernel) ?_
            by_cases h_115 : (w32 x_27) = 7
            · refine z_icmp_ne_f (M := M_X12_beginShape) (tgt := 83) dX12_beginShape_63 (by decide) rfl (by decide +kernel) h_115 ?_
              refine z_aload_n (M := M_X12_beginShape) dX12_beginShape_66 rfl ?_
              refine z_getI (M := M_X12_beginShape) (ci := 15) (C := RX12) (T := TX12) (Nf := 135) (ty := tyX12) cl15 dX12_beginShape_67 ly_277 20 (by decide) t_2411 rfl rfl ?_
              refine z_bipush (M := M_X12_beginShape) dX12_beginShape_70 (by decide +kernel) ?_
              by_cases h_116 : (w32 (σ_26 kR_open 0)) = 50
              · refine z_icmp_ne_f (M := M_X12_beginShape) (tgt := 83) dX12_beginShape_72 (by decide) rfl (by decide +kernel) h_116 ?_
                exact absurd ⟨h_115, h_116⟩ h_110
              · refine z_icmp_ne_t (M := M_X12_beginShape) (tgt := 83) dX12_beginShape_72 (by decide) rfl (by decide +kernel) h_116 ?_
                exact J_112
            · refine z_icmp_ne_t (M := M_X12_beginShape) (tgt := 83) dX12_beginShape_63 (by decide) rfl (by decide +kernel) h_115 ?_
              exact J_112
        refine z_iload_n (M := M_X12_beginShape) dX12_beginShape_43 rfl ?_
        by_cases h_122 : (w32 x_27) = 0
        · refine z_if_eq_t (M := M_X12_beginShape) (tgt := 53) dX12_beginShape_44 (by decide) rfl h_122 ?_
          exact absurd (Or.inl h_122) h_117
        · refine z_if_eq_f (M := M_X12_beginShape) (tgt := 53) dX12_beginShape_44 (by decide) rfl h_122 ?_
          refine z_iload_n (M := M_X12_beginShape) dX12_beginShape_47 rfl ?_
          refine z_bipush (M := M_X12_beginShape) dX12_beginShape_48 (by decide +kernel) ?_
          by_cases h_123 : (w32 x_27) = 8
          · refine z_icmp_ne_f (M := M_X12_beginShape) (tgt := 60) dX12_beginShape_50 (by decide) rfl (by decide +kernel) h_123 ?_
            exact absurd (Or.inr h_123) h_117
          · refine z_icmp_ne_t (M := M_X12_beginShape) (tgt := 60) dX12_beginShape_50 (by decide) rfl (by decide +kernel) h_123 ?_
            exact J_119
    · refine z_zne_f (M := M_X12_beginShape) (tgt := 33) dX12_beginShape_24 (by decide) h_24 ?_
      refine z_aload_n (M := M_X12_beginShape) dX12_beginShape_27 rfl ?_
      refine z_zconst (M := M_X12_beginShape) (b := true) dX12_beginShape_28 rfl ?_
      obtain ⟨⟨x_126, σ_125⟩, hc_124, H⟩ := bd_e H
      refine z_callV (M := M_X12_beginShape) (M' := M_X12_strange) (as := [zv true]) (rest := []) rfl rfl dX12_beginShape_29 m_X12_strange t_2870 t_2872 s_165 (c_X12_strange hl  hc_124) rfl rfl ly_277 rfl (Nat.le_of_ble_eq_true rfl) (Nat.le_of_ble_eq_true rfl) (Nat.le_of_ble_eq_true rfl) (Nat.le_of_ble_eq_true rfl) ?_
      refine z_st (st' := [zv x_126]) rfl ?_
      cases H
      exact z_zret (M := M_X12_beginShape) dX12_beginShape_32 rfl (Nat.le_of_ble_eq_true rfl) (Nat.le_of_ble_eq_true rfl) ⟨rfl, rfl⟩
theorem c_X12_words (hl : l.stackTraces = false) {σ : SG} {r : Bool} {σ' : SG}  (H : fR_words σ = some (r, σ')) : en_S l E M_X12_words 13 0 0 [vr 277] σ (pS (some (zv r)) σ') := by
  unfold fR_words at H
  refine z_mk (lv := [some (vr 277), none, none]) m_X12_words rfl hl (Nat.le_of_ble_eq_true rfl) rfl ?_
  refine z_aload_n (M := M_X12_words) dX12_words_0 rfl ?_
  refine z_iconst (M := M_X12_words) dX12_words_1 ?_
  obtain ⟨σ_1, σ_1_e, H⟩ := wf_e H
  refine z_putI (M := M_X12_words) (ci := 15) (C := RX12) (T := TX12) (Nf := 135) (ty := tyX12) cl15 dX12_words_2 ly_277 17 (by decide) t_2408 rfl rfl rfl rfl σ_1_e ?_
  refine z_aload_n (M := M_X12_words) dX12_words_5 rfl ?_
  refine z_iconst (M := M_X12_words) dX12_words_6 ?_
  obtain ⟨σ_2, σ_2_e, H⟩ := wf_e H
  refine z_putI (M := M_X12_words) (ci := 15) (C := RX12) (T := TX12) (Nf := 135) (ty := tyX12) cl15 dX12_words_7 ly_277 20 (by decide) t_2411 rfl rfl rfl rfl σ_2_e ?_
  refine z_aload_n (M := M_X12_words) dX12_words_10 rfl ?_
  refine z_bipush (M := M_X12_words) dX12_words_11 (by decide +kernel) ?_
  obtain ⟨σ_4, hc_3, H⟩ := bd_e H
  refine z_callV (M := M_X12_words) (M' := M_X12_clear) (as := [vi 32]) (rest := []) rfl rfl dX12_words_13 m_X12_clear t_2848 t_2850 s_161 (c_X12_clear hl  hc_3) rfl rfl ly_277 rfl (Nat.le_of_ble_eq_true rfl) (Nat.le_of_ble_eq_true rfl) (Nat.le_of_ble_eq_true rfl) (Nat.le_of_ble_eq_true rfl) ?_
  refine z_st (st' := []) rfl ?_
  refine z_zconst (M := M_X12_words) (b := true) dX12_words_16 rfl ?_
  refine z_zstore_n (M := M_X12_words) (lv' := [some (vr 277), some (zv true), none]) dX12_words_17 (Nat.le_of_ble_eq_true rfl) rfl rfl ?_
  refine z_zconst (M := M_X12_words) (b := true) dX12_words_18 rfl ?_
  refine z_zstore_n (M := M_X12_words) (lv' := [some (vr 277), some (zv true), some (zv true)]) dX12_words_19 (Nat.le_of_ble_eq_true rfl) rfl rfl ?_
  obtain ⟨rl_11, hw_8, hk_9⟩ := bd_e H
  have J_88 : ∀ good_68 want_69 σ_70, rl_11 = (good_68, want_69, σ_70) → YY l E M_X12_words 13 0 0 (pS (some (zv r)) σ') 133 [some (vr 277), some (zv good_68), some (zv want_69)] [] σ_70 0 0 := by
    intro good_68 want_69 σ_70 e
    have H := hk_9
    rw [e] at H
    refine z_zload_n (M := M_X12_words) dX12_words_133 rfl ?_
    rcases if_e H with ⟨h_71, H⟩ | ⟨h_71, H⟩
    · refine z_zne_t (M := M_X12_words) (tgt := 139) dX12_words_134 (by decide) h_71 ?_
      refine z_aload_n (M := M_X12_words) dX12_words_139 rfl ?_
      obtain ⟨σ_73, hc_72, H⟩ := bd_e H
      refine z_callV (M := M_X12_words) (M' := M_X12_skip) (as := []) (rest := []) rfl rfl dX12_words_140 m_X12_skip t_2856 t_2858 s_163 (c_X12_skip hl  hc_72) rfl rfl ly_277 rfl (Nat.le_of_ble_eq_true rfl) (Nat.le_of_ble_eq_true rfl) (Nat.le_of_ble_eq_true rfl) (Nat.le_of_ble_eq_true rfl) ?_
      refine z_st (st' := []) rfl ?_
      obtain ⟨v_84, he_85, hk_86⟩ := bd_e H
      have J_87 : ∀ x_82 σ_83, v_84 = (x_82, σ_83) → YY l E M_X12_words 13 0 0 (pS (some (zv r)) σ') 172 [some (vr 277), some (zv good_68), some (zv want_69)] [zv x_82] σ_83 0 0 := by
        intro x_82 σ_83 e
        have H := hk_86
        rw [e] at H
        cases H
        exact z_zret (M := M_X12_words) dX12_words_172 rfl (Nat.le_of_ble_eq_true rfl) (Nat.le_of_ble_eq_true rfl) ⟨rfl, rfl⟩
      have H := he_85
      refine z_aload_n (M := M_X12_words) dX12_words_143 rfl ?_
      refine z_getI (M := M_X12_words) (ci := 15) (C := RX12) (T := TX12) (Nf := 135) (ty := tyX12) cl15 dX12_words_144 ly_277 17 (by decide) t_2408 rfl rfl ?_
      refine z_aload_n (M := M_X12_words) dX12_words_147 rfl ?_
      refine z_getI (M := M_X12_words) (ci := 15) (C := RX12) (T := TX12) (Nf := 135) (ty := tyX12) cl15 dX12_words_148 ly_277 18 (by decide) t_2409 rfl rfl ?_
      rcases if_e H with ⟨h_74, H⟩ | ⟨h_74, H⟩
      · refine z_icmp_eq_t (M := M_X12_words) (tgt := 167) dX12_words_151 (by decide) rfl rfl h_74 ?_
        refine z_zconst (M := M_X12_words) (b := true) dX12_words_167 rfl ?_
        refine z_goto (M := M_X12_words) (tgt := 172) dX12_words_168 (by decide) ?_
        exact J_87 _ _ (Option.some.inj H).symm
      · refine z_icmp_eq_f (M := M_X12_words) (tgt := 167) dX12_words_151 (by decide) rfl rfl h_74 ?_
        refine z_aload_n (M := M_X12_words) dX12_words_154 rfl ?_
        refine z_bipush (M := M_X12_words) dX12_words_155 (by decide +kernel) ?_
        refine z_aload_n (M := M_X12_words) dX12_words_157 rfl ?_
        refine z_getI (M := M_X12_words) (ci := 15) (C := RX12) (T := TX12) (Nf := 135) (ty := tyX12) cl15 dX12_words_158 ly_277 17 (by decide) t_2408 rfl rfl ?_
        obtain ⟨⟨x_78, σ_77⟩, hc_76, H⟩ := bd_e H
        refine z_callV (M := M_X12_words) (M' := M_X12_wrong) (as := [vi 8, vi (σ_73 kR_at 0)]) (rest := []) rfl rfl dX12_words_161 m_X12_wrong t_2874 t_2876 s_166 (c_X12_wrong hl  hc_76) rfl rfl ly_277 rfl (Nat.le_of_ble_eq_true rfl) (Nat.le_of_ble_eq_true rfl) (Nat.le_of_ble_eq_true rfl) (Nat.le_of_ble_eq_true rfl) ?_
        refine z_st (st' := [zv x_78]) rfl ?_
        rcases if_e H with ⟨h_79, H⟩ | ⟨h_79, H⟩
        · refine z_zeq_f (M := M_X12_words) (tgt := 171) dX12_words_164 (by decide) h_79 ?_
          refine z_zconst (M := M_X12_words) (b := true) dX12_words_167 rfl ?_
          refine z_goto (M := M_X12_words) (tgt := 172) dX12_words_168 (by decide) ?_
          exact J_87 _ _ (Option.some.inj H).symm
        · refine z_zeq_t (M := M_X12_words) (tgt := 171) dX12_words_164 (by decide) h_79 ?_
          refine z_zconst (M := M_X12_words) (b := false) dX12_words_171 rfl ?_
          exact J_87 _ _ (Option.some.inj H).symm
    · refine z_zne_f (M := M_X12_words) (tgt := 139) dX12_words_134 (by decide) h_71 ?_
      refine z_zconst (M := M_X12_words) (b := false) dX12_words_137 rfl ?_
      cases H
      exact z_zret (M := M_X12_words) dX12_words_138 rfl (Nat.le_of_ble_eq_true rfl) (Nat.le_of_ble_eq_true rfl) ⟨rfl, rfl⟩
  refine whl_go hw_8 (fun (good_5, want_6, σ_7) => YY l E M_X12_words 13 0 0 (pS (some (zv r)) σ') 20 [some (vr 277), some (zv good_5), some (zv want_6)] [] σ_7 0 0) ?_
  rintro ⟨good_5, want_6, σ_7⟩ o_12 H K_13 K_14
  rcases if_e H with ⟨h_59, H⟩ | ⟨h_59, H⟩
  · have J_60 : YY l E M_X12_words 13 0 0 (pS (some (zv r)) σ') 35 [some (vr 277), some (zv good_5), some (zv want_6)] [] σ_7 0 0 := by
      refine z_zload_n (M := M_X12_words) dX12_words_35 rfl ?_
      rcases if_e H with ⟨h_15, H⟩ | ⟨h_15, H⟩
      · refine z_zeq_f (M := M_X12_words) (tgt := 64) dX12_words_36 (by decide) h_15 ?_
        refine z_aload_n (M := M_X12_words) dX12_words_39 rfl ?_
        obtain ⟨⟨x_18, σ_17⟩, hc_16, H⟩ := bd_e H
        refine z_callV (M := M_X12_words) (M' := M_X12_beginShape) (as := []) (rest := []) rfl rfl dX12_words_40 m_X12_beginShape t_2852 t_2854 s_162 (c_X12_beginShape hl  hc_16) rfl rfl ly_277 rfl (Nat.le_of_ble_eq_true rfl) (Nat.le_of_ble_eq_true rfl) (Nat.le_of_ble_eq_true rfl) (Nat.le_of_ble_eq_true rfl) ?_
        refine z_st (st' := [zv x_18]) rfl ?_
        refine z_zstore_n (M := M_X12_words) (lv' := [some (vr 277), some (zv x_18), some (zv want_6)]) dX12_words_43 (Nat.le_of_ble_eq_true rfl) rfl rfl ?_
        have J_19 : YY l E M_X12_words 13 0 0 (pS (some (zv r)) σ') 60 [some (vr 277), some (zv x_18), some (zv want_6)] [zv (decide ((x_18 = true) ∧ ((nz (σ_17 kR_opened 0)) = true)))] σ_17 0 0 := by
          obtain ⟨x_20, x_20_e, H⟩ := lt_e H
          refine z_st (congrArg (fun z => zv z :: []) x_20_e) ?_
          refine z_zstore_n (M := M_X12_words) (lv' := [some (vr 277), some (zv x_18), some (zv x_20)]) dX12_words_60 (Nat.le_of_ble_eq_true rfl) rfl rfl ?_
          refine z_goto (M := M_X12_words) (tgt := 20) dX12_words_61 (by decide) ?_
          exact K_13 _ (Option.some.inj H).symm
        refine z_zload_n (M := M_X12_words) dX12_words_44 rfl ?_
        by_cases h_22 : x_18 = true
        · refine z_zeq_f (M := M_X12_words) (tgt := 59) dX12_words_45 (by decide) h_22 ?_
          refine z_aload_n (M := M_X12_words) dX12_words_48 rfl ?_
          refine z_getZ (M := M_X12_words) (ci := 15) (C := RX12) (T := TX12) (Nf := 135) (ty := tyX12) cl15 dX12_words_49 ly_277 21 (by decide) t_2412 rfl rfl ?_
          by_cases h_23 : (nz (σ_17 kR_opened 0)) = true
          · refine z_zeq_f (M := M_X12_words) (tgt := 59) dX12_words_52 (by decide) h_23 ?_
            refine z_iconst (M := M_X12_words) dX12_words_55 ?_
            refine z_goto (M := M_X12_words) (tgt := 60) dX12_words_56 (by decide) ?_
            exact z_st (by rw [zv_t (p := (x_18 = true) ∧ ((nz (σ_17 kR_opened 0)) = true)) ⟨h_22, h_23⟩]) J_19
          · refine z_zeq_t (M := M_X12_words) (tgt := 59) dX12_words_52 (by decide) h_23 ?_
            refine z_iconst (M := M_X12_words) dX12_words_59 ?_
            exact z_st (by rw [zv_f (p := (x_18 = true) ∧ ((nz (σ_17 kR_opened 0)) = true)) (fun q => h_23 q.2)]) J_19
        · refine z_zeq_t (M := M_X12_words) (tgt := 59) dX12_words_45 (by decide) h_22 ?_
          refine z_iconst (M := M_X12_words) dX12_words_59 ?_
          exact z_st (by rw [zv_f (p := (x_18 = true) ∧ ((nz (σ_17 kR_opened 0)) = true)) (fun q => h_22 q.1)]) J_19
      · refine z_zeq_t (M := M_X12_words) (tgt := 64) dX12_words_36 (by decide) h_15 ?_
        refine z_aload_n (M := M_X12_words) dX12_words_64 rfl ?_
        obtain ⟨σ_25, hc_24, H⟩ := bd_e H
        refine z_callV (M := M_X12_words) (M' := M_X12_skip) (as := []) (rest := []) rfl rfl dX12_words_65 m_X12_skip t_2856 t_2858 s_163 (c_X12_skip hl  hc_24) rfl rfl ly_277 rfl (Nat.le_of_ble_eq_true rfl) (Nat.le_of_ble_eq_true rfl) (Nat.le_of_ble_eq_true rfl) (Nat.le_of_ble_eq_true rfl) ?_
        refine z_st (st' := []) rfl ?_
        obtain ⟨v_29, he_26, hk_27⟩ := bd_e H
        have J_57 : ∀ good_53 want_54 σ_55, v_29 = (good_53, want_54, σ_55) → YY l E M_X12_words 13 0 0 (pS (some (zv r)) σ') 20 [some (vr 277), some (zv good_53), some (zv want_54)] [] σ_55 0 0 := by
          intro good_53 want_54 σ_55 e
          have H := hk_27
          rw [e] at H
          exact K_13 _ (Option.some.inj H).symm
        have H := he_26
        refine z_aload_n (M := M_X12_words) dX12_words_68 rfl ?_
        obtain ⟨x_31, hc_30, H⟩ := bd_e H
        refine z_callV (M := M_X12_words) (M' := M_X12_here) (as := []) (rest := []) rfl rfl dX12_words_69 m_X12_here t_2860 t_2862 s_164 (c_X12_here hl  hc_30) rfl rfl ly_277 rfl (Nat.le_of_ble_eq_true rfl) (Nat.le_of_ble_eq_true rfl) (Nat.le_of_ble_eq_true rfl) (Nat.le_of_ble_eq_true rfl) ?_
        refine z_st (st' := [vi x_31]) rfl ?_
        refine z_bipush (M := M_X12_words) dX12_words_72 (by decide +kernel) ?_
        rcases if_e H with ⟨h_32, H⟩ | ⟨h_32, H⟩
        · refine z_icmp_ne_f (M := M_X12_words) (tgt := 92) dX12_words_74 (by decide) rfl (by decide +kernel) h_32 ?_
          refine z_aload_n (M := M_X12_words) dX12_words_77 rfl ?_
          refine z_dup (M := M_X12_words) dX12_words_78 rfl ?_
          refine z_getI (M := M_X12_words) (ci := 15) (C := RX12) (T := TX12) (Nf := 135) (ty := tyX12) cl15 dX12_words_79 ly_277 17 (by decide) t_2408 rfl rfl ?_
          refine z_iconst (M := M_X12_words) dX12_words_82 ?_
          refine z_iadd (M := M_X12_words) dX12_words_83 ?_
          obtain ⟨σ_33, σ_33_e, H⟩ := wf_e H
          refine z_putI (M := M_X12_words) (ci := 15) (C := RX12) (T := TX12) (Nf := 135) (ty := tyX12) cl15 dX12_words_84 ly_277 17 (by decide) t_2408 rfl rfl rfl rfl σ_33_e ?_
          refine z_zconst (M := M_X12_words) (b := true) dX12_words_87 rfl ?_
          refine z_zstore_n (M := M_X12_words) (lv' := [some (vr 277), some (zv good_5), some (zv true)]) dX12_words_88 (Nat.le_of_ble_eq_true rfl) rfl rfl ?_
          refine z_goto (M := M_X12_words) (tgt := 20) dX12_words_89 (by decide) ?_
          exact J_57 _ _ _ (Option.some.inj H).symm
        · refine z_icmp_ne_t (M := M_X12_words) (tgt := 92) dX12_words_74 (by decide) rfl (by decide +kernel) h_32 ?_
          obtain ⟨v_38, he_35, hk_36⟩ := bd_e H
          have J_52 : ∀ good_49 σ_50, v_38 = (good_49, σ_50) → YY l E M_X12_words 13 0 0 (pS (some (zv r)) σ') 20 [some (vr 277), some (zv good_49), some (zv want_6)] [] σ_50 0 0 := by
            intro good_49 σ_50 e
            have H := hk_36
            rw [e] at H
            exact J_57 _ _ _ (Option.some.inj H).symm
          have H := he_35
          refine z_aload_n (M := M_X12_words) dX12_words_92 rfl ?_
          obtain ⟨x_40, hc_39, H⟩ := bd_e H
          refine z_callV (M := M_X12_words) (M' := M_X12_here) (as := []) (rest := []) rfl rfl dX12_words_93 m_X12_here t_2860 t_2862 s_164 (c_X12_here hl  hc_39) rfl rfl ly_277 rfl (Nat.le_of_ble_eq_true rfl) (Nat.le_of_ble_eq_true rfl) (Nat.le_of_ble_eq_true rfl) (Nat.le_of_ble_eq_true rfl) ?_
          refine z_st (st' := [vi x_40]) rfl ?_
          refine z_bipush (M := M_X12_words) dX12_words_96 (by decide +kernel) ?_
          rcases if_e H with ⟨h_41, H⟩ | ⟨h_41, H⟩
          · refine z_icmp_ne_f (M := M_X12_words) (tgt := 124) dX12_words_98 (by decide) rfl (by decide +kernel) h_41 ?_
            refine z_aload_n (M := M_X12_words) dX12_words_101 rfl ?_
            refine z_dup (M := M_X12_words) dX12_words_102 rfl ?_
            refine z_getI (M := M_X12_words) (ci := 15) (C := RX12) (T := TX12) (Nf := 135) (ty := tyX12) cl15 dX12_words_103 ly_277 17 (by decide) t_2408 rfl rfl ?_
            refine z_iconst (M := M_X12_words) dX12_words_106 ?_
            refine z_iadd (M := M_X12_words) dX12_words_107 ?_
            obtain ⟨σ_42, σ_42_e, H⟩ := wf_e H
            refine z_putI (M := M_X12_words) (ci := 15) (C := RX12) (T := TX12) (Nf := 135) (ty := tyX12) cl15 dX12_words_108 ly_277 17 (by decide) t_2408 rfl rfl rfl rfl σ_42_e ?_
            refine z_aload_n (M := M_X12_words) dX12_words_111 rfl ?_
            refine z_dup (M := M_X12_words) dX12_words_112 rfl ?_
            refine z_getI (M := M_X12_words) (ci := 15) (C := RX12) (T := TX12) (Nf := 135) (ty := tyX12) cl15 dX12_words_113 ly_277 20 (by decide) t_2411 rfl rfl ?_
            refine z_iconst (M := M_X12_words) dX12_words_116 ?_
            refine z_isub (M := M_X12_words) dX12_words_117 ?_
            obtain ⟨σ_43, σ_43_e, H⟩ := wf_e H
            refine z_putI (M := M_X12_words) (ci := 15) (C := RX12) (T := TX12) (Nf := 135) (ty := tyX12) cl15 dX12_words_118 ly_277 20 (by decide) t_2411 rfl rfl rfl rfl σ_43_e ?_
            refine z_goto (M := M_X12_words) (tgt := 20) dX12_words_121 (by decide) ?_
            exact J_52 _ _ (Option.some.inj H).symm
          · refine z_icmp_ne_t (M := M_X12_words) (tgt := 124) dX12_words_98 (by decide) rfl (by decide +kernel) h_41 ?_
            refine z_aload_n (M := M_X12_words) dX12_words_124 rfl ?_
            refine z_zconst (M := M_X12_words) (b := false) dX12_words_125 rfl ?_
            obtain ⟨⟨x_47, σ_46⟩, hc_45, H⟩ := bd_e H
            refine z_callV (M := M_X12_words) (M' := M_X12_strange) (as := [zv false]) (rest := []) rfl rfl dX12_words_126 m_X12_strange t_2870 t_2872 s_165 (c_X12_strange hl  hc_45) rfl rfl ly_277 rfl (Nat.le_of_ble_eq_true rfl) (Nat.le_of_ble_eq_true rfl) (Nat.le_of_ble_eq_true rfl) (Nat.le_of_ble_eq_true rfl) ?_
            refine z_st (st' := [zv x_47]) rfl ?_
            refine z_zstore_n (M := M_X12_words) (lv' := [some (vr 277), some (zv x_47), some (zv want_6)]) dX12_words_129 (Nat.le_of_ble_eq_true rfl) rfl rfl ?_
            refine z_goto (M := M_X12_words) (tgt := 20) dX12_words_130 (by decide) ?_
            exact J_52 _ _ (Option.some.inj H).symm
    refine z_zload_n (M := M_X12_words) dX12_words_20 rfl ?_
    by_cases h_62 : good_5 = true
    · refine z_zeq_f (M := M_X12_words) (tgt := 133) dX12_words_21 (by decide) h_62 ?_
      refine z_zload_n (M := M_X12_words) dX12_words_24 rfl ?_
      by_cases h_63 : want_6 = true
      · refine z_zne_t (M := M_X12_words) (tgt := 35) dX12_words_25 (by decide) h_63 ?_
        exact J_60
      · refine z_zne_f (M := M_X12_words) (tgt := 35) dX12_words_25 (by decide) h_63 ?_
        refine z_aload_n (M := M_X12_words) dX12_words_28 rfl ?_
        refine z_getI (M := M_X12_words) (ci := 15) (C := RX12) (T := TX12) (Nf := 135) (ty := tyX12) cl15 dX12_words_29 ly_277 20 (by decide) t_2411 rfl rfl ?_
        by_cases h_64 : 0 < (w32 (σ_7 kR_open 0))
        · refine z_if_le_f (M := M_X12_words) (tgt := 133) dX12_words_32 (by decide) rfl h_64 ?_
          exact J_60
        · refine z_if_le_t (M := M_X12_words) (tgt := 133) dX12_words_32 (by decide) rfl (Int.not_lt.mp h_64) ?_
          exact absurd h_59 (fun q => (fun q => q.elim h_63 h_64) q.2)
    · refine z_zeq_t (M := M_X12_words) (tgt := 133) dX12_words_21 (by decide) h_62 ?_
      exact absurd h_59 (fun q => h_62 q.1)
  · have J_61 : YY l E M_X12_words 13 0 0 (pS (some (zv r)) σ') 133 [some (vr 277), some (zv good_5), some (zv want_6)] [] σ_7 0 0 := by
      exact J_88 _ _ _ (K_14 _ (Option.some.inj H).symm).symm
    refine z_zload_n (M := M_X12_words) dX12_words_20 rfl ?_
    by_cases h_65 : good_5 = true
    · refine z_zeq_f (M := M_X12_words) (tgt := 133) dX12_words_21 (by decide) h_65 ?_
      refine z_zload_n (M := M_X12_words) dX12_words_24 rfl ?_
      by_cases h_66 : want_6 = true
      · refine z_zne_t (M := M_X12_words) (tgt := 35) dX12_words_25 (by decide) h_66 ?_
        exact absurd ⟨h_65, (Or.inl h_66)⟩ h_59
      · refine z_zne_f (M := M_X12_words) (tgt := 35) dX12_words_25 (by decide) h_66 ?_
        refine z_aload_n (M := M_X12_words) dX12_words_28 rfl ?_
        refine z_getI (M := M_X12_words) (ci := 15) (C := RX12) (T := TX12) (Nf := 135) (ty := tyX12) cl15 dX12_words_29 ly_277 20 (by decide) t_2411 rfl rfl ?_
        by_cases h_67 : 0 < (w32 (σ_7 kR_open 0))
        · refine z_if_le_f (M := M_X12_words) (tgt := 133) dX12_words_32 (by decide) rfl h_67 ?_
          exact absurd ⟨h_65, (Or.inr h_67)⟩ h_59
        · refine z_if_le_t (M := M_X12_words) (tgt := 133) dX12_words_32 (by decide) rfl (Int.not_lt.mp h_67) ?_
          exact J_61
    · refine z_zeq_t (M := M_X12_words) (tgt := 133) dX12_words_21 (by decide) h_65 ?_
      exact J_61
theorem c_X12_partsOfBytes (hl : l.stackTraces = false) {σ : SG} {kind_0 : Int} {count_0 : Int} {r : Bool} {σ' : SG}  (H : fR_partsOfBytes σ kind_0 count_0 = some (r, σ')) : en_S l E M_X12_partsOfBytes 1 0 0 [vr 277, vi kind_0, vl count_0] σ (pS (some (zv r)) σ') := by
  unfold fR_partsOfBytes at H
  refine z_mk (lv := [some (vr 277), some (vi kind_0), some (vl count_0), none]) m_X12_partsOfBytes rfl hl (Nat.le_of_ble_eq_true rfl) rfl ?_
  refine z_aload_n (M := M_X12_partsOfBytes) dX12_partsOfBytes_0 rfl ?_
  refine z_getR (M := M_X12_partsOfBytes) (ci := 15) (C := RX12) (T := TX12) (Nf := 135) (ty := tyX12) cl15 dX12_partsOfBytes_1 ly_277 27 (by decide) t_2418 rfl ?_
  refine z_aload_n (M := M_X12_partsOfBytes) dX12_partsOfBytes_4 rfl ?_
  refine z_getI (M := M_X12_partsOfBytes) (ci := 15) (C := RX12) (T := TX12) (Nf := 135) (ty := tyX12) cl15 dX12_partsOfBytes_5 ly_277 29 (by decide) t_2420 rfl rfl ?_
  refine z_lload_n (M := M_X12_partsOfBytes) dX12_partsOfBytes_8 rfl ?_
  obtain ⟨σ_1, σ_1_e, hi_2, H⟩ := wa_e H
  refine z_last (M := M_X12_partsOfBytes) dX12_partsOfBytes_9 ly_288 rfl rfl rfl hi_2 σ_1_e ?_
  refine z_aload_n (M := M_X12_partsOfBytes) dX12_partsOfBytes_10 rfl ?_
  refine z_getR (M := M_X12_partsOfBytes) (ci := 15) (C := RX12) (T := TX12) (Nf := 135) (ty := tyX12) cl15 dX12_partsOfBytes_11 ly_277 28 (by decide) t_2419 rfl ?_
  refine z_aload_n (M := M_X12_partsOfBytes) dX12_partsOfBytes_14 rfl ?_
  refine z_getI (M := M_X12_partsOfBytes) (ci := 15) (C := RX12) (T := TX12) (Nf := 135) (ty := tyX12) cl15 dX12_partsOfBytes_15 ly_277 29 (by decide) t_2420 rfl rfl ?_
  have J_3 : YY l E M_X12_partsOfBytes 1 0 0 (pS (some (zv r)) σ') 31 [some (vr 277), some (vi kind_0), some (vl count_0), none] [vi (if (w32 kind_0) = 7 then 0 else (kind_0 - 3)), vi (σ_1 kR_levels 0), vr 289] σ_1 0 0 := by
    obtain ⟨σ_4, σ_4_e, hi_5, H⟩ := wa_e H
    refine z_iast (M := M_X12_partsOfBytes) dX12_partsOfBytes_31 ly_289 rfl rfl rfl hi_5 σ_4_e ?_
    refine z_aload_n (M := M_X12_partsOfBytes) dX12_partsOfBytes_32 rfl ?_
    refine z_dup (M := M_X12_partsOfBytes) dX12_partsOfBytes_33 rfl ?_
    refine z_getI (M := M_X12_partsOfBytes) (ci := 15) (C := RX12) (T := TX12) (Nf := 135) (ty := tyX12) cl15 dX12_partsOfBytes_34 ly_277 29 (by decide) t_2420 rfl rfl ?_
    refine z_iconst (M := M_X12_partsOfBytes) dX12_partsOfBytes_37 ?_
    refine z_iadd (M := M_X12_partsOfBytes) dX12_partsOfBytes_38 ?_
    obtain ⟨σ_6, σ_6_e, H⟩ := wf_e H
    refine z_putI (M := M_X12_partsOfBytes) (ci := 15) (C := RX12) (T := TX12) (Nf := 135) (ty := tyX12) cl15 dX12_partsOfBytes_39 ly_277 29 (by decide) t_2420 rfl rfl rfl rfl σ_6_e ?_
    refine z_aload_n (M := M_X12_partsOfBytes) dX12_partsOfBytes_42 rfl ?_
    have J_7 : YY l E M_X12_partsOfBytes 1 0 0 (pS (some (zv r)) σ') 62 [some (vr 277), some (vi kind_0), some (vl count_0), none] [vi (if (w32 kind_0) = 7 then ((σ_6 kR_open 0) + 1) else (σ_6 kR_open 0)), vr 277] σ_6 0 0 := by
      obtain ⟨σ_8, σ_8_e, H⟩ := wf_e H
      refine z_putI (M := M_X12_partsOfBytes) (ci := 15) (C := RX12) (T := TX12) (Nf := 135) (ty := tyX12) cl15 dX12_partsOfBytes_62 ly_277 20 (by decide) t_2411 rfl rfl rfl rfl σ_8_e ?_
      refine z_zconst (M := M_X12_partsOfBytes) (b := true) dX12_partsOfBytes_65 rfl ?_
      cases H
      exact z_zret (M := M_X12_partsOfBytes) dX12_partsOfBytes_66 rfl (Nat.le_of_ble_eq_true rfl) (Nat.le_of_ble_eq_true rfl) ⟨rfl, rfl⟩
    refine z_iload_n (M := M_X12_partsOfBytes) dX12_partsOfBytes_43 rfl ?_
    refine z_bipush (M := M_X12_partsOfBytes) dX12_partsOfBytes_44 (by decide +kernel) ?_
    by_cases h_9 : (w32 kind_0) = 7
    · refine z_icmp_ne_f (M := M_X12_partsOfBytes) (tgt := 58) dX12_partsOfBytes_46 (by decide) rfl (by decide +kernel) h_9 ?_
      refine z_aload_n (M := M_X12_partsOfBytes) dX12_partsOfBytes_49 rfl ?_
      refine z_getI (M := M_X12_partsOfBytes) (ci := 15) (C := RX12) (T := TX12) (Nf := 135) (ty := tyX12) cl15 dX12_partsOfBytes_50 ly_277 20 (by decide) t_2411 rfl rfl ?_
      refine z_iconst (M := M_X12_partsOfBytes) dX12_partsOfBytes_53 ?_
      refine z_iadd (M := M_X12_partsOfBytes) dX12_partsOfBytes_54 ?_
      refine z_goto (M := M_X12_partsOfBytes) (tgt := 62) dX12_partsOfBytes_55 (by decide) ?_
      exact z_st (by rw [if_pos (c := (w32 kind_0) = 7) h_9]) J_7
    · refine z_icmp_ne_t (M := M_X12_partsOfBytes) (tgt := 58) dX12_partsOfBytes_46 (by decide) rfl (by decide +kernel) h_9 ?_
      refine z_aload_n (M := M_X12_partsOfBytes) dX12_partsOfBytes_58 rfl ?_
      refine z_getI (M := M_X12_partsOfBytes) (ci := 15) (C := RX12) (T := TX12) (Nf := 135) (ty := tyX12) cl15 dX12_partsOfBytes_59 ly_277 20 (by decide) t_2411 rfl rfl ?_
      exact z_st (by rw [if_neg (c := (w32 kind_0) = 7) h_9]) J_7
  refine z_iload_n (M := M_X12_partsOfBytes) dX12_partsOfBytes_18 rfl ?_
  refine z_bipush (M := M_X12_partsOfBytes) dX12_partsOfBytes_19 (by decide +kernel) ?_
  by_cases h_10 : (w32 kind_0) = 7
  · refine z_icmp_ne_f (M := M_X12_partsOfBytes) (tgt := 28) dX12_partsOfBytes_21 (by decide) rfl (by decide +kernel) h_10 ?_
    refine z_iconst (M := M_X12_partsOfBytes) dX12_partsOfBytes_24 ?_
    refine z_goto (M := M_X12_partsOfBytes) (tgt := 31) dX12_partsOfBytes_25 (by decide) ?_
    exact z_st (by rw [if_pos (c := (w32 kind_0) = 7) h_10]) J_3
  · refine z_icmp_ne_t (M := M_X12_partsOfBytes) (tgt := 28) dX12_partsOfBytes_21 (by decide) rfl (by decide +kernel) h_10 ?_
    refine z_iload_n (M := M_X12_partsOfBytes) dX12_partsOfBytes_28 rfl ?_
    refine z_iconst (M := M_X12_partsOfBytes) dX12_partsOfBytes_29 ?_
    refine z_isub (M := M_X12_partsOfBytes) dX12_partsOfBytes_30 ?_
    exact z_st (by rw [if_neg (c := (w32 kind_0) = 7) h_10]) J_3
theorem c_X12_inUnits (hl : l.stackTraces = false) {σ : SG} {b_0 : Int} {r : Int}  (H : fR_inUnits σ b_0 = r) : en_S l E M_X12_inUnits 1 0 0 [vr 277, vl b_0] σ (pS (some (vl r)) σ) := by
  unfold fR_inUnits at H
  refine z_mk (lv := [some (vr 277), some (vl b_0), none, none, none, none, none, none, none, none, none, none, none, none, none, none]) m_X12_inUnits rfl hl (Nat.le_of_ble_eq_true rfl) rfl ?_
  refine z_lload_n (M := M_X12_inUnits) dX12_inUnits_0 rfl ?_
  refine z_bipush (M := M_X12_inUnits) dX12_inUnits_1 (by decide +kernel) ?_
  refine z_lushr (M := M_X12_inUnits) dX12_inUnits_3 ?_
  refine z_ldc2 (M := M_X12_inUnits) (n := 2047) dX12_inUnits_4 t_2994 (by decide +kernel) ?_
  refine z_land (M := M_X12_inUnits) dX12_inUnits_7 ?_
  refine z_l2i (M := M_X12_inUnits) dX12_inUnits_8 ?_
  refine z_istore_n (M := M_X12_inUnits) (lv' := [some (vr 277), some (vl b_0), none, some (vi (q_lan (q_lus b_0 52) 2047)), none, none, none, none, none, none, none, none, none, none, none, none]) dX12_inUnits_9 (Nat.le_of_ble_eq_true rfl) rfl rfl ?_
  refine z_lload_n (M := M_X12_inUnits) dX12_inUnits_10 rfl ?_
  refine z_ldc2 (M := M_X12_inUnits) (n := 4503599627370495) dX12_inUnits_11 t_2995 (by decide +kernel) ?_
  refine z_land (M := M_X12_inUnits) dX12_inUnits_14 ?_
  refine z_lstore (M := M_X12_inUnits) (lv' := [some (vr 277), some (vl b_0), none, some (vi (q_lan (q_lus b_0 52) 2047)), some (vl (q_lan b_0 4503599627370495)), none, none, none, none, none, none, none, none, none, none, none]) dX12_inUnits_15 (Nat.le_of_ble_eq_true rfl) rfl rfl ?_
  have J_1 : YY l E M_X12_inUnits 1 0 0 (pS (some (vl r)) σ) 32 [some (vr 277), some (vl b_0), none, some (vi (q_lan (q_lus b_0 52) 2047)), some (vl (q_lan b_0 4503599627370495)), none, none, none, none, none, none, none, none, none, none, none] [vl (if (w32 (q_lan (q_lus b_0 52) 2047)) = 0 then (q_lan b_0 4503599627370495) else (q_lor (q_lan b_0 4503599627370495) 4503599627370496))] σ 0 0 := by
    refine z_aload_n (M := M_X12_inUnits) dX12_inUnits_32 rfl ?_
    refine z_getL (M := M_X12_inUnits) (ci := 15) (C := RX12) (T := TX12) (Nf := 135) (ty := tyX12) cl15 dX12_inUnits_33 ly_277 2 (by decide) t_2393 rfl rfl ?_
    refine z_lmul (M := M_X12_inUnits) dX12_inUnits_36 ?_
    refine z_lstore (M := M_X12_inUnits) (lv' := [some (vr 277), some (vl b_0), none, some (vi (q_lan (q_lus b_0 52) 2047)), some (vl (q_lan b_0 4503599627370495)), none, some (vl ((if (w32 (q_lan (q_lus b_0 52) 2047)) = 0 then (q_lan b_0 4503599627370495) else (q_lor (q_lan b_0 4503599627370495) 4503599627370496)) * (σ kR_unit 0))), none, none, none, none, none, none, none, none, none]) dX12_inUnits_37 (Nat.le_of_ble_eq_true rfl) rfl rfl ?_
    have J_2 : YY l E M_X12_inUnits 1 0 0 (pS (some (vl r)) σ) 48 [some (vr 277), some (vl b_0), none, some (vi (q_lan (q_lus b_0 52) 2047)), some (vl (q_lan b_0 4503599627370495)), none, some (vl ((if (w32 (q_lan (q_lus b_0 52) 2047)) = 0 then (q_lan b_0 4503599627370495) else (q_lor (q_lan b_0 4503599627370495) 4503599627370496)) * (σ kR_unit 0))), none, none, none, none, none, none, none, none, none] [vi (if (w32 (q_lan (q_lus b_0 52) 2047)) = 0 then 1 else (q_lan (q_lus b_0 52) 2047))] σ 0 0 := by
      refine z_sipush (M := M_X12_inUnits) dX12_inUnits_48 (by decide +kernel) ?_
      refine z_isub (M := M_X12_inUnits) dX12_inUnits_51 ?_
      refine z_istore (M := M_X12_inUnits) (lv' := [some (vr 277), some (vl b_0), none, some (vi (q_lan (q_lus b_0 52) 2047)), some (vl (q_lan b_0 4503599627370495)), none, some (vl ((if (w32 (q_lan (q_lus b_0 52) 2047)) = 0 then (q_lan b_0 4503599627370495) else (q_lor (q_lan b_0 4503599627370495) 4503599627370496)) * (σ kR_unit 0))), none, some (vi ((if (w32 (q_lan (q_lus b_0 52) 2047)) = 0 then 1 else (q_lan (q_lus b_0 52) 2047)) - 1075)), none, none, none, none, none, none, none]) dX12_inUnits_52 (Nat.le_of_ble_eq_true rfl) rfl rfl ?_
      refine z_lload (M := M_X12_inUnits) dX12_inUnits_54 rfl ?_
      refine z_lconst (M := M_X12_inUnits) (m := 0) dX12_inUnits_56 (by decide +kernel) ?_
      refine z_lcmp (M := M_X12_inUnits) dX12_inUnits_57 ?_
      rcases if_e H with ⟨h_3, H⟩ | ⟨h_3, H⟩
      · refine z_lif_ne_f (M := M_X12_inUnits) (tgt := 63) dX12_inUnits_58 (by decide) rfl (by decide +kernel) h_3 ?_
        refine z_lconst (M := M_X12_inUnits) (m := 0) dX12_inUnits_61 (by decide +kernel) ?_
        cases H
        exact z_lret (M := M_X12_inUnits) dX12_inUnits_62 rfl (Nat.le_of_ble_eq_true rfl) (Nat.le_of_ble_eq_true rfl) ⟨rfl, rfl⟩
      · refine z_lif_ne_t (M := M_X12_inUnits) (tgt := 63) dX12_inUnits_58 (by decide) rfl (by decide +kernel) h_3 ?_
        refine z_iload (M := M_X12_inUnits) dX12_inUnits_63 rfl ?_
        rcases if_e H with ⟨h_4, H⟩ | ⟨h_4, H⟩
        · refine z_if_lt_f (M := M_X12_inUnits) (tgt := 72) dX12_inUnits_65 (by decide) rfl h_4 ?_
          refine z_ldc2 (M := M_X12_inUnits) (n := 4000000000) dX12_inUnits_68 t_2936 (by decide +kernel) ?_
          cases H
          exact z_lret (M := M_X12_inUnits) dX12_inUnits_71 rfl (Nat.le_of_ble_eq_true rfl) (Nat.le_of_ble_eq_true rfl) ⟨rfl, rfl⟩
        · refine z_if_lt_t (M := M_X12_inUnits) (tgt := 72) dX12_inUnits_65 (by decide) rfl (Int.not_le.mp h_4) ?_
          refine z_iload (M := M_X12_inUnits) dX12_inUnits_72 rfl ?_
          refine z_bipush (M := M_X12_inUnits) dX12_inUnits_74 (by decide +kernel) ?_
          rcases if_e H with ⟨h_5, H⟩ | ⟨h_5, H⟩
          · refine z_icmp_ge_f (M := M_X12_inUnits) (tgt := 81) dX12_inUnits_76 (by decide) rfl (by decide +kernel) h_5 ?_
            refine z_lconst (M := M_X12_inUnits) (m := 0) dX12_inUnits_79 (by decide +kernel) ?_
            cases H
            exact z_lret (M := M_X12_inUnits) dX12_inUnits_80 rfl (Nat.le_of_ble_eq_true rfl) (Nat.le_of_ble_eq_true rfl) ⟨rfl, rfl⟩
          · refine z_icmp_ge_t (M := M_X12_inUnits) (tgt := 81) dX12_inUnits_76 (by decide) rfl (by decide +kernel) (Int.not_lt.mp h_5) ?_
            refine z_lload (M := M_X12_inUnits) dX12_inUnits_81 rfl ?_
            refine z_iload (M := M_X12_inUnits) dX12_inUnits_83 rfl ?_
            refine z_ineg (M := M_X12_inUnits) dX12_inUnits_85 ?_
            refine z_lushr (M := M_X12_inUnits) dX12_inUnits_86 ?_
            refine z_lstore (M := M_X12_inUnits) (lv' := [some (vr 277), some (vl b_0), none, some (vi (q_lan (q_lus b_0 52) 2047)), some (vl (q_lan b_0 4503599627370495)), none, some (vl ((if (w32 (q_lan (q_lus b_0 52) 2047)) = 0 then (q_lan b_0 4503599627370495) else (q_lor (q_lan b_0 4503599627370495) 4503599627370496)) * (σ kR_unit 0))), none, some (vi ((if (w32 (q_lan (q_lus b_0 52) 2047)) = 0 then 1 else (q_lan (q_lus b_0 52) 2047)) - 1075)), some (vl (q_lus ((if (w32 (q_lan (q_lus b_0 52) 2047)) = 0 then (q_lan b_0 4503599627370495) else (q_lor (q_lan b_0 4503599627370495) 4503599627370496)) * (σ kR_unit 0)) (-((if (w32 (q_lan (q_lus b_0 52) 2047)) = 0 then 1 else (q_lan (q_lus b_0 52) 2047)) - 1075)))), none, none, none, none, none, none]) dX12_inUnits_87 (Nat.le_of_ble_eq_true rfl) rfl rfl ?_
            refine z_lload (M := M_X12_inUnits) dX12_inUnits_89 rfl ?_
            refine z_lload (M := M_X12_inUnits) dX12_inUnits_91 rfl ?_
            refine z_iload (M := M_X12_inUnits) dX12_inUnits_93 rfl ?_
            refine z_ineg (M := M_X12_inUnits) dX12_inUnits_95 ?_
            refine z_lshl (M := M_X12_inUnits) dX12_inUnits_96 ?_
            refine z_lsub (M := M_X12_inUnits) dX12_inUnits_97 ?_
            refine z_lstore (M := M_X12_inUnits) (lv' := [some (vr 277), some (vl b_0), none, some (vi (q_lan (q_lus b_0 52) 2047)), some (vl (q_lan b_0 4503599627370495)), none, some (vl ((if (w32 (q_lan (q_lus b_0 52) 2047)) = 0 then (q_lan b_0 4503599627370495) else (q_lor (q_lan b_0 4503599627370495) 4503599627370496)) * (σ kR_unit 0))), none, some (vi ((if (w32 (q_lan (q_lus b_0 52) 2047)) = 0 then 1 else (q_lan (q_lus b_0 52) 2047)) - 1075)), some (vl (q_lus ((if (w32 (q_lan (q_lus b_0 52) 2047)) = 0 then (q_lan b_0 4503599627370495) else (q_lor (q_lan b_0 4503599627370495) 4503599627370496)) * (σ kR_unit 0)) (-((if (w32 (q_lan (q_lus b_0 52) 2047)) = 0 then 1 else (q_lan (q_lus b_0 52) 2047)) - 1075)))), none, some (vl (((if (w32 (q_lan (q_lus b_0 52) 2047)) = 0 then (q_lan b_0 4503599627370495) else (q_lor (q_lan b_0 4503599627370495) 4503599627370496)) * (σ kR_unit 0)) - (q_lsl (q_lus ((if (w32 (q_lan (q_lus b_0 52) 2047)) = 0 then (q_lan b_0 4503599627370495) else (q_lor (q_lan b_0 4503599627370495) 4503599627370496)) * (σ kR_unit 0)) (-((if (w32 (q_lan (q_lus b_0 52) 2047)) = 0 then 1 else (q_lan (q_lus b_0 52) 2047)) - 1075))) (-((if (w32 (q_lan (q_lus b_0 52) 2047)) = 0 then 1 else (q_lan (q_lus b_0 52) 2047)) - 1075))))), none, none, none, none]) dX12_inUnits_98 (Nat.le_of_ble_eq_true rfl) rfl rfl ?_
            refine z_lconst (M := M_X12_inUnits) (m := 1) dX12_inUnits_100 (by decide +kernel) ?_
            refine z_iload (M := M_X12_inUnits) dX12_inUnits_101 rfl ?_
            refine z_ineg (M := M_X12_inUnits) dX12_inUnits_103 ?_
            refine z_iconst (M := M_X12_inUnits) dX12_inUnits_104 ?_
            refine z_isub (M := M_X12_inUnits) dX12_inUnits_105 ?_
            refine z_lshl (M := M_X12_inUnits) dX12_inUnits_106 ?_
            refine z_lstore (M := M_X12_inUnits) (lv' := [some (vr 277), some (vl b_0), none, some (vi (q_lan (q_lus b_0 52) 2047)), some (vl (q_lan b_0 4503599627370495)), none, some (vl ((if (w32 (q_lan (q_lus b_0 52) 2047)) = 0 then (q_lan b_0 4503599627370495) else (q_lor (q_lan b_0 4503599627370495) 4503599627370496)) * (σ kR_unit 0))), none, some (vi ((if (w32 (q_lan (q_lus b_0 52) 2047)) = 0 then 1 else (q_lan (q_lus b_0 52) 2047)) - 1075)), some (vl (q_lus ((if (w32 (q_lan (q_lus b_0 52) 2047)) = 0 then (q_lan b_0 4503599627370495) else (q_lor (q_lan b_0 4503599627370495) 4503599627370496)) * (σ kR_unit 0)) (-((if (w32 (q_lan (q_lus b_0 52) 2047)) = 0 then 1 else (q_lan (q_lus b_0 52) 2047)) - 1075)))), none, some (vl (((if (w32 (q_lan (q_lus b_0 52) 2047)) = 0 then (q_lan b_0 4503599627370495) else (q_lor (q_lan b_0 4503599627370495) 4503599627370496)) * (σ kR_unit 0)) - (q_lsl (q_lus ((if (w32 (q_lan (q_lus b_0 52) 2047)) = 0 then (q_lan b_0 4503599627370495) else (q_lor (q_lan b_0 4503599627370495) 4503599627370496)) * (σ kR_unit 0)) (-((if (w32 (q_lan (q_lus b_0 52) 2047)) = 0 then 1 else (q_lan (q_lus b_0 52) 2047)) - 1075))) (-((if (w32 (q_lan (q_lus b_0 52) 2047)) = 0 then 1 else (q_lan (q_lus b_0 52) 2047)) - 1075))))), none, some (vl (q_lsl 1 ((-((if (w32 (q_lan (q_lus b_0 52) 2047)) = 0 then 1 else (q_lan (q_lus b_0 52) 2047)) - 1075)) - 1))), none, none]) dX12_inUnits_107 (Nat.le_of_ble_eq_true rfl) rfl rfl ?_
            have J_6 : YY l E M_X12_inUnits 1 0 0 (pS (some (vl r)) σ) 139 [some (vr 277), some (vl b_0), none, some (vi (q_lan (q_lus b_0 52) 2047)), some (vl (q_lan b_0 4503599627370495)), none, some (vl ((if (w32 (q_lan (q_lus b_0 52) 2047)) = 0 then (q_lan b_0 4503599627370495) else (q_lor (q_lan b_0 4503599627370495) 4503599627370496)) * (σ kR_unit 0))), none, some (vi ((if (w32 (q_lan (q_lus b_0 52) 2047)) = 0 then 1 else (q_lan (q_lus b_0 52) 2047)) - 1075)), some (vl (q_lus ((if (w32 (q_lan (q_lus b_0 52) 2047)) = 0 then (q_lan b_0 4503599627370495) else (q_lor (q_lan b_0 4503599627370495) 4503599627370496)) * (σ kR_unit 0)) (-((if (w32 (q_lan (q_lus b_0 52) 2047)) = 0 then 1 else (q_lan (q_lus b_0 52) 2047)) - 1075)))), none, some (vl (((if (w32 (q_lan (q_lus b_0 52) 2047)) = 0 then (q_lan b_0 4503599627370495) else (q_lor (q_lan b_0 4503599627370495) 4503599627370496)) * (σ kR_unit 0)) - (q_lsl (q_lus ((if (w32 (q_lan (q_lus b_0 52) 2047)) = 0 then (q_lan b_0 4503599627370495) else (q_lor (q_lan b_0 4503599627370495) 4503599627370496)) * (σ kR_unit 0)) (-((if (w32 (q_lan (q_lus b_0 52) 2047)) = 0 then 1 else (q_lan (q_lus b_0 52) 2047)) - 1075))) (-((if (w32 (q_lan (q_lus b_0 52) 2047)) = 0 then 1 else (q_lan (q_lus b_0 52) 2047)) - 1075))))), none, some (vl (q_lsl 1 ((-((if (w32 (q_lan (q_lus b_0 52) 2047)) = 0 then 1 else (q_lan (q_lus b_0 52) 2047)) - 1075)) - 1))), none, none] [zv (decide (((w64 (q_lsl 1 ((-((if (w32 (q_lan (q_lus b_0 52) 2047)) = 0 then 1 else (q_lan (q_lus b_0 52) 2047)) - 1075)) - 1))) < (w64 (((if (w32 (q_lan (q_lus b_0 52) 2047)) = 0 then (q_lan b_0 4503599627370495) else (q_lor (q_lan b_0 4503599627370495) 4503599627370496)) * (σ kR_unit 0)) - (q_lsl (q_lus ((if (w32 (q_lan (q_lus b_0 52) 2047)) = 0 then (q_lan b_0 4503599627370495) else (q_lor (q_lan b_0 4503599627370495) 4503599627370496)) * (σ kR_unit 0)) (-((if (w32 (q_lan (q_lus b_0 52) 2047)) = 0 then 1 else (q_lan (q_lus b_0 52) 2047)) - 1075))) (-((if (w32 (q_lan (q_lus b_0 52) 2047)) = 0 then 1 else (q_lan (q_lus b_0 52) 2047)) - 1075)))))) ∨ (((w64 (((if (w32 (q_lan (q_lus b_0 52) 2047)) = 0 then (q_lan b_0 4503599627370495) else (q_lor (q_lan b_0 4503599627370495) 4503599627370496)) * (σ kR_unit 0)) - (q_lsl (q_lus ((if (w32 (q_lan (q_lus b_0 52) 2047)) = 0 then (q_lan b_0 4503599627370495) else (q_lor (q_lan b_0 4503599627370495) 4503599627370496)) * (σ kR_unit 0)) (-((if (w32 (q_lan (q_lus b_0 52) 2047)) = 0 then 1 else (q_lan (q_lus b_0 52) 2047)) - 1075))) (-((if (w32 (q_lan (q_lus b_0 52) 2047)) = 0 then 1 else (q_lan (q_lus b_0 52) 2047)) - 1075))))) = (w64 (q_lsl 1 ((-((if (w32 (q_lan (q_lus b_0 52) 2047)) = 0 then 1 else (q_lan (q_lus b_0 52) 2047)) - 1075)) - 1)))) ∧ ((w64 (q_lan (q_lus ((if (w32 (q_lan (q_lus b_0 52) 2047)) = 0 then (q_lan b_0 4503599627370495) else (q_lor (q_lan b_0 4503599627370495) 4503599627370496)) * (σ kR_unit 0)) (-((if (w32 (q_lan (q_lus b_0 52) 2047)) = 0 then 1 else (q_lan (q_lus b_0 52) 2047)) - 1075))) 1)) = 1))))] σ 0 0 := by
              refine z_zstore (M := M_X12_inUnits) (lv' := [some (vr 277), some (vl b_0), none, some (vi (q_lan (q_lus b_0 52) 2047)), some (vl (q_lan b_0 4503599627370495)), none, some (vl ((if (w32 (q_lan (q_lus b_0 52) 2047)) = 0 then (q_lan b_0 4503599627370495) else (q_lor (q_lan b_0 4503599627370495) 4503599627370496)) * (σ kR_unit 0))), none, some (vi ((if (w32 (q_lan (q_lus b_0 52) 2047)) = 0 then 1 else (q_lan (q_lus b_0 52) 2047)) - 1075)), some (vl (q_lus ((if (w32 (q_lan (q_lus b_0 52) 2047)) = 0 then (q_lan b_0 4503599627370495) else (q_lor (q_lan b_0 4503599627370495) 4503599627370496)) * (σ kR_unit 0)) (-((if (w32 (q_lan (q_lus b_0 52) 2047)) = 0 then 1 else (q_lan (q_lus b_0 52) 2047)) - 1075)))), none, some (vl (((if (w32 (q_lan (q_lus b_0 52) 2047)) = 0 then (q_lan b_0 4503599627370495) else (q_lor (q_lan b_0 4503599627370495) 4503599627370496)) * (σ kR_unit 0)) - (q_lsl (q_lus ((if (w32 (q_lan (q_lus b_0 52) 2047)) = 0 then (q_lan b_0 4503599627370495) else (q_lor (q_lan b_0 4503599627370495) 4503599627370496)) * (σ kR_unit 0)) (-((if (w32 (q_lan (q_lus b_0 52) 2047)) = 0 then 1 else (q_lan (q_lus b_0 52) 2047)) - 1075))) (-((if (w32 (q_lan (q_lus b_0 52) 2047)) = 0 then 1 else (q_lan (q_lus b_0 52) 2047)) - 1075))))), none, some (vl (q_lsl 1 ((-((if (w32 (q_lan (q_lus b_0 52) 2047)) = 0 then 1 else (q_lan (q_lus b_0 52) 2047)) - 1075)) - 1))), none, some (zv (decide (((w64 (q_lsl 1 ((-((if (w32 (q_lan (q_lus b_0 52) 2047)) = 0 then 1 else (q_lan (q_lus b_0 52) 2047)) - 1075)) - 1))) < (w64 (((if (w32 (q_lan (q_lus b_0 52) 2047)) = 0 then (q_lan b_0 4503599627370495) else (q_lor (q_lan b_0 4503599627370495) 4503599627370496)) * (σ kR_unit 0)) - (q_lsl (q_lus ((if (w32 (q_lan (q_lus b_0 52) 2047)) = 0 then (q_lan b_0 4503599627370495) else (q_lor (q_lan b_0 4503599627370495) 4503599627370496)) * (σ kR_unit 0)) (-((if (w32 (q_lan (q_lus b_0 52) 2047)) = 0 then 1 else (q_lan (q_lus b_0 52) 2047)) - 1075))) (-((if (w32 (q_lan (q_lus b_0 52) 2047)) = 0 then 1 else (q_lan (q_lus b_0 52) 2047)) - 1075)))))) ∨ (((w64 (((if (w32 (q_lan (q_lus b_0 52) 2047)) = 0 then (q_lan b_0 4503599627370495) else (q_lor (q_lan b_0 4503599627370495) 4503599627370496)) * (σ kR_unit 0)) - (q_lsl (q_lus ((if (w32 (q_lan (q_lus b_0 52) 2047)) = 0 then (q_lan b_0 4503599627370495) else (q_lor (q_lan b_0 4503599627370495) 4503599627370496)) * (σ kR_unit 0)) (-((if (w32 (q_lan (q_lus b_0 52) 2047)) = 0 then 1 else (q_lan (q_lus b_0 52) 2047)) - 1075))) (-((if (w32 (q_lan (q_lus b_0 52) 2047)) = 0 then 1 else (q_lan (q_lus b_0 52) 2047)) - 1075))))) = (w64 (q_lsl 1 ((-((if (w32 (q_lan (q_lus b_0 52) 2047)) = 0 then 1 else (q_lan (q_lus b_0 52) 2047)) - 1075)) - 1)))) ∧ ((w64 (q_lan (q_lus ((if (w32 (q_lan (q_lus b_0 52) 2047)) = 0 then (q_lan b_0 4503599627370495) else (q_lor (q_lan b_0 4503599627370495) 4503599627370496)) * (σ kR_unit 0)) (-((if (w32 (q_lan (q_lus b_0 52) 2047)) = 0 then 1 else (q_lan (q_lus b_0 52) 2047)) - 1075))) 1)) = 1)))))]) dX12_inUnits_139 (Nat.le_of_ble_eq_true rfl) rfl rfl ?_
              have J_9 : YY l E M_X12_inUnits 1 0 0 (pS (some (vl r)) σ) 170 [some (vr 277), some (vl b_0), none, some (vi (q_lan (q_lus b_0 52) 2047)), some (vl (q_lan b_0 4503599627370495)), none, some (vl ((if (w32 (q_lan (q_lus b_0 52) 2047)) = 0 then (q_lan b_0 4503599627370495) else (q_lor (q_lan b_0 4503599627370495) 4503599627370496)) * (σ kR_unit 0))), none, some (vi ((if (w32 (q_lan (q_lus b_0 52) 2047)) = 0 then 1 else (q_lan (q_lus b_0 52) 2047)) - 1075)), some (vl (q_lus ((if (w32 (q_lan (q_lus b_0 52) 2047)) = 0 then (q_lan b_0 4503599627370495) else (q_lor (q_lan b_0 4503599627370495) 4503599627370496)) * (σ kR_unit 0)) (-((if (w32 (q_lan (q_lus b_0 52) 2047)) = 0 then 1 else (q_lan (q_lus b_0 52) 2047)) - 1075)))), none, some (vl (((if (w32 (q_lan (q_lus b_0 52) 2047)) = 0 then (q_lan b_0 4503599627370495) else (q_lor (q_lan b_0 4503599627370495) 4503599627370496)) * (σ kR_unit 0)) - (q_lsl (q_lus ((if (w32 (q_lan (q_lus b_0 52) 2047)) = 0 then (q_lan b_0 4503599627370495) else (q_lor (q_lan b_0 4503599627370495) 4503599627370496)) * (σ kR_unit 0)) (-((if (w32 (q_lan (q_lus b_0 52) 2047)) = 0 then 1 else (q_lan (q_lus b_0 52) 2047)) - 1075))) (-((if (w32 (q_lan (q_lus b_0 52) 2047)) = 0 then 1 else (q_lan (q_lus b_0 52) 2047)) - 1075))))), none, some (vl (q_lsl 1 ((-((if (w32 (q_lan (q_lus b_0 52) 2047)) = 0 then 1 else (q_lan (q_lus b_0 52) 2047)) - 1075)) - 1))), none, some (zv (decide (((w64 (q_lsl 1 ((-((if (w32 (q_lan (q_lus b_0 52) 2047)) = 0 then 1 else (q_lan (q_lus b_0 52) 2047)) - 1075)) - 1))) < (w64 (((if (w32 (q_lan (q_lus b_0 52) 2047)) = 0 then (q_lan b_0 4503599627370495) else (q_lor (q_lan b_0 4503599627370495) 4503599627370496)) * (σ kR_unit 0)) - (q_lsl (q_lus ((if (w32 (q_lan (q_lus b_0 52) 2047)) = 0 then (q_lan b_0 4503599627370495) else (q_lor (q_lan b_0 4503599627370495) 4503599627370496)) * (σ kR_unit 0)) (-((if (w32 (q_lan (q_lus b_0 52) 2047)) = 0 then 1 else (q_lan (q_lus b_0 52) 2047)) - 1075))) (-((if (w32 (q_lan (q_lus b_0 52) 2047)) = 0 then 1 else (q_lan (q_lus b_0 52) 2047)) - 1075)))))) ∨ (((w64 (((if (w32 (q_lan (q_lus b_0 52) 2047)) = 0 then (q_lan b_0 4503599627370495) else (q_lor (q_lan b_0 4503599627370495) 4503599627370496)) * (σ kR_unit 0)) - (q_lsl (q_lus ((if (w32 (q_lan (q_lus b_0 52) 2047)) = 0 then (q_lan b_0 4503599627370495) else (q_lor (q_lan b_0 4503599627370495) 4503599627370496)) * (σ kR_unit 0)) (-((if (w32 (q_lan (q_lus b_0 52) 2047)) = 0 then 1 else (q_lan (q_lus b_0 52) 2047)) - 1075))) (-((if (w32 (q_lan (q_lus b_0 52) 2047)) = 0 then 1 else (q_lan (q_lus b_0 52) 2047)) - 1075))))) = (w64 (q_lsl 1 ((-((if (w32 (q_lan (q_lus b_0 52) 2047)) = 0 then 1 else (q_lan (q_lus b_0 52) 2047)) - 1075)) - 1)))) ∧ ((w64 (q_lan (q_lus ((if (w32 (q_lan (q_lus b_0 52) 2047)) = 0 then (q_lan b_0 4503599627370495) else (q_lor (q_lan b_0 4503599627370495) 4503599627370496)) * (σ kR_unit 0)) (-((if (w32 (q_lan (q_lus b_0 52) 2047)) = 0 then 1 else (q_lan (q_lus b_0 52) 2047)) - 1075))) 1)) = 1)))))] [vl (if 4000000000 ≤ (w64 (q_lus ((if (w32 (q_lan (q_lus b_0 52) 2047)) = 0 then (q_lan b_0 4503599627370495) else (q_lor (q_lan b_0 4503599627370495) 4503599627370496)) * (σ kR_unit 0)) (-((if (w32 (q_lan (q_lus b_0 52) 2047)) = 0 then 1 else (q_lan (q_lus b_0 52) 2047)) - 1075)))) then 4000000000 else (if (decide (((w64 (q_lsl 1 ((-((if (w32 (q_lan (q_lus b_0 52) 2047)) = 0 then 1 else (q_lan (q_lus b_0 52) 2047)) - 1075)) - 1))) < (w64 (((if (w32 (q_lan (q_lus b_0 52) 2047)) = 0 then (q_lan b_0 4503599627370495) else (q_lor (q_lan b_0 4503599627370495) 4503599627370496)) * (σ kR_unit 0)) - (q_lsl (q_lus ((if (w32 (q_lan (q_lus b_0 52) 2047)) = 0 then (q_lan b_0 4503599627370495) else (q_lor (q_lan b_0 4503599627370495) 4503599627370496)) * (σ kR_unit 0)) (-((if (w32 (q_lan (q_lus b_0 52) 2047)) = 0 then 1 else (q_lan (q_lus b_0 52) 2047)) - 1075))) (-((if (w32 (q_lan (q_lus b_0 52) 2047)) = 0 then 1 else (q_lan (q_lus b_0 52) 2047)) - 1075)))))) ∨ (((w64 (((if (w32 (q_lan (q_lus b_0 52) 2047)) = 0 then (q_lan b_0 4503599627370495) else (q_lor (q_lan b_0 4503599627370495) 4503599627370496)) * (σ kR_unit 0)) - (q_lsl (q_lus ((if (w32 (q_lan (q_lus b_0 52) 2047)) = 0 then (q_lan b_0 4503599627370495) else (q_lor (q_lan b_0 4503599627370495) 4503599627370496)) * (σ kR_unit 0)) (-((if (w32 (q_lan (q_lus b_0 52) 2047)) = 0 then 1 else (q_lan (q_lus b_0 52) 2047)) - 1075))) (-((if (w32 (q_lan (q_lus b_0 52) 2047)) = 0 then 1 else (q_lan (q_lus b_0 52) 2047)) - 1075))))) = (w64 (q_lsl 1 ((-((if (w32 (q_lan (q_lus b_0 52) 2047)) = 0 then 1 else (q_lan (q_lus b_0 52) 2047)) - 1075)) - 1)))) ∧ ((w64 (q_lan (q_lus ((if (w32 (q_lan (q_lus b_0 52) 2047)) = 0 then (q_lan b_0 4503599627370495) else (q_lor (q_lan b_0 4503599627370495) 4503599627370496)) * (σ kR_unit 0)) (-((if (w32 (q_lan (q_lus b_0 52) 2047)) = 0 then 1 else (q_lan (q_lus b_0 52) 2047)) - 1075))) 1)) = 1)))) = true then ((q_lus ((if (w32 (q_lan (q_lus b_0 52) 2047)) = 0 then (q_lan b_0 4503599627370495) else (q_lor (q_lan b_0 4503599627370495) 4503599627370496)) * (σ kR_unit 0)) (-((if (w32 (q_lan (q_lus b_0 52) 2047)) = 0 then 1 else (q_lan (q_lus b_0 52) 2047)) - 1075))) + 1) else (q_lus ((if (w32 (q_lan (q_lus b_0 52) 2047)) = 0 then (q_lan b_0 4503599627370495) else (q_lor (q_lan b_0 4503599627370495) 4503599627370496)) * (σ kR_unit 0)) (-((if (w32 (q_lan (q_lus b_0 52) 2047)) = 0 then 1 else (q_lan (q_lus b_0 52) 2047)) - 1075)))))] σ 0 0 := by
                cases H
                exact z_lret (M := M_X12_inUnits) dX12_inUnits_170 rfl (Nat.le_of_ble_eq_true rfl) (Nat.le_of_ble_eq_true rfl) ⟨rfl, rfl⟩
              refine z_lload (M := M_X12_inUnits) dX12_inUnits_141 rfl ?_
              refine z_ldc2 (M := M_X12_inUnits) (n := 4000000000) dX12_inUnits_143 t_2936 (by decide +kernel) ?_
              refine z_lcmp (M := M_X12_inUnits) dX12_inUnits_146 ?_
              by_cases h_10 : 4000000000 ≤ (w64 (q_lus ((if (w32 (q_lan (q_lus b_0 52) 2047)) = 0 then (q_lan b_0 4503599627370495) else (q_lor (q_lan b_0 4503599627370495) 4503599627370496)) * (σ kR_unit 0)) (-((if (w32 (q_lan (q_lus b_0 52) 2047)) = 0 then 1 else (q_lan (q_lus b_0 52) 2047)) - 1075))))
              · refine z_lif_lt_f (M := M_X12_inUnits) (tgt := 156) dX12_inUnits_147 (by decide) rfl (by decide +kernel) h_10 ?_
                refine z_ldc2 (M := M_X12_inUnits) (n := 4000000000) dX12_inUnits_150 t_2936 (by decide +kernel) ?_
                refine z_goto (M := M_X12_inUnits) (tgt := 170) dX12_inUnits_153 (by decide) ?_
                exact z_st (by rw [if_pos (c := 4000000000 ≤ (w64 (q_lus ((if (w32 (q_lan (q_lus b_0 52) 2047)) = 0 then (q_lan b_0 4503599627370495) else (q_lor (q_lan b_0 4503599627370495) 4503599627370496)) * (σ kR_unit 0)) (-((if (w32 (q_lan (q_lus b_0 52) 2047)) = 0 then 1 else (q_lan (q_lus b_0 52) 2047)) - 1075))))) h_10]) J_9
              · refine z_lif_lt_t (M := M_X12_inUnits) (tgt := 156) dX12_inUnits_147 (by decide) rfl (by decide +kernel) (Int.not_le.mp h_10) ?_
                have J_11 : YY l E M_X12_inUnits 1 0 0 (pS (some (vl r)) σ) 170 [some (vr 277), some (vl b_0), none, some (vi (q_lan (q_lus b_0 52) 2047)), some (vl (q_lan b_0 4503599627370495)), none, some (vl ((if (w32 (q_lan (q_lus b_0 52) 2047)) = 0 then (q_lan b_0 4503599627370495) else (q_lor (q_lan b_0 4503599627370495) 4503599627370496)) * (σ kR_unit 0))), none, some (vi ((if (w32 (q_lan (q_lus b_0 52) 2047)) = 0 then 1 else (q_lan (q_lus b_0 52) 2047)) - 1075)), some (vl (q_lus ((if (w32 (q_lan (q_lus b_0 52) 2047)) = 0 then (q_lan b_0 4503599627370495) else (q_lor (q_lan b_0 4503599627370495) 4503599627370496)) * (σ kR_unit 0)) (-((if (w32 (q_lan (q_lus b_0 52) 2047)) = 0 then 1 else (q_lan (q_lus b_0 52) 2047)) - 1075)))), none, some (vl (((if (w32 (q_lan (q_lus b_0 52) 2047)) = 0 then (q_lan b_0 4503599627370495) else (q_lor (q_lan b_0 4503599627370495) 4503599627370496)) * (σ kR_unit 0)) - (q_lsl (q_lus ((if (w32 (q_lan (q_lus b_0 52) 2047)) = 0 then (q_lan b_0 4503599627370495) else (q_lor (q_lan b_0 4503599627370495) 4503599627370496)) * (σ kR_unit 0)) (-((if (w32 (q_lan (q_lus b_0 52) 2047)) = 0 then 1 else (q_lan (q_lus b_0 52) 2047)) - 1075))) (-((if (w32 (q_lan (q_lus b_0 52) 2047)) = 0 then 1 else (q_lan (q_lus b_0 52) 2047)) - 1075))))), none, some (vl (q_lsl 1 ((-((if (w32 (q_lan (q_lus b_0 52) 2047)) = 0 then 1 else (q_lan (q_lus b_0 52) 2047)) - 1075)) - 1))), none, some (zv (decide (((w64 (q_lsl 1 ((-((if (w32 (q_lan (q_lus b_0 52) 2047)) = 0 then 1 else (q_lan (q_lus b_0 52) 2047)) - 1075)) - 1))) < (w64 (((if (w32 (q_lan (q_lus b_0 52) 2047)) = 0 then (q_lan b_0 4503599627370495) else (q_lor (q_lan b_0 4503599627370495) 4503599627370496)) * (σ kR_unit 0)) - (q_lsl (q_lus ((if (w32 (q_lan (q_lus b_0 52) 2047)) = 0 then (q_lan b_0 4503599627370495) else (q_lor (q_lan b_0 4503599627370495) 4503599627370496)) * (σ kR_unit 0)) (-((if (w32 (q_lan (q_lus b_0 52) 2047)) = 0 then 1 else (q_lan (q_lus b_0 52) 2047)) - 1075))) (-((if (w32 (q_lan (q_lus b_0 52) 2047)) = 0 then 1 else (q_lan (q_lus b_0 52) 2047)) - 1075)))))) ∨ (((w64 (((if (w32 (q_lan (q_lus b_0 52) 2047)) = 0 then (q_lan b_0 4503599627370495) else (q_lor (q_lan b_0 4503599627370495) 4503599627370496)) * (σ kR_unit 0)) - (q_lsl (q_lus ((if (w32 (q_lan (q_lus b_0 52) 2047)) = 0 then (q_lan b_0 4503599627370495) else (q_lor (q_lan b_0 4503599627370495) 4503599627370496)) * (σ kR_unit 0)) (-((if (w32 (q_lan (q_lus b_0 52) 2047)) = 0 then 1 else (q_lan (q_lus b_0 52) 2047)) - 1075))) (-((if (w32 (q_lan (q_lus b_0 52) 2047)) = 0 then 1 else (q_lan (q_lus b_0 52) 2047)) - 1075))))) = (w64 (q_lsl 1 ((-((if (w32 (q_lan (q_lus b_0 52) 2047)) = 0 then 1 else (q_lan (q_lus b_0 52) 2047)) - 1075)) - 1)))) ∧ ((w64 (q_lan (q_lus ((if (w32 (q_lan (q_lus b_0 52) 2047)) = 0 then (q_lan b_0 4503599627370495) else (q_lor (q_lan b_0 4503599627370495) 4503599627370496)) * (σ kR_unit 0)) (-((if (w32 (q_lan (q_lus b_0 52) 2047)) = 0 then 1 else (q_lan (q_lus b_0 52) 2047)) - 1075))) 1)) = 1)))))] [vl (if (decide (((w64 (q_lsl 1 ((-((if (w32 (q_lan (q_lus b_0 52) 2047)) = 0 then 1 else (q_lan (q_lus b_0 52) 2047)) - 1075)) - 1))) < (w64 (((if (w32 (q_lan (q_lus b_0 52) 2047)) = 0 then (q_lan b_0 4503599627370495) else (q_lor (q_lan b_0 4503599627370495) 4503599627370496)) * (σ kR_unit 0)) - (q_lsl (q_lus ((if (w32 (q_lan (q_lus b_0 52) 2047)) = 0 then (q_lan b_0 4503599627370495) else (q_lor (q_lan b_0 4503599627370495) 4503599627370496)) * (σ kR_unit 0)) (-((if (w32 (q_lan (q_lus b_0 52) 2047)) = 0 then 1 else (q_lan (q_lus b_0 52) 2047)) - 1075))) (-((if (w32 (q_lan (q_lus b_0 52) 2047)) = 0 then 1 else (q_lan (q_lus b_0 52) 2047)) - 1075)))))) ∨ (((w64 (((if (w32 (q_lan (q_lus b_0 52) 2047)) = 0 then (q_lan b_0 4503599627370495) else (q_lor (q_lan b_0 4503599627370495) 4503599627370496)) * (σ kR_unit 0)) - (q_lsl (q_lus ((if (w32 (q_lan (q_lus b_0 52) 2047)) = 0 then (q_lan b_0 4503599627370495) else (q_lor (q_lan b_0 4503599627370495) 4503599627370496)) * (σ kR_unit 0)) (-((if (w32 (q_lan (q_lus b_0 52) 2047)) = 0 then 1 else (q_lan (q_lus b_0 52) 2047)) - 1075))) (-((if (w32 (q_lan (q_lus b_0 52) 2047)) = 0 then 1 else (q_lan (q_lus b_0 52) 2047)) - 1075))))) = (w64 (q_lsl 1 ((-((if (w32 (q_lan (q_lus b_0 52) 2047)) = 0 then 1 else (q_lan (q_lus b_0 52) 2047)) - 1075)) - 1)))) ∧ ((w64 (q_lan (q_lus ((if (w32 (q_lan (q_lus b_0 52) 2047)) = 0 then (q_lan b_0 4503599627370495) else (q_lor (q_lan b_0 4503599627370495) 4503599627370496)) * (σ kR_unit 0)) (-((if (w32 (q_lan (q_lus b_0 52) 2047)) = 0 then 1 else (q_lan (q_lus b_0 52) 2047)) - 1075))) 1)) = 1)))) = true then ((q_lus ((if (w32 (q_lan (q_lus b_0 52) 2047)) = 0 then (q_lan b_0 4503599627370495) else (q_lor (q_lan b_0 4503599627370495) 4503599627370496)) * (σ kR_unit 0)) (-((if (w32 (q_lan (q_lus b_0 52) 2047)) = 0 then 1 else (q_lan (q_lus b_0 52) 2047)) - 1075))) + 1) else (q_lus ((if (w32 (q_lan (q_lus b_0 52) 2047)) = 0 then (q_lan b_0 4503599627370495) else (q_lor (q_lan b_0 4503599627370495) 4503599627370496)) * (σ kR_unit 0)) (-((if (w32 (q_lan (q_lus b_0 52) 2047)) = 0 then 1 else (q_lan (q_lus b_0 52) 2047)) - 1075))))] σ 0 0 := by
                  exact z_st (by rw [if_neg (c := 4000000000 ≤ (w64 (q_lus ((if (w32 (q_lan (q_lus b_0 52) 2047)) = 0 then (q_lan b_0 4503599627370495) else (q_lor (q_lan b_0 4503599627370495) 4503599627370496)) * (σ kR_unit 0)) (-((if (w32 (q_lan (q_lus b_0 52) 2047)) = 0 then 1 else (q_lan (q_lus b_0 52) 2047)) - 1075))))) h_10]) J_9
                refine z_zload (M := M_X12_inUnits) dX12_inUnits_156 rfl ?_
                by_cases h_12 : (decide (((w64 (q_lsl 1 ((-((if (w32 (q_lan (q_lus b_0 52) 2047)) = 0 then 1 else (q_lan (q_lus b_0 52) 2047)) - 1075)) - 1))) < (w64 (((if (w32 (q_lan (q_lus b_0 52) 2047)) = 0 then (q_lan b_0 4503599627370495) else (q_lor (q_lan b_0 4503599627370495) 4503599627370496)) * (σ kR_unit 0)) - (q_lsl (q_lus ((if (w32 (q_lan (q_lus b_0 52) 2047)) = 0 then (q_lan b_0 4503599627370495) else (q_lor (q_lan b_0 4503599627370495) 4503599627370496)) * (σ kR_unit 0)) (-((if (w32 (q_lan (q_lus b_0 52) 2047)) = 0 then 1 else (q_lan (q_lus b_0 52) 2047)) - 1075))) (-((if (w32 (q_lan (q_lus b_0 52) 2047)) = 0 then 1 else (q_lan (q_lus b_0 52) 2047)) - 1075)))))) ∨ (((w64 (((if (w32 (q_lan (q_lus b_0 52) 2047)) = 0 then (q_lan b_0 4503599627370495) else (q_lor (q_lan b_0 4503599627370495) 4503599627370496)) * (σ kR_unit 0)) - (q_lsl (q_lus ((if (w32 (q_lan (q_lus b_0 52) 2047)) = 0 then (q_lan b_0 4503599627370495) else (q_lor (q_lan b_0 4503599627370495) 4503599627370496)) * (σ kR_unit 0)) (-((if (w32 (q_lan (q_lus b_0 52) 2047)) = 0 then 1 else (q_lan (q_lus b_0 52) 2047)) - 1075))) (-((if (w32 (q_lan (q_lus b_0 52) 2047)) = 0 then 1 else (q_lan (q_lus b_0 52) 2047)) - 1075))))) = (w64 (q_lsl 1 ((-((if (w32 (q_lan (q_lus b_0 52) 2047)) = 0 then 1 else (q_lan (q_lus b_0 52) 2047)) - 1075)) - 1)))) ∧ ((w64 (q_lan (q_lus ((if (w32 (q_lan (q_lus b_0 52) 2047)) = 0 then (q_lan b_0 4503599627370495) else (q_lor (q_lan b_0 4503599627370495) 4503599627370496)) * (σ kR_unit 0)) (-((if (w32 (q_lan (q_lus b_0 52) 2047)) = 0 then 1 else (q_lan (q_lus b_0 52) 2047)) - 1075))) 1)) = 1)))) = true
                · refine z_zeq_f (M := M_X12_inUnits) (tgt := 168) dX12_inUnits_158 (by decide) h_12 ?_
                  refine z_lload (M := M_X12_inUnits) dX12_inUnits_161 rfl ?_
                  refine z_lconst (M := M_X12_inUnits) (m := 1) dX12_inUnits_163 (by decide +kernel) ?_
                  refine z_ladd (M := M_X12_inUnits) dX12_inUnits_164 ?_
                  refine z_goto (M := M_X12_inUnits) (tgt := 170) dX12_inUnits_165 (by decide) ?_
                  exact z_st (by rw [if_pos (c := (decide (((w64 (q_lsl 1 ((-((if (w32 (q_lan (q_lus b_0 52) 2047)) = 0 then 1 else (q_lan (q_lus b_0 52) 2047)) - 1075)) - 1))) < (w64 (((if (w32 (q_lan (q_lus b_0 52) 2047)) = 0 then (q_lan b_0 4503599627370495) else (q_lor (q_lan b_0 4503599627370495) 4503599627370496)) * (σ kR_unit 0)) - (q_lsl (q_lus ((if (w32 (q_lan (q_lus b_0 52) 2047)) = 0 then (q_lan b_0 4503599627370495) else (q_lor (q_lan b_0 4503599627370495) 4503599627370496)) * (σ kR_unit 0)) (-((if (w32 (q_lan (q_lus b_0 52) 2047)) = 0 then 1 else (q_lan (q_lus b_0 52) 2047)) - 1075))) (-((if (w32 (q_lan (q_lus b_0 52) 2047)) = 0 then 1 else (q_lan (q_lus b_0 52) 2047)) - 1075)))))) ∨ (((w64 (((if (w32 (q_lan (q_lus b_0 52) 2047)) = 0 then (q_lan b_0 4503599627370495) else (q_lor (q_lan b_0 4503599627370495) 4503599627370496)) * (σ kR_unit 0)) - (q_lsl (q_lus ((if (w32 (q_lan (q_lus b_0 52) 2047)) = 0 then (q_lan b_0 4503599627370495) else (q_lor (q_lan b_0 4503599627370495) 4503599627370496)) * (σ kR_unit 0)) (-((if (w32 (q_lan (q_lus b_0 52) 2047)) = 0 then 1 else (q_lan (q_lus b_0 52) 2047)) - 1075))) (-((if (w32 (q_lan (q_lus b_0 52) 2047)) = 0 then 1 else (q_lan (q_lus b_0 52) 2047)) - 1075))))) = (w64 (q_lsl 1 ((-((if (w32 (q_lan (q_lus b_0 52) 2047)) = 0 then 1 else (q_lan (q_lus b_0 52) 2047)) - 1075)) - 1)))) ∧ ((w64 (q_lan (q_lus ((if (w32 (q_lan (q_lus b_0 52) 2047)) = 0 then (q_lan b_0 4503599627370495) else (q_lor (q_lan b_0 4503599627370495) 4503599627370496)) * (σ kR_unit 0)) (-((if (w32 (q_lan (q_lus b_0 52) 2047)) = 0 then 1 else (q_lan (q_lus b_0 52) 2047)) - 1075))) 1)) = 1)))) = true) h_12]) J_11
                · refine z_zeq_t (M := M_X12_inUnits) (tgt := 168) dX12_inUnits_158 (by decide) h_12 ?_
                  refine z_lload (M := M_X12_inUnits) dX12_inUnits_168 rfl ?_
                  exact z_st (by rw [if_neg (c := (decide (((w64 (q_lsl 1 ((-((if (w32 (q_lan (q_lus b_0 52) 2047)) = 0 then 1 else (q_lan (q_lus b_0 52) 2047)) - 1075)) - 1))) < (w64 (((if (w32 (q_lan (q_lus b_0 52) 2047)) = 0 then (q_lan b_0 4503599627370495) else (q_lor (q_lan b_0 4503599627370495) 4503599627370496)) * (σ kR_unit 0)) - (q_lsl (q_lus ((if (w32 (q_lan (q_lus b_0 52) 2047)) = 0 then (q_lan b_0 4503599627370495) else (q_lor (q_lan b_0 4503599627370495) 4503599627370496)) * (σ kR_unit 0)) (-((if (w32 (q_lan (q_lus b_0 52) 2047)) = 0 then 1 else (q_lan (q_lus b_0 52) 2047)) - 1075))) (-((if (w32 (q_lan (q_lus b_0 52) 2047)) = 0 then 1 else (q_lan (q_lus b_0 52) 2047)) - 1075)))))) ∨ (((w64 (((if (w32 (q_lan (q_lus b_0 52) 2047)) = 0 then (q_lan b_0 4503599627370495) else (q_lor (q_lan b_0 4503599627370495) 4503599627370496)) * (σ kR_unit 0)) - (q_lsl (q_lus ((if (w32 (q_lan (q_lus b_0 52) 2047)) = 0 then (q_lan b_0 4503599627370495) else (q_lor (q_lan b_0 4503599627370495) 4503599627370496)) * (σ kR_unit 0)) (-((if (w32 (q_lan (q_lus b_0 52) 2047)) = 0 then 1 else (q_lan (q_lus b_0 52) 2047)) - 1075))) (-((if (w32 (q_lan (q_lus b_0 52) 2047)) = 0 then 1 else (q_lan (q_lus b_0 52) 2047)) - 1075))))) = (w64 (q_lsl 1 ((-((if (w32 (q_lan (q_lus b_0 52) 2047)) = 0 then 1 else (q_lan (q_lus b_0 52) 2047)) - 1075)) - 1)))) ∧ ((w64 (q_lan (q_lus ((if (w32 (q_lan (q_lus b_0 52) 2047)) = 0 then (q_lan b_0 4503599627370495) else (q_lor (q_lan b_0 4503599627370495) 4503599627370496)) * (σ kR_unit 0)) (-((if (w32 (q_lan (q_lus b_0 52) 2047)) = 0 then 1 else (q_lan (q_lus b_0 52) 2047)) - 1075))) 1)) = 1)))) = true) h_12]) J_11
            refine z_lload (M := M_X12_inUnits) dX12_inUnits_109 rfl ?_
            refine z_lload (M := M_X12_inUnits) dX12_inUnits_111 rfl ?_
            refine z_lcmp (M := M_X12_inUnits) dX12_inUnits_113 ?_
            by_cases h_13 : (w64 (q_lsl 1 ((-((if (w32 (q_lan (q_lus b_0 52) 2047)) = 0 then 1 else (q_lan (q_lus b_0 52) 2047)) - 1075)) - 1))) < (w64 (((if (w32 (q_lan (q_lus b_0 52) 2047)) = 0 then (q_lan b_0 4503599627370495) else (q_lor (q_lan b_0 4503599627370495) 4503599627370496)) * (σ kR_unit 0)) - (q_lsl (q_lus ((if (w32 (q_lan (q_lus b_0 52) 2047)) = 0 then (q_lan b_0 4503599627370495) else (q_lor (q_lan b_0 4503599627370495) 4503599627370496)) * (σ kR_unit 0)) (-((if (w32 (q_lan (q_lus b_0 52) 2047)) = 0 then 1 else (q_lan (q_lus b_0 52) 2047)) - 1075))) (-((if (w32 (q_lan (q_lus b_0 52) 2047)) = 0 then 1 else (q_lan (q_lus b_0 52) 2047)) - 1075)))))
            · refine z_lif_gt_t (M := M_X12_inUnits) (tgt := 134) dX12_inUnits_114 (by decide) rfl rfl h_13 ?_
              refine z_iconst (M := M_X12_inUnits) dX12_inUnits_134 ?_
              refine z_goto (M := M_X12_inUnits) (tgt := 139) dX12_inUnits_135 (by decide) ?_
              exact z_st (by rw [zv_t (p := ((w64 (q_lsl 1 ((-((if (w32 (q_lan (q_lus b_0 52) 2047)) = 0 then 1 else (q_lan (q_lus b_0 52) 2047)) - 1075)) - 1))) < (w64 (((if (w32 (q_lan (q_lus b_0 52) 2047)) = 0 then (q_lan b_0 4503599627370495) else (q_lor (q_lan b_0 4503599627370495) 4503599627370496)) * (σ kR_unit 0)) - (q_lsl (q_lus ((if (w32 (q_lan (q_lus b_0 52) 2047)) = 0 then (q_lan b_0 4503599627370495) else (q_lor (q_lan b_0 4503599627370495) 4503599627370496)) * (σ kR_unit 0)) (-((if (w32 (q_lan (q_lus b_0 52) 2047)) = 0 then 1 else (q_lan (q_lus b_0 52) 2047)) - 1075))) (-((if (w32 (q_lan (q_lus b_0 52) 2047)) = 0 then 1 else (q_lan (q_lus b_0 52) 2047)) - 1075)))))) ∨ (((w64 (((if (w32 (q_lan (q_lus b_0 52) 2047)) = 0 then (q_lan b_0 4503599627370495) else (q_lor (q_lan b_0 4503599627370495) 4503599627370496)) * (σ kR_unit 0)) - (q_lsl (q_lus ((if (w32 (q_lan (q_lus b_0 52) 2047)) = 0 then (q_lan b_0 4503599627370495) else (q_lor (q_lan b_0 4503599627370495) 4503599627370496)) * (σ kR_unit 0)) (-((if (w32 (q_lan (q_lus b_0 52) 2047)) = 0 then 1 else (q_lan (q_lus b_0 52) 2047)) - 1075))) (-((if (w32 (q_lan (q_lus b_0 52) 2047)) = 0 then 1 else (q_lan (q_lus b_0 52) 2047)) - 1075))))) = (w64 (q_lsl 1 ((-((if (w32 (q_lan (q_lus b_0 52) 2047)) = 0 then 1 else (q_lan (q_lus b_0 52) 2047)) - 1075)) - 1)))) ∧ ((w64 (q_lan (q_lus ((if (w32 (q_lan (q_lus b_0 52) 2047)) = 0 then (q_lan b_0 4503599627370495) else (q_lor (q_lan b_0 4503599627370495) 4503599627370496)) * (σ kR_unit 0)) (-((if (w32 (q_lan (q_lus b_0 52) 2047)) = 0 then 1 else (q_lan (q_lus b_0 52) 2047)) - 1075))) 1)) = 1))) (Or.inl h_13)]) J_6
            · refine z_lif_gt_f (M := M_X12_inUnits) (tgt := 134) dX12_inUnits_114 (by decide) rfl rfl (Int.not_lt.mp h_13) ?_
              refine z_lload (M := M_X12_inUnits) dX12_inUnits_117 rfl ?_
              refine z_lload (M := M_X12_inUnits) dX12_inUnits_119 rfl ?_
              refine z_lcmp (M := M_X12_inUnits) dX12_inUnits_121 ?_
              by_cases h_14 : (w64 (((if (w32 (q_lan (q_lus b_0 52) 2047)) = 0 then (q_lan b_0 4503599627370495) else (q_lor (q_lan b_0 4503599627370495) 4503599627370496)) * (σ kR_unit 0)) - (q_lsl (q_lus ((if (w32 (q_lan (q_lus b_0 52) 2047)) = 0 then (q_lan b_0 4503599627370495) else (q_lor (q_lan b_0 4503599627370495) 4503599627370496)) * (σ kR_unit 0)) (-((if (w32 (q_lan (q_lus b_0 52) 2047)) = 0 then 1 else (q_lan (q_lus b_0 52) 2047)) - 1075))) (-((if (w32 (q_lan (q_lus b_0 52) 2047)) = 0 then 1 else (q_lan (q_lus b_0 52) 2047)) - 1075))))) = (w64 (q_lsl 1 ((-((if (w32 (q_lan (q_lus b_0 52) 2047)) = 0 then 1 else (q_lan (q_lus b_0 52) 2047)) - 1075)) - 1)))
              · refine z_lif_ne_f (M := M_X12_inUnits) (tgt := 138) dX12_inUnits_122 (by decide) rfl rfl h_14 ?_
                refine z_lload (M := M_X12_inUnits) dX12_inUnits_125 rfl ?_
                refine z_lconst (M := M_X12_inUnits) (m := 1) dX12_inUnits_127 (by decide +kernel) ?_
                refine z_land (M := M_X12_inUnits) dX12_inUnits_128 ?_
                refine z_lconst (M := M_X12_inUnits) (m := 1) dX12_inUnits_129 (by decide +kernel) ?_
                refine z_lcmp (M := M_X12_inUnits) dX12_inUnits_130 ?_
                by_cases h_15 : (w64 (q_lan (q_lus ((if (w32 (q_lan (q_lus b_0 52) 2047)) = 0 then (q_lan b_0 4503599627370495) else (q_lor (q_lan b_0 4503599627370495) 4503599627370496)) * (σ kR_unit 0)) (-((if (w32 (q_lan (q_lus b_0 52) 2047)) = 0 then 1 else (q_lan (q_lus b_0 52) 2047)) - 1075))) 1)) = 1
                · refine z_lif_ne_f (M := M_X12_inUnits) (tgt := 138) dX12_inUnits_131 (by decide) rfl (by decide +kernel) h_15 ?_
                  refine z_iconst (M := M_X12_inUnits) dX12_inUnits_134 ?_
                  refine z_goto (M := M_X12_inUnits) (tgt := 139) dX12_inUnits_135 (by decide) ?_
                  exact z_st (by rw [zv_t (p := ((w64 (q_lsl 1 ((-((if (w32 (q_lan (q_lus b_0 52) 2047)) = 0 then 1 else (q_lan (q_lus b_0 52) 2047)) - 1075)) - 1))) < (w64 (((if (w32 (q_lan (q_lus b_0 52) 2047)) = 0 then (q_lan b_0 4503599627370495) else (q_lor (q_lan b_0 4503599627370495) 4503599627370496)) * (σ kR_unit 0)) - (q_lsl (q_lus ((if (w32 (q_lan (q_lus b_0 52) 2047)) = 0 then (q_lan b_0 4503599627370495) else (q_lor (q_lan b_0 4503599627370495) 4503599627370496)) * (σ kR_unit 0)) (-((if (w32 (q_lan (q_lus b_0 52) 2047)) = 0 then 1 else (q_lan (q_lus b_0 52) 2047)) - 1075))) (-((if (w32 (q_lan (q_lus b_0 52) 2047)) = 0 then 1 else (q_lan (q_lus b_0 52) 2047)) - 1075)))))) ∨ (((w64 (((if (w32 (q_lan (q_lus b_0 52) 2047)) = 0 then (q_lan b_0 4503599627370495) else (q_lor (q_lan b_0 4503599627370495) 4503599627370496)) * (σ kR_unit 0)) - (q_lsl (q_lus ((if (w32 (q_lan (q_lus b_0 52) 2047)) = 0 then (q_lan b_0 4503599627370495) else (q_lor (q_lan b_0 4503599627370495) 4503599627370496)) * (σ kR_unit 0)) (-((if (w32 (q_lan (q_lus b_0 52) 2047)) = 0 then 1 else (q_lan (q_lus b_0 52) 2047)) - 1075))) (-((if (w32 (q_lan (q_lus b_0 52) 2047)) = 0 then 1 else (q_lan (q_lus b_0 52) 2047)) - 1075))))) = (w64 (q_lsl 1 ((-((if (w32 (q_lan (q_lus b_0 52) 2047)) = 0 then 1 else (q_lan (q_lus b_0 52) 2047)) - 1075)) - 1)))) ∧ ((w64 (q_lan (q_lus ((if (w32 (q_lan (q_lus b_0 52) 2047)) = 0 then (q_lan b_0 4503599627370495) else (q_lor (q_lan b_0 4503599627370495) 4503599627370496)) * (σ kR_unit 0)) (-((if (w32 (q_lan (q_lus b_0 52) 2047)) = 0 then 1 else (q_lan (q_lus b_0 52) 2047)) - 1075))) 1)) = 1))) (Or.inr ⟨h_14, h_15⟩)]) J_6
                · refine z_lif_ne_t (M := M_X12_inUnits) (tgt := 138) dX12_inUnits_131 (by decide) rfl (by decide +kernel) h_15 ?_
                  refine z_iconst (M := M_X12_inUnits) dX12_inUnits_138 ?_
                  exact z_st (by rw [zv_f (p := ((w64 (q_lsl 1 ((-((if (w32 (q_lan (q_lus b_0 52) 2047)) = 0 then 1 else (q_lan (q_lus b_0 52) 2047)) - 1075)) - 1))) < (w64 (((if (w32 (q_lan (q_lus b_0 52) 2047)) = 0 then (q_lan b_0 4503599627370495) else (q_lor (q_lan b_0 4503599627370495) 4503599627370496)) * (σ kR_unit 0)) - (q_lsl (q_lus ((if (w32 (q_lan (q_lus b_0 52) 2047)) = 0 then (q_lan b_0 4503599627370495) else (q_lor (q_lan b_0 4503599627370495) 4503599627370496)) * (σ kR_unit 0)) (-((if (w32 (q_lan (q_lus b_0 52) 2047)) = 0 then 1 else (q_lan (q_lus b_0 52) 2047)) - 1075))) (-((if (w32 (q_lan (q_lus b_0 52) 2047)) = 0 then 1 else (q_lan (q_lus b_0 52) 2047)) - 1075)))))) ∨ (((w64 (((if (w32 (q_lan (q_lus b_0 52) 2047)) = 0 then (q_lan b_0 4503599627370495) else (q_lor (q_lan b_0 4503599627370495) 4503599627370496)) * (σ kR_unit 0)) - (q_lsl (q_lus ((if (w32 (q_lan (q_lus b_0 52) 2047)) = 0 then (q_lan b_0 4503599627370495) else (q_lor (q_lan b_0 4503599627370495) 4503599627370496)) * (σ kR_unit 0)) (-((if (w32 (q_lan (q_lus b_0 52) 2047)) = 0 then 1 else (q_lan (q_lus b_0 52) 2047)) - 1075))) (-((if (w32 (q_lan (q_lus b_0 52) 2047)) = 0 then 1 else (q_lan (q_lus b_0 52) 2047)) - 1075))))) = (w64 (q_lsl 1 ((-((if (w32 (q_lan (q_lus b_0 52) 2047)) = 0 then 1 else (q_lan (q_lus b_0 52) 2047)) - 1075)) - 1)))) ∧ ((w64 (q_lan (q_lus ((if (w32 (q_lan (q_lus b_0 52) 2047)) = 0 then (q_lan b_0 4503599627370495) else (q_lor (q_lan b_0 4503599627370495) 4503599627370496)) * (σ kR_unit 0)) (-((if (w32 (q_lan (q_lus b_0 52) 2047)) = 0 then 1 else (q_lan (q_lus b_0 52) 2047)) - 1075))) 1)) = 1))) (fun q => q.elim h_13 (fun q => h_15 q.2))]) J_6
              · refine z_lif_ne_t (M := M_X12_inUnits) (tgt := 138) dX12_inUnits_122 (by decide) rfl rfl h_14 ?_
                refine z_iconst (M := M_X12_inUnits) dX12_inUnits_138 ?_
                exact z_st (by rw [zv_f (p := ((w64 (q_lsl 1 ((-((if (w32 (q_lan (q_lus b_0 52) 2047)) = 0 then 1 else (q_lan (q_lus b_0 52) 2047)) - 1075)) - 1))) < (w64 (((if (w32 (q_lan (q_lus b_0 52) 2047)) = 0 then (q_lan b_0 4503599627370495) else (q_lor (q_lan b_0 4503599627370495) 4503599627370496)) * (σ kR_unit 0)) - (q_lsl (q_lus ((if (w32 (q_lan (q_lus b_0 52) 2047)) = 0 then (q_lan b_0 4503599627370495) else (q_lor (q_lan b_0 4503599627370495) 4503599627370496)) * (σ kR_unit 0)) (-((if (w32 (q_lan (q_lus b_0 52) 2047)) = 0 then 1 else (q_lan (q_lus b_0 52) 2047)) - 1075))) (-((if (w32 (q_lan (q_lus b_0 52) 2047)) = 0 then 1 else (q_lan (q_lus b_0 52) 2047)) - 1075)))))) ∨ (((w64 (((if (w32 (q_lan (q_lus b_0 52) 2047)) = 0 then (q_lan b_0 4503599627370495) else (q_lor (q_lan b_0 4503599627370495) 4503599627370496)) * (σ kR_unit 0)) - (q_lsl (q_lus ((if (w32 (q_lan (q_lus b_0 52) 2047)) = 0 then (q_lan b_0 4503599627370495) else (q_lor (q_lan b_0 4503599627370495) 4503599627370496)) * (σ kR_unit 0)) (-((if (w32 (q_lan (q_lus b_0 52) 2047)) = 0 then 1 else (q_lan (q_lus b_0 52) 2047)) - 1075))) (-((if (w32 (q_lan (q_lus b_0 52) 2047)) = 0 then 1 else (q_lan (q_lus b_0 52) 2047)) - 1075))))) = (w64 (q_lsl 1 ((-((if (w32 (q_lan (q_lus b_0 52) 2047)) = 0 then 1 else (q_lan (q_lus b_0 52) 2047)) - 1075)) - 1)))) ∧ ((w64 (q_lan (q_lus ((if (w32 (q_lan (q_lus b_0 52) 2047)) = 0 then (q_lan b_0 4503599627370495) else (q_lor (q_lan b_0 4503599627370495) 4503599627370496)) * (σ kR_unit 0)) (-((if (w32 (q_lan (q_lus b_0 52) 2047)) = 0 then 1 else (q_lan (q_lus b_0 52) 2047)) - 1075))) 1)) = 1))) (fun q => q.elim h_13 (fun q => h_14 q.1))]) J_6
    refine z_iload_n (M := M_X12_inUnits) dX12_inUnits_39 rfl ?_
    by_cases h_16 : (w32 (q_lan (q_lus b_0 52) 2047)) = 0
    · refine z_if_ne_f (M := M_X12_inUnits) (tgt := 47) dX12_inUnits_40 (by decide) rfl h_16 ?_
      refine z_iconst (M := M_X12_inUnits) dX12_inUnits_43 ?_
      refine z_goto (M := M_X12_inUnits) (tgt := 48) dX12_inUnits_44 (by decide) ?_
      exact z_st (by rw [if_pos (c := (w32 (q_lan (q_lus b_0 52) 2047)) = 0) h_16]) J_2
    · refine z_if_ne_t (M := M_X12_inUnits) (tgt := 47) dX12_inUnits_40 (by decide) rfl h_16 ?_
      refine z_iload_n (M := M_X12_inUnits) dX12_inUnits_47 rfl ?_
      exact z_st (by rw [if_neg (c := (w32 (q_lan (q_lus b_0 52) 2047)) = 0) h_16]) J_2
  refine z_iload_n (M := M_X12_inUnits) dX12_inUnits_17 rfl ?_
  by_cases h_17 : (w32 (q_lan (q_lus b_0 52) 2047)) = 0
  · refine z_if_ne_f (M := M_X12_inUnits) (tgt := 26) dX12_inUnits_18 (by decide) rfl h_17 ?_
    refine z_lload (M := M_X12_inUnits) dX12_inUnits_21 rfl ?_
    refine z_goto (M := M_X12_inUnits) (tgt := 32) dX12_inUnits_23 (by decide) ?_
    exact z_st (by rw [if_pos (c := (w32 (q_lan (q_lus b_0 52) 2047)) = 0) h_17]) J_1
  · refine z_if_ne_t (M := M_X12_inUnits) (tgt := 26) dX12_inUnits_18 (by decide) rfl h_17 ?_
    refine z_lload (M := M_X12_inUnits) dX12_inUnits_26 rfl ?_
    refine z_ldc2 (M := M_X12_inUnits) (n := 4503599627370496) dX12_inUnits_28 t_3008 (by decide +kernel) ?_
    refine z_lor (M := M_X12_inUnits) dX12_inUnits_31 ?_
    exact z_st (by rw [if_neg (c := (w32 (q_lan (q_lus b_0 52) 2047)) = 0) h_17]) J_1
theorem c_X12_there (hl : l.stackTraces = false) {σ : SG} {n_0 : Int} {r : Bool}  (H : fR_there σ n_0 = r) : en_S l E M_X12_there 1 0 0 [vr 277, vi n_0] σ (pS (some (zv r)) σ) := by
  unfold fR_there at H
  refine z_mk (lv := [some (vr 277), some (vi n_0)]) m_X12_there rfl hl (Nat.le_of_ble_eq_true rfl) rfl ?_
  have J_1 : YY l E M_X12_there 1 0 0 (pS (some (zv r)) σ) 18 [some (vr 277), some (vi n_0)] [zv (decide ((w32 ((σ kR_at 0) + n_0)) ≤ (w32 (σ kR_size 0))))] σ 0 0 := by
    cases H
    exact z_zret (M := M_X12_there) dX12_there_18 rfl (Nat.le_of_ble_eq_true rfl) (Nat.le_of_ble_eq_true rfl) ⟨rfl, rfl⟩
  refine z_aload_n (M := M_X12_there) dX12_there_0 rfl ?_
  refine z_getI (M := M_X12_there) (ci := 15) (C := RX12) (T := TX12) (Nf := 135) (ty := tyX12) cl15 dX12_there_1 ly_277 17 (by decide) t_2408 rfl rfl ?_
  refine z_iload_n (M := M_X12_there) dX12_there_4 rfl ?_
  refine z_iadd (M := M_X12_there) dX12_there_5 ?_
  refine z_aload_n (M := M_X12_there) dX12_there_6 rfl ?_
  refine z_getI (M := M_X12_there) (ci := 15) (C := RX12) (T := TX12) (Nf := 135) (ty := tyX12) cl15 dX12_there_7 ly_277 18 (by decide) t_2409 rfl rfl ?_
  by_cases h_2 : (w32 ((σ kR_at 0) + n_0)) ≤ (w32 (σ kR_size 0))
  · refine z_icmp_gt_f (M := M_X12_there) (tgt := 17) dX12_there_10 (by decide) rfl rfl h_2 ?_
    refine z_iconst (M := M_X12_there) dX12_there_13 ?_
    refine z_goto (M := M_X12_there) (tgt := 18) dX12_there_14 (by decide) ?_
    exact z_st (by rw [zv_t (p := (w32 ((σ kR_at 0) + n_0)) ≤ (w32 (σ kR_size 0))) h_2]) J_1
  · refine z_icmp_gt_t (M := M_X12_there) (tgt := 17) dX12_there_10 (by decide) rfl rfl (Int.not_le.mp h_2) ?_
    refine z_iconst (M := M_X12_there) dX12_there_17 ?_
    exact z_st (by rw [zv_f (p := (w32 ((σ kR_at 0) + n_0)) ≤ (w32 (σ kR_size 0))) h_2]) J_1
theorem c_X12_whole (hl : l.stackTraces = false) {σ : SG} {from_0 : Int} {n_0 : Int} {r : Int}  (H : fR_whole σ from_0 n_0 = some r) : en_S l E M_X12_whole 1 0 0 [vr 277, vi from_0, vi n_0] σ (pS (some (vl r)) σ) := by
  unfold fR_whole at H
  refine z_mk (lv := [some (vr 277), some (vi from_0), some (vi n_0), none, none, none, none]) m_X12_whole rfl hl (Nat.le_of_ble_eq_true rfl) rfl ?_
  refine z_lconst (M := M_X12_whole) (m := 0) dX12_whole_0 (by decide +kernel) ?_
  refine z_lstore_n (M := M_X12_whole) (lv' := [some (vr 277), some (vi from_0), some (vi n_0), some (vl 0), none, none, none]) dX12_whole_1 (Nat.le_of_ble_eq_true rfl) rfl rfl ?_
  refine z_iconst (M := M_X12_whole) dX12_whole_2 ?_
  refine z_istore (M := M_X12_whole) (lv' := [some (vr 277), some (vi from_0), some (vi n_0), some (vl 0), none, some (vi 0), none]) dX12_whole_3 (Nat.le_of_ble_eq_true rfl) rfl rfl ?_
  obtain ⟨rl_6, hw_3, hk_4⟩ := bd_e H
  have J_20 : ∀ v_18 k_19, rl_6 = (v_18, k_19) → YY l E M_X12_whole 1 0 0 (pS (some (vl r)) σ) 59 [some (vr 277), some (vi from_0), some (vi n_0), some (vl v_18), none, some (vi k_19), none] [] σ 0 0 := by
    intro v_18 k_19 e
    have H := hk_4
    rw [e] at H
    refine z_lload_n (M := M_X12_whole) dX12_whole_59 rfl ?_
    cases H
    exact z_lret (M := M_X12_whole) dX12_whole_60 rfl (Nat.le_of_ble_eq_true rfl) (Nat.le_of_ble_eq_true rfl) ⟨rfl, rfl⟩
  refine whl_go hw_3 (fun (v_1, k_2) => YY l E M_X12_whole 1 0 0 (pS (some (vl r)) σ) 5 [some (vr 277), some (vi from_0), some (vi n_0), some (vl v_1), none, some (vi k_2), none] [] σ 0 0) ?_
  rintro ⟨v_1, k_2⟩ o_7 H K_8 K_9
  refine z_iload (M := M_X12_whole) dX12_whole_5 rfl ?_
  refine z_iload_n (M := M_X12_whole) dX12_whole_7 rfl ?_
  rcases if_e H with ⟨h_10, H⟩ | ⟨h_10, H⟩
  · refine z_icmp_ge_f (M := M_X12_whole) (tgt := 59) dX12_whole_8 (by decide) rfl rfl h_10 ?_
    have J_11 : YY l E M_X12_whole 1 0 0 (pS (some (vl r)) σ) 33 [some (vr 277), some (vi from_0), some (vi n_0), some (vl v_1), none, some (vi k_2), none] [vi (if (nz (σ kR_bigFirst 0)) = true then (from_0 + k_2) else (((from_0 + n_0) - 1) - k_2))] σ 0 0 := by
      obtain ⟨x_12, x_12_e, H⟩ := lt_e H
      refine z_st (congrArg (fun z => vi z :: []) x_12_e) ?_
      refine z_istore (M := M_X12_whole) (lv' := [some (vr 277), some (vi from_0), some (vi n_0), some (vl v_1), none, some (vi k_2), some (vi x_12)]) dX12_whole_33 (Nat.le_of_ble_eq_true rfl) rfl rfl ?_
      refine z_lload_n (M := M_X12_whole) dX12_whole_35 rfl ?_
      refine z_bipush (M := M_X12_whole) dX12_whole_36 (by decide +kernel) ?_
      refine z_lshl (M := M_X12_whole) dX12_whole_38 ?_
      refine z_aload_n (M := M_X12_whole) dX12_whole_39 rfl ?_
      refine z_getR (M := M_X12_whole) (ci := 15) (C := RX12) (T := TX12) (Nf := 135) (ty := tyX12) cl15 dX12_whole_40 ly_277 3 (by decide) t_2394 rfl ?_
      refine z_iload (M := M_X12_whole) dX12_whole_43 rfl ?_
      obtain ⟨x_13, x_13_e, hi_14, H⟩ := rd_e H
      refine z_bald (M := M_X12_whole) dX12_whole_45 ly_278 rfl rfl rfl hi_14 x_13_e ?_
      refine z_i2l (M := M_X12_whole) dX12_whole_46 ?_
      refine z_ldc2 (M := M_X12_whole) (n := 255) dX12_whole_47 t_2982 (by decide +kernel) ?_
      refine z_land (M := M_X12_whole) dX12_whole_50 ?_
      refine z_lor (M := M_X12_whole) dX12_whole_51 ?_
      refine z_lstore_n (M := M_X12_whole) (lv' := [some (vr 277), some (vi from_0), some (vi n_0), some (vl (q_lor (q_lsl v_1 8) (q_lan (w32 (w8 x_13)) 255))), none, some (vi k_2), some (vi x_12)]) dX12_whole_52 (Nat.le_of_ble_eq_true rfl) rfl rfl ?_
      refine z_iinc (M := M_X12_whole) (lv' := [some (vr 277), some (vi from_0), some (vi n_0), some (vl (q_lor (q_lsl v_1 8) (q_lan (w32 (w8 x_13)) 255))), none, some (vi (k_2 + 1)), some (vi x_12)]) dX12_whole_53 rfl (Nat.le_of_ble_eq_true rfl) rfl rfl ?_
      refine z_goto (M := M_X12_whole) (tgt := 5) dX12_whole_56 (by decide) ?_
      refine z_le (lv' := [some (vr 277), some (vi from_0), some (vi n_0), some (vl (q_lor (q_lsl v_1 8) (q_lan (w32 (w8 x_13)) 255))), none, some (vi (k_2 + 1)), none]) ⟨Or.inr rfl, Or.inr rfl, Or.inr rfl, Or.inr rfl, Or.inl rfl, Or.inr rfl, Or.inl rfl, trivial⟩ ?_
      exact K_8 _ (Option.some.inj H).symm
    refine z_aload_n (M := M_X12_whole) dX12_whole_11 rfl ?_
    refine z_getZ (M := M_X12_whole) (ci := 15) (C := RX12) (T := TX12) (Nf := 135) (ty := tyX12) cl15 dX12_whole_12 ly_277 26 (by decide) t_2417 rfl rfl ?_
    by_cases h_16 : (nz (σ kR_bigFirst 0)) = true
    · refine z_zeq_f (M := M_X12_whole) (tgt := 25) dX12_whole_15 (by decide) h_16 ?_
      refine z_iload_n (M := M_X12_whole) dX12_whole_18 rfl ?_
      refine z_iload (M := M_X12_whole) dX12_whole_19 rfl ?_
      refine z_iadd (M := M_X12_whole) dX12_whole_21 ?_
      refine z_goto (M := M_X12_whole) (tgt := 33) dX12_whole_22 (by decide) ?_
      exact z_st (by rw [if_pos (c := (nz (σ kR_bigFirst 0)) = true) h_16]) J_11
    · refine z_zeq_t (M := M_X12_whole) (tgt := 25) dX12_whole_15 (by decide) h_16 ?_
      refine z_iload_n (M := M_X12_whole) dX12_whole_25 rfl ?_
      refine z_iload_n (M := M_X12_whole) dX12_whole_26 rfl ?_
      refine z_iadd (M := M_X12_whole) dX12_whole_27 ?_
      refine z_iconst (M := M_X12_whole) dX12_whole_28 ?_
      refine z_isub (M := M_X12_whole) dX12_whole_29 ?_
      refine z_iload (M := M_X12_whole) dX12_whole_30 rfl ?_
      refine z_isub (M := M_X12_whole) dX12_whole_32 ?_
      exact z_st (by rw [if_neg (c := (nz (σ kR_bigFirst 0)) = true) h_16]) J_11
  · refine z_icmp_ge_t (M := M_X12_whole) (tgt := 59) dX12_whole_8 (by decide) rfl rfl (Int.not_lt.mp h_10) ?_
    exact J_20 _ _ (K_9 _ (Option.some.inj H).symm).symm
theorem c_X12_ordinateOfBytes (hl : l.stackTraces = false) {σ : SG} {r : Bool} {σ' : SG}  (H : fR_ordinateOfBytes σ = some (r, σ')) : en_S l E M_X12_ordinateOfBytes 2 0 0 [vr 277] σ (pS (some (zv r)) σ') := by
  unfold fR_ordinateOfBytes at H
  refine z_mk (lv := [some (vr 277), none, none, none, none]) m_X12_ordinateOfBytes rfl hl (Nat.le_of_ble_eq_true rfl) rfl ?_
  refine z_aload_n (M := M_X12_ordinateOfBytes) dX12_ordinateOfBytes_0 rfl ?_
  refine z_bipush (M := M_X12_ordinateOfBytes) dX12_ordinateOfBytes_1 (by decide +kernel) ?_
  refine z_callV (M := M_X12_ordinateOfBytes) (M' := M_X12_there) (as := [vi 8]) (rest := []) rfl rfl dX12_ordinateOfBytes_3 m_X12_there t_2974 t_2976 s_187 (c_X12_there hl  rfl) rfl rfl ly_277 rfl (Nat.le_of_ble_eq_true rfl) (Nat.le_of_ble_eq_true rfl) (Nat.le_of_ble_eq_true rfl) (Nat.le_of_ble_eq_true rfl) ?_
  refine z_st (st' := [zv (fR_there σ 8)]) rfl ?_
  rcases if_e H with ⟨h_1, H⟩ | ⟨h_1, H⟩
  · refine z_zne_t (M := M_X12_ordinateOfBytes) (tgt := 19) dX12_ordinateOfBytes_6 (by decide) h_1 ?_
    refine z_aload_n (M := M_X12_ordinateOfBytes) dX12_ordinateOfBytes_19 rfl ?_
    refine z_aload_n (M := M_X12_ordinateOfBytes) dX12_ordinateOfBytes_20 rfl ?_
    refine z_getI (M := M_X12_ordinateOfBytes) (ci := 15) (C := RX12) (T := TX12) (Nf := 135) (ty := tyX12) cl15 dX12_ordinateOfBytes_21 ly_277 17 (by decide) t_2408 rfl rfl ?_
    refine z_bipush (M := M_X12_ordinateOfBytes) dX12_ordinateOfBytes_24 (by decide +kernel) ?_
    obtain ⟨x_3, hc_2, H⟩ := bd_e H
    refine z_callV (M := M_X12_ordinateOfBytes) (M' := M_X12_whole) (as := [vi (σ kR_at 0), vi 8]) (rest := []) rfl rfl dX12_ordinateOfBytes_26 m_X12_whole t_2978 t_2980 s_188 (c_X12_whole hl  hc_2) rfl rfl ly_277 rfl (Nat.le_of_ble_eq_true rfl) (Nat.le_of_ble_eq_true rfl) (Nat.le_of_ble_eq_true rfl) (Nat.le_of_ble_eq_true rfl) ?_
    refine z_st (st' := [vl x_3]) rfl ?_
    refine z_lstore_n (M := M_X12_ordinateOfBytes) (lv' := [some (vr 277), some (vl x_3), none, none, none]) dX12_ordinateOfBytes_29 (Nat.le_of_ble_eq_true rfl) rfl rfl ?_
    refine z_lload_n (M := M_X12_ordinateOfBytes) dX12_ordinateOfBytes_30 rfl ?_
    refine z_bipush (M := M_X12_ordinateOfBytes) dX12_ordinateOfBytes_31 (by decide +kernel) ?_
    refine z_lushr (M := M_X12_ordinateOfBytes) dX12_ordinateOfBytes_33 ?_
    refine z_ldc2 (M := M_X12_ordinateOfBytes) (n := 2047) dX12_ordinateOfBytes_34 t_2994 (by decide +kernel) ?_
    refine z_land (M := M_X12_ordinateOfBytes) dX12_ordinateOfBytes_37 ?_
    refine z_ldc2 (M := M_X12_ordinateOfBytes) (n := 2047) dX12_ordinateOfBytes_38 t_2994 (by decide +kernel) ?_
    refine z_lcmp (M := M_X12_ordinateOfBytes) dX12_ordinateOfBytes_41 ?_
    rcases if_e H with ⟨h_4, H⟩ | ⟨h_4, H⟩
    · refine z_lif_ne_f (M := M_X12_ordinateOfBytes) (tgt := 55) dX12_ordinateOfBytes_42 (by decide) rfl (by decide +kernel) h_4 ?_
      refine z_aload_n (M := M_X12_ordinateOfBytes) dX12_ordinateOfBytes_45 rfl ?_
      refine z_iconst (M := M_X12_ordinateOfBytes) dX12_ordinateOfBytes_46 ?_
      refine z_aload_n (M := M_X12_ordinateOfBytes) dX12_ordinateOfBytes_47 rfl ?_
      refine z_getI (M := M_X12_ordinateOfBytes) (ci := 15) (C := RX12) (T := TX12) (Nf := 135) (ty := tyX12) cl15 dX12_ordinateOfBytes_48 ly_277 17 (by decide) t_2408 rfl rfl ?_
      obtain ⟨⟨x_7, σ_6⟩, hc_5, H⟩ := bd_e H
      refine z_callV (M := M_X12_ordinateOfBytes) (M' := M_X12_wrong) (as := [vi 4, vi (σ kR_at 0)]) (rest := []) rfl rfl dX12_ordinateOfBytes_51 m_X12_wrong t_2874 t_2876 s_166 (c_X12_wrong hl  hc_5) rfl rfl ly_277 rfl (Nat.le_of_ble_eq_true rfl) (Nat.le_of_ble_eq_true rfl) (Nat.le_of_ble_eq_true rfl) (Nat.le_of_ble_eq_true rfl) ?_
      refine z_st (st' := [zv x_7]) rfl ?_
      cases H
      exact z_zret (M := M_X12_ordinateOfBytes) dX12_ordinateOfBytes_54 rfl (Nat.le_of_ble_eq_true rfl) (Nat.le_of_ble_eq_true rfl) ⟨rfl, rfl⟩
    · refine z_lif_ne_t (M := M_X12_ordinateOfBytes) (tgt := 55) dX12_ordinateOfBytes_42 (by decide) rfl (by decide +kernel) h_4 ?_
      refine z_aload_n (M := M_X12_ordinateOfBytes) dX12_ordinateOfBytes_55 rfl ?_
      refine z_lload_n (M := M_X12_ordinateOfBytes) dX12_ordinateOfBytes_56 rfl ?_
      refine z_callV (M := M_X12_ordinateOfBytes) (M' := M_X12_inUnits) (as := [vl x_3]) (rest := []) rfl rfl dX12_ordinateOfBytes_57 m_X12_inUnits t_3004 t_3006 s_192 (c_X12_inUnits hl  rfl) rfl rfl ly_277 rfl (Nat.le_of_ble_eq_true rfl) (Nat.le_of_ble_eq_true rfl) (Nat.le_of_ble_eq_true rfl) (Nat.le_of_ble_eq_true rfl) ?_
      refine z_st (st' := [vl (fR_inUnits σ x_3)]) rfl ?_
      refine z_lstore_n (M := M_X12_ordinateOfBytes) (lv' := [some (vr 277), some (vl x_3), none, some (vl (fR_inUnits σ x_3)), none]) dX12_ordinateOfBytes_60 (Nat.le_of_ble_eq_true rfl) rfl rfl ?_
      refine z_lload_n (M := M_X12_ordinateOfBytes) dX12_ordinateOfBytes_61 rfl ?_
      refine z_ldc2 (M := M_X12_ordinateOfBytes) (n := 1000000000) dX12_ordinateOfBytes_62 t_2937 (by decide +kernel) ?_
      refine z_lcmp (M := M_X12_ordinateOfBytes) dX12_ordinateOfBytes_65 ?_
      rcases if_e H with ⟨h_8, H⟩ | ⟨h_8, H⟩
      · refine z_lif_le_f (M := M_X12_ordinateOfBytes) (tgt := 79) dX12_ordinateOfBytes_66 (by decide) rfl (by decide +kernel) h_8 ?_
        refine z_aload_n (M := M_X12_ordinateOfBytes) dX12_ordinateOfBytes_69 rfl ?_
        refine z_iconst (M := M_X12_ordinateOfBytes) dX12_ordinateOfBytes_70 ?_
        refine z_aload_n (M := M_X12_ordinateOfBytes) dX12_ordinateOfBytes_71 rfl ?_
        refine z_getI (M := M_X12_ordinateOfBytes) (ci := 15) (C := RX12) (T := TX12) (Nf := 135) (ty := tyX12) cl15 dX12_ordinateOfBytes_72 ly_277 17 (by decide) t_2408 rfl rfl ?_
        obtain ⟨⟨x_11, σ_10⟩, hc_9, H⟩ := bd_e H
        refine z_callV (M := M_X12_ordinateOfBytes) (M' := M_X12_wrong) (as := [vi 5, vi (σ kR_at 0)]) (rest := []) rfl rfl dX12_ordinateOfBytes_75 m_X12_wrong t_2874 t_2876 s_166 (c_X12_wrong hl  hc_9) rfl rfl ly_277 rfl (Nat.le_of_ble_eq_true rfl) (Nat.le_of_ble_eq_true rfl) (Nat.le_of_ble_eq_true rfl) (Nat.le_of_ble_eq_true rfl) ?_
        refine z_st (st' := [zv x_11]) rfl ?_
        cases H
        exact z_zret (M := M_X12_ordinateOfBytes) dX12_ordinateOfBytes_78 rfl (Nat.le_of_ble_eq_true rfl) (Nat.le_of_ble_eq_true rfl) ⟨rfl, rfl⟩
      · refine z_lif_le_t (M := M_X12_ordinateOfBytes) (tgt := 79) dX12_ordinateOfBytes_66 (by decide) rfl (by decide +kernel) (Int.not_lt.mp h_8) ?_
        refine z_aload_n (M := M_X12_ordinateOfBytes) dX12_ordinateOfBytes_79 rfl ?_
        have J_12 : YY l E M_X12_ordinateOfBytes 2 0 0 (pS (some (zv r)) σ') 92 [some (vr 277), some (vl x_3), none, some (vl (fR_inUnits σ x_3)), none] [vl (if (w64 x_3) < 0 then (-(fR_inUnits σ x_3)) else (fR_inUnits σ x_3)), vr 277] σ 0 0 := by
          obtain ⟨σ_13, σ_13_e, H⟩ := wf_e H
          refine z_putL (M := M_X12_ordinateOfBytes) (ci := 15) (C := RX12) (T := TX12) (Nf := 135) (ty := tyX12) cl15 dX12_ordinateOfBytes_92 ly_277 25 (by decide) t_2416 rfl rfl rfl rfl σ_13_e ?_
          refine z_aload_n (M := M_X12_ordinateOfBytes) dX12_ordinateOfBytes_95 rfl ?_
          refine z_dup (M := M_X12_ordinateOfBytes) dX12_ordinateOfBytes_96 rfl ?_
          refine z_getI (M := M_X12_ordinateOfBytes) (ci := 15) (C := RX12) (T := TX12) (Nf := 135) (ty := tyX12) cl15 dX12_ordinateOfBytes_97 ly_277 17 (by decide) t_2408 rfl rfl ?_
          refine z_bipush (M := M_X12_ordinateOfBytes) dX12_ordinateOfBytes_100 (by decide +kernel) ?_
          refine z_iadd (M := M_X12_ordinateOfBytes) dX12_ordinateOfBytes_102 ?_
          obtain ⟨σ_14, σ_14_e, H⟩ := wf_e H
          refine z_putI (M := M_X12_ordinateOfBytes) (ci := 15) (C := RX12) (T := TX12) (Nf := 135) (ty := tyX12) cl15 dX12_ordinateOfBytes_103 ly_277 17 (by decide) t_2408 rfl rfl rfl rfl σ_14_e ?_
          refine z_zconst (M := M_X12_ordinateOfBytes) (b := true) dX12_ordinateOfBytes_106 rfl ?_
          cases H
          exact z_zret (M := M_X12_ordinateOfBytes) dX12_ordinateOfBytes_107 rfl (Nat.le_of_ble_eq_true rfl) (Nat.le_of_ble_eq_true rfl) ⟨rfl, rfl⟩
        refine z_lload_n (M := M_X12_ordinateOfBytes) dX12_ordinateOfBytes_80 rfl ?_
        refine z_lconst (M := M_X12_ordinateOfBytes) (m := 0) dX12_ordinateOfBytes_81 (by decide +kernel) ?_
        refine z_lcmp (M := M_X12_ordinateOfBytes) dX12_ordinateOfBytes_82 ?_
        by_cases h_15 : (w64 x_3) < 0
        · refine z_lif_ge_f (M := M_X12_ordinateOfBytes) (tgt := 91) dX12_ordinateOfBytes_83 (by decide) rfl (by decide +kernel) h_15 ?_
          refine z_lload_n (M := M_X12_ordinateOfBytes) dX12_ordinateOfBytes_86 rfl ?_
          refine z_lneg (M := M_X12_ordinateOfBytes) dX12_ordinateOfBytes_87 ?_
          refine z_goto (M := M_X12_ordinateOfBytes) (tgt := 92) dX12_ordinateOfBytes_88 (by decide) ?_
          exact z_st (by rw [if_pos (c := (w64 x_3) < 0) h_15]) J_12
        · refine z_lif_ge_t (M := M_X12_ordinateOfBytes) (tgt := 91) dX12_ordinateOfBytes_83 (by decide) rfl (by decide +kernel) (Int.not_lt.mp h_15) ?_
          refine z_lload_n (M := M_X12_ordinateOfBytes) dX12_ordinateOfBytes_91 rfl ?_
          exact z_st (by rw [if_neg (c := (w64 x_3) < 0) h_15]) J_12
  · refine z_zne_f (M := M_X12_ordinateOfBytes) (tgt := 19) dX12_ordinateOfBytes_6 (by decide) h_1 ?_
    refine z_aload_n (M := M_X12_ordinateOfBytes) dX12_ordinateOfBytes_9 rfl ?_
    refine z_iconst (M := M_X12_ordinateOfBytes) dX12_ordinateOfBytes_10 ?_
    refine z_aload_n (M := M_X12_ordinateOfBytes) dX12_ordinateOfBytes_11 rfl ?_
    refine z_getI (M := M_X12_ordinateOfBytes) (ci := 15) (C := RX12) (T := TX12) (Nf := 135) (ty := tyX12) cl15 dX12_ordinateOfBytes_12 ly_277 17 (by decide) t_2408 rfl rfl ?_
    obtain ⟨⟨x_18, σ_17⟩, hc_16, H⟩ := bd_e H
    refine z_callV (M := M_X12_ordinateOfBytes) (M' := M_X12_wrong) (as := [vi 3, vi (σ kR_at 0)]) (rest := []) rfl rfl dX12_ordinateOfBytes_15 m_X12_wrong t_2874 t_2876 s_166 (c_X12_wrong hl  hc_16) rfl rfl ly_277 rfl (Nat.le_of_ble_eq_true rfl) (Nat.le_of_ble_eq_true rfl) (Nat.le_of_ble_eq_true rfl) (Nat.le_of_ble_eq_true rfl) ?_
    refine z_st (st' := [zv x_18]) rfl ?_
    cases H
    exact z_zret (M := M_X12_ordinateOfBytes) dX12_ordinateOfBytes_18 rfl (Nat.le_of_ble_eq_true rfl) (Nat.le_of_ble_eq_true rfl) ⟨rfl, rfl⟩
theorem c_X12_coordinateOfBytes (hl : l.stackTraces = false) {σ : SG} {r : Bool} {σ' : SG}  (H : fR_coordinateOfBytes σ = some (r, σ')) : en_S l E M_X12_coordinateOfBytes 3 0 0 [vr 277] σ (pS (some (zv r)) σ') := by
  unfold fR_coordinateOfBytes at H
  refine z_mk (lv := [some (vr 277), none, none]) m_X12_coordinateOfBytes rfl hl (Nat.le_of_ble_eq_true rfl) rfl ?_
  refine z_aload_n (M := M_X12_coordinateOfBytes) dX12_coordinateOfBytes_0 rfl ?_
  refine z_getR (M := M_X12_coordinateOfBytes) (ci := 15) (C := RX12) (T := TX12) (Nf := 135) (ty := tyX12) cl15 dX12_coordinateOfBytes_1 ly_277 11 (by decide) t_2402 rfl ?_
  refine z_bipush (M := M_X12_coordinateOfBytes) dX12_coordinateOfBytes_4 (by decide +kernel) ?_
  obtain ⟨x_1, x_1_e, hi_2, H⟩ := rd_e H
  refine z_iald (M := M_X12_coordinateOfBytes) dX12_coordinateOfBytes_6 ly_282 rfl (by decide +kernel) rfl hi_2 x_1_e ?_
  refine z_sipush (M := M_X12_coordinateOfBytes) dX12_coordinateOfBytes_7 (by decide +kernel) ?_
  rcases if_e H with ⟨h_3, H⟩ | ⟨h_3, H⟩
  · refine z_icmp_ne_f (M := M_X12_coordinateOfBytes) (tgt := 24) dX12_coordinateOfBytes_10 (by decide) rfl (by decide +kernel) h_3 ?_
    refine z_aload_n (M := M_X12_coordinateOfBytes) dX12_coordinateOfBytes_13 rfl ?_
    refine z_bipush (M := M_X12_coordinateOfBytes) dX12_coordinateOfBytes_14 (by decide +kernel) ?_
    refine z_aload_n (M := M_X12_coordinateOfBytes) dX12_coordinateOfBytes_16 rfl ?_
    refine z_getI (M := M_X12_coordinateOfBytes) (ci := 15) (C := RX12) (T := TX12) (Nf := 135) (ty := tyX12) cl15 dX12_coordinateOfBytes_17 ly_277 17 (by decide) t_2408 rfl rfl ?_
    obtain ⟨⟨x_6, σ_5⟩, hc_4, H⟩ := bd_e H
    refine z_callV (M := M_X12_coordinateOfBytes) (M' := M_X12_wrong) (as := [vi 7, vi (σ kR_at 0)]) (rest := []) rfl rfl dX12_coordinateOfBytes_20 m_X12_wrong t_2874 t_2876 s_166 (c_X12_wrong hl  hc_4) rfl rfl ly_277 rfl (Nat.le_of_ble_eq_true rfl) (Nat.le_of_ble_eq_true rfl) (Nat.le_of_ble_eq_true rfl) (Nat.le_of_ble_eq_true rfl) ?_
    refine z_st (st' := [zv x_6]) rfl ?_
    cases H
    exact z_zret (M := M_X12_coordinateOfBytes) dX12_coordinateOfBytes_23 rfl (Nat.le_of_ble_eq_true rfl) (Nat.le_of_ble_eq_true rfl) ⟨rfl, rfl⟩
  · refine z_icmp_ne_t (M := M_X12_coordinateOfBytes) (tgt := 24) dX12_coordinateOfBytes_10 (by decide) rfl (by decide +kernel) h_3 ?_
    refine z_aload_n (M := M_X12_coordinateOfBytes) dX12_coordinateOfBytes_24 rfl ?_
    obtain ⟨⟨x_9, σ_8⟩, hc_7, H⟩ := bd_e H
    refine z_callV (M := M_X12_coordinateOfBytes) (M' := M_X12_ordinateOfBytes) (as := []) (rest := []) rfl rfl dX12_coordinateOfBytes_25 m_X12_ordinateOfBytes t_3000 t_3002 s_191 (c_X12_ordinateOfBytes hl  hc_7) rfl rfl ly_277 rfl (Nat.le_of_ble_eq_true rfl) (Nat.le_of_ble_eq_true rfl) (Nat.le_of_ble_eq_true rfl) (Nat.le_of_ble_eq_true rfl) ?_
    refine z_st (st' := [zv x_9]) rfl ?_
    rcases if_e H with ⟨h_10, H⟩ | ⟨h_10, H⟩
    · refine z_zne_t (M := M_X12_coordinateOfBytes) (tgt := 33) dX12_coordinateOfBytes_28 (by decide) h_10 ?_
      refine z_aload_n (M := M_X12_coordinateOfBytes) dX12_coordinateOfBytes_33 rfl ?_
      refine z_getL (M := M_X12_coordinateOfBytes) (ci := 15) (C := RX12) (T := TX12) (Nf := 135) (ty := tyX12) cl15 dX12_coordinateOfBytes_34 ly_277 25 (by decide) t_2416 rfl rfl ?_
      refine z_lstore_n (M := M_X12_coordinateOfBytes) (lv' := [some (vr 277), some (vl (σ_8 kR_value 0)), none]) dX12_coordinateOfBytes_37 (Nat.le_of_ble_eq_true rfl) rfl rfl ?_
      refine z_aload_n (M := M_X12_coordinateOfBytes) dX12_coordinateOfBytes_38 rfl ?_
      obtain ⟨⟨x_13, σ_12⟩, hc_11, H⟩ := bd_e H
      refine z_callV (M := M_X12_coordinateOfBytes) (M' := M_X12_ordinateOfBytes) (as := []) (rest := []) rfl rfl dX12_coordinateOfBytes_39 m_X12_ordinateOfBytes t_3000 t_3002 s_191 (c_X12_ordinateOfBytes hl  hc_11) rfl rfl ly_277 rfl (Nat.le_of_ble_eq_true rfl) (Nat.le_of_ble_eq_true rfl) (Nat.le_of_ble_eq_true rfl) (Nat.le_of_ble_eq_true rfl) ?_
      refine z_st (st' := [zv x_13]) rfl ?_
      rcases if_e H with ⟨h_14, H⟩ | ⟨h_14, H⟩
      · refine z_zne_t (M := M_X12_coordinateOfBytes) (tgt := 47) dX12_coordinateOfBytes_42 (by decide) h_14 ?_
        refine z_aload_n (M := M_X12_coordinateOfBytes) dX12_coordinateOfBytes_47 rfl ?_
        refine z_lload_n (M := M_X12_coordinateOfBytes) dX12_coordinateOfBytes_48 rfl ?_
        refine z_aload_n (M := M_X12_coordinateOfBytes) dX12_coordinateOfBytes_49 rfl ?_
        refine z_getL (M := M_X12_coordinateOfBytes) (ci := 15) (C := RX12) (T := TX12) (Nf := 135) (ty := tyX12) cl15 dX12_coordinateOfBytes_50 ly_277 25 (by decide) t_2416 rfl rfl ?_
        obtain ⟨σ_16, hc_15, H⟩ := bd_e H
        refine z_callV (M := M_X12_coordinateOfBytes) (M' := M_X12_dot) (as := [vl (σ_8 kR_value 0), vl (σ_12 kR_value 0)]) (rest := []) rfl rfl dX12_coordinateOfBytes_53 m_X12_dot t_2938 t_2940 s_178 (c_X12_dot hl  hc_15) rfl rfl ly_277 rfl (Nat.le_of_ble_eq_true rfl) (Nat.le_of_ble_eq_true rfl) (Nat.le_of_ble_eq_true rfl) (Nat.le_of_ble_eq_true rfl) ?_
        refine z_st (st' := []) rfl ?_
        refine z_zconst (M := M_X12_coordinateOfBytes) (b := true) dX12_coordinateOfBytes_56 rfl ?_
        cases H
        exact z_zret (M := M_X12_coordinateOfBytes) dX12_coordinateOfBytes_57 rfl (Nat.le_of_ble_eq_true rfl) (Nat.le_of_ble_eq_true rfl) ⟨rfl, rfl⟩
      · refine z_zne_f (M := M_X12_coordinateOfBytes) (tgt := 47) dX12_coordinateOfBytes_42 (by decide) h_14 ?_
        refine z_zconst (M := M_X12_coordinateOfBytes) (b := false) dX12_coordinateOfBytes_45 rfl ?_
        cases H
        exact z_zret (M := M_X12_coordinateOfBytes) dX12_coordinateOfBytes_46 rfl (Nat.le_of_ble_eq_true rfl) (Nat.le_of_ble_eq_true rfl) ⟨rfl, rfl⟩
    · refine z_zne_f (M := M_X12_coordinateOfBytes) (tgt := 33) dX12_coordinateOfBytes_28 (by decide) h_10 ?_
      refine z_zconst (M := M_X12_coordinateOfBytes) (b := false) dX12_coordinateOfBytes_31 rfl ?_
      cases H
      exact z_zret (M := M_X12_coordinateOfBytes) dX12_coordinateOfBytes_32 rfl (Nat.le_of_ble_eq_true rfl) (Nat.le_of_ble_eq_true rfl) ⟨rfl, rfl⟩
theorem c_X12_isNoNumber (hl : l.stackTraces = false) {σ : SG} {b_0 : Int} {r : Bool}  (H : fR_isNoNumber b_0 = r) : en_S l E M_X12_isNoNumber 1 0 0 [vl b_0] σ (pS (some (zv r)) σ) := by
  unfold fR_isNoNumber at H
  refine z_mk (lv := [some (vl b_0), none]) m_X12_isNoNumber rfl hl (Nat.le_of_ble_eq_true rfl) rfl ?_
  have J_1 : YY l E M_X12_isNoNumber 1 0 0 (pS (some (zv r)) σ) 30 [some (vl b_0), none] [zv (decide (((w64 (q_lan (q_lus b_0 52) 2047)) = 2047) ∧ (¬ (w64 (q_lan b_0 4503599627370495)) = 0)))] σ 0 0 := by
    cases H
    exact z_zret (M := M_X12_isNoNumber) dX12_isNoNumber_30 rfl (Nat.le_of_ble_eq_true rfl) (Nat.le_of_ble_eq_true rfl) ⟨rfl, rfl⟩
  refine z_lload_n (M := M_X12_isNoNumber) dX12_isNoNumber_0 rfl ?_
  refine z_bipush (M := M_X12_isNoNumber) dX12_isNoNumber_1 (by decide +kernel) ?_
  refine z_lushr (M := M_X12_isNoNumber) dX12_isNoNumber_3 ?_
  refine z_ldc2 (M := M_X12_isNoNumber) (n := 2047) dX12_isNoNumber_4 t_2994 (by decide +kernel) ?_
  refine z_land (M := M_X12_isNoNumber) dX12_isNoNumber_7 ?_
  refine z_ldc2 (M := M_X12_isNoNumber) (n := 2047) dX12_isNoNumber_8 t_2994 (by decide +kernel) ?_
  refine z_lcmp (M := M_X12_isNoNumber) dX12_isNoNumber_11 ?_
  by_cases h_2 : (w64 (q_lan (q_lus b_0 52) 2047)) = 2047
  · refine z_lif_ne_f (M := M_X12_isNoNumber) (tgt := 29) dX12_isNoNumber_12 (by decide) rfl (by decide +kernel) h_2 ?_
    refine z_lload_n (M := M_X12_isNoNumber) dX12_isNoNumber_15 rfl ?_
    refine z_ldc2 (M := M_X12_isNoNumber) (n := 4503599627370495) dX12_isNoNumber_16 t_2995 (by decide +kernel) ?_
    refine z_land (M := M_X12_isNoNumber) dX12_isNoNumber_19 ?_
    refine z_lconst (M := M_X12_isNoNumber) (m := 0) dX12_isNoNumber_20 (by decide +kernel) ?_
    refine z_lcmp (M := M_X12_isNoNumber) dX12_isNoNumber_21 ?_
    by_cases h_3 : ¬ (w64 (q_lan b_0 4503599627370495)) = 0
    · refine z_lif_eq_f (M := M_X12_isNoNumber) (tgt := 29) dX12_isNoNumber_22 (by decide) rfl (by decide +kernel) h_3 ?_
      refine z_iconst (M := M_X12_isNoNumber) dX12_isNoNumber_25 ?_
      refine z_goto (M := M_X12_isNoNumber) (tgt := 30) dX12_isNoNumber_26 (by decide) ?_
      exact z_st (by rw [zv_t (p := ((w64 (q_lan (q_lus b_0 52) 2047)) = 2047) ∧ (¬ (w64 (q_lan b_0 4503599627370495)) = 0)) ⟨h_2, h_3⟩]) J_1
    · refine z_lif_eq_t (M := M_X12_isNoNumber) (tgt := 29) dX12_isNoNumber_22 (by decide) rfl (by decide +kernel) (Decidable.not_not.mp h_3) ?_
      refine z_iconst (M := M_X12_isNoNumber) dX12_isNoNumber_29 ?_
      exact z_st (by rw [zv_f (p := ((w64 (q_lan (q_lus b_0 52) 2047)) = 2047) ∧ (¬ (w64 (q_lan b_0 4503599627370495)) = 0)) (fun q => h_3 q.2)]) J_1
  · refine z_lif_ne_t (M := M_X12_isNoNumber) (tgt := 29) dX12_isNoNumber_12 (by decide) rfl (by decide +kernel) h_2 ?_
    refine z_iconst (M := M_X12_isNoNumber) dX12_isNoNumber_29 ?_
    exact z_st (by rw [zv_f (p := ((w64 (q_lan (q_lus b_0 52) 2047)) = 2047) ∧ (¬ (w64 (q_lan b_0 4503599627370495)) = 0)) (fun q => h_2 q.1)]) J_1
theorem c_X12_pointOfBytes (hl : l.stackTraces = false) {σ : SG} {number_0 : Int} {r : Bool} {σ' : SG}  (H : fR_pointOfBytes σ number_0 = some (r, σ')) : en_S l E M_X12_pointOfBytes 4 0 0 [vr 277, vi number_0] σ (pS (some (zv r)) σ') := by
  unfold fR_pointOfBytes at H
  refine z_mk (lv := [some (vr 277), some (vi number_0)]) m_X12_pointOfBytes rfl hl (Nat.le_of_ble_eq_true rfl) rfl ?_
  refine z_aload_n (M := M_X12_pointOfBytes) dX12_pointOfBytes_0 rfl ?_
  refine z_bipush (M := M_X12_pointOfBytes) dX12_pointOfBytes_1 (by decide +kernel) ?_
  refine z_callV (M := M_X12_pointOfBytes) (M' := M_X12_there) (as := [vi 16]) (rest := []) rfl rfl dX12_pointOfBytes_3 m_X12_there t_2974 t_2976 s_187 (c_X12_there hl  rfl) rfl rfl ly_277 rfl (Nat.le_of_ble_eq_true rfl) (Nat.le_of_ble_eq_true rfl) (Nat.le_of_ble_eq_true rfl) (Nat.le_of_ble_eq_true rfl) ?_
  refine z_st (st' := [zv (fR_there σ 16)]) rfl ?_
  rcases if_e H with ⟨h_17, H⟩ | ⟨h_17, H⟩
  · refine z_zeq_f (M := M_X12_pointOfBytes) (tgt := 57) dX12_pointOfBytes_6 (by decide) h_17 ?_
    refine z_aload_n (M := M_X12_pointOfBytes) dX12_pointOfBytes_9 rfl ?_
    refine z_aload_n (M := M_X12_pointOfBytes) dX12_pointOfBytes_10 rfl ?_
    refine z_getI (M := M_X12_pointOfBytes) (ci := 15) (C := RX12) (T := TX12) (Nf := 135) (ty := tyX12) cl15 dX12_pointOfBytes_11 ly_277 17 (by decide) t_2408 rfl rfl ?_
    refine z_bipush (M := M_X12_pointOfBytes) dX12_pointOfBytes_14 (by decide +kernel) ?_
    obtain ⟨x_19, hc_18, H⟩ := bd_e H
    refine z_callV (M := M_X12_pointOfBytes) (M' := M_X12_whole) (as := [vi (σ kR_at 0), vi 8]) (rest := []) rfl rfl dX12_pointOfBytes_16 m_X12_whole t_2978 t_2980 s_188 (c_X12_whole hl  hc_18) rfl rfl ly_277 rfl (Nat.le_of_ble_eq_true rfl) (Nat.le_of_ble_eq_true rfl) (Nat.le_of_ble_eq_true rfl) (Nat.le_of_ble_eq_true rfl) ?_
    refine z_st (st' := [vl x_19]) rfl ?_
    refine z_callS (M := M_X12_pointOfBytes) (M' := M_X12_isNoNumber) (as := [vl x_19]) (rest := []) rfl rfl dX12_pointOfBytes_19 m_X12_isNoNumber t_2991 t_2992 (c_X12_isNoNumber hl  rfl) rfl rfl (Nat.le_of_ble_eq_true rfl) (Nat.le_of_ble_eq_true rfl) (Nat.le_of_ble_eq_true rfl) (Nat.le_of_ble_eq_true rfl) ?_
    refine z_st (st' := [zv (fR_isNoNumber x_19)]) rfl ?_
    rcases if_e H with ⟨h_20, H⟩ | ⟨h_20, H⟩
    · refine z_zeq_f (M := M_X12_pointOfBytes) (tgt := 57) dX12_pointOfBytes_22 (by decide) h_20 ?_
      refine z_aload_n (M := M_X12_pointOfBytes) dX12_pointOfBytes_25 rfl ?_
      refine z_aload_n (M := M_X12_pointOfBytes) dX12_pointOfBytes_26 rfl ?_
      refine z_getI (M := M_X12_pointOfBytes) (ci := 15) (C := RX12) (T := TX12) (Nf := 135) (ty := tyX12) cl15 dX12_pointOfBytes_27 ly_277 17 (by decide) t_2408 rfl rfl ?_
      refine z_bipush (M := M_X12_pointOfBytes) dX12_pointOfBytes_30 (by decide +kernel) ?_
      refine z_iadd (M := M_X12_pointOfBytes) dX12_pointOfBytes_32 ?_
      refine z_bipush (M := M_X12_pointOfBytes) dX12_pointOfBytes_33 (by decide +kernel) ?_
      obtain ⟨x_22, hc_21, H⟩ := bd_e H
      refine z_callV (M := M_X12_pointOfBytes) (M' := M_X12_whole) (as := [vi ((σ kR_at 0) + 8), vi 8]) (rest := []) rfl rfl dX12_pointOfBytes_35 m_X12_whole t_2978 t_2980 s_188 (c_X12_whole hl  hc_21) rfl rfl ly_277 rfl (Nat.le_of_ble_eq_true rfl) (Nat.le_of_ble_eq_true rfl) (Nat.le_of_ble_eq_true rfl) (Nat.le_of_ble_eq_true rfl) ?_
      refine z_st (st' := [vl x_22]) rfl ?_
      refine z_callS (M := M_X12_pointOfBytes) (M' := M_X12_isNoNumber) (as := [vl x_22]) (rest := []) rfl rfl dX12_pointOfBytes_38 m_X12_isNoNumber t_2991 t_2992 (c_X12_isNoNumber hl  rfl) rfl rfl (Nat.le_of_ble_eq_true rfl) (Nat.le_of_ble_eq_true rfl) (Nat.le_of_ble_eq_true rfl) (Nat.le_of_ble_eq_true rfl) ?_
      refine z_st (st' := [zv (fR_isNoNumber x_22)]) rfl ?_
      rcases if_e H with ⟨h_23, H⟩ | ⟨h_23, H⟩
      · refine z_zeq_f (M := M_X12_pointOfBytes) (tgt := 57) dX12_pointOfBytes_41 (by decide) h_23 ?_
        refine z_aload_n (M := M_X12_pointOfBytes) dX12_pointOfBytes_44 rfl ?_
        refine z_dup (M := M_X12_pointOfBytes) dX12_pointOfBytes_45 rfl ?_
        refine z_getI (M := M_X12_pointOfBytes) (ci := 15) (C := RX12) (T := TX12) (Nf := 135) (ty := tyX12) cl15 dX12_pointOfBytes_46 ly_277 17 (by decide) t_2408 rfl rfl ?_
        refine z_bipush (M := M_X12_pointOfBytes) dX12_pointOfBytes_49 (by decide +kernel) ?_
        refine z_iadd (M := M_X12_pointOfBytes) dX12_pointOfBytes_51 ?_
        obtain ⟨σ_24, σ_24_e, H⟩ := wf_e H
        refine z_putI (M := M_X12_pointOfBytes) (ci := 15) (C := RX12) (T := TX12) (Nf := 135) (ty := tyX12) cl15 dX12_pointOfBytes_52 ly_277 17 (by decide) t_2408 rfl rfl rfl rfl σ_24_e ?_
        refine z_zconst (M := M_X12_pointOfBytes) (b := true) dX12_pointOfBytes_55 rfl ?_
        cases H
        exact z_zret (M := M_X12_pointOfBytes) dX12_pointOfBytes_56 rfl (Nat.le_of_ble_eq_true rfl) (Nat.le_of_ble_eq_true rfl) ⟨rfl, rfl⟩
      · refine z_zeq_t (M := M_X12_pointOfBytes) (tgt := 57) dX12_pointOfBytes_41 (by decide) h_23 ?_
        refine z_aload_n (M := M_X12_pointOfBytes) dX12_pointOfBytes_57 rfl ?_
        refine z_iload_n (M := M_X12_pointOfBytes) dX12_pointOfBytes_58 rfl ?_
        obtain ⟨σ_26, hc_25, H⟩ := bd_e H
        refine z_callV (M := M_X12_pointOfBytes) (M' := M_X12_more) (as := [vi number_0]) (rest := []) rfl rfl dX12_pointOfBytes_59 m_X12_more t_2906 t_2908 s_171 (c_X12_more hl  hc_25) rfl rfl ly_277 rfl (Nat.le_of_ble_eq_true rfl) (Nat.le_of_ble_eq_true rfl) (Nat.le_of_ble_eq_true rfl) (Nat.le_of_ble_eq_true rfl) ?_
        refine z_st (st' := []) rfl ?_
        refine z_aload_n (M := M_X12_pointOfBytes) dX12_pointOfBytes_62 rfl ?_
        obtain ⟨⟨x_29, σ_28⟩, hc_27, H⟩ := bd_e H
        refine z_callV (M := M_X12_pointOfBytes) (M' := M_X12_coordinateOfBytes) (as := []) (rest := []) rfl rfl dX12_pointOfBytes_63 m_X12_coordinateOfBytes t_2996 t_2998 s_190 (c_X12_coordinateOfBytes hl  hc_27) rfl rfl ly_277 rfl (Nat.le_of_ble_eq_true rfl) (Nat.le_of_ble_eq_true rfl) (Nat.le_of_ble_eq_true rfl) (Nat.le_of_ble_eq_true rfl) ?_
        refine z_st (st' := [zv x_29]) rfl ?_
        cases H
        exact z_zret (M := M_X12_pointOfBytes) dX12_pointOfBytes_66 rfl (Nat.le_of_ble_eq_true rfl) (Nat.le_of_ble_eq_true rfl) ⟨rfl, rfl⟩
    · refine z_zeq_t (M := M_X12_pointOfBytes) (tgt := 57) dX12_pointOfBytes_22 (by decide) h_20 ?_
      refine z_aload_n (M := M_X12_pointOfBytes) dX12_pointOfBytes_57 rfl ?_
      refine z_iload_n (M := M_X12_pointOfBytes) dX12_pointOfBytes_58 rfl ?_
      obtain ⟨σ_31, hc_30, H⟩ := bd_e H
      refine z_callV (M := M_X12_pointOfBytes) (M' := M_X12_more) (as := [vi number_0]) (rest := []) rfl rfl dX12_pointOfBytes_59 m_X12_more t_2906 t_2908 s_171 (c_X12_more hl  hc_30) rfl rfl ly_277 rfl (Nat.le_of_ble_eq_true rfl) (Nat.le_of_ble_eq_true rfl) (Nat.le_of_ble_eq_true rfl) (Nat.le_of_ble_eq_true rfl) ?_
      refine z_st (st' := []) rfl ?_
      refine z_aload_n (M := M_X12_pointOfBytes) dX12_pointOfBytes_62 rfl ?_
      obtain ⟨⟨x_34, σ_33⟩, hc_32, H⟩ := bd_e H
      refine z_callV (M := M_X12_pointOfBytes) (M' := M_X12_coordinateOfBytes) (as := []) (rest := []) rfl rfl dX12_pointOfBytes_63 m_X12_coordinateOfBytes t_2996 t_2998 s_190 (c_X12_coordinateOfBytes hl  hc_32) rfl rfl ly_277 rfl (Nat.le_of_ble_eq_true rfl) (Nat.le_of_ble_eq_true rfl) (Nat.le_of_ble_eq_true rfl) (Nat.le_of_ble_eq_true rfl) ?_
      refine z_st (st' := [zv x_34]) rfl ?_
      cases H
      exact z_zret (M := M_X12_pointOfBytes) dX12_pointOfBytes_66 rfl (Nat.le_of_ble_eq_true rfl) (Nat.le_of_ble_eq_true rfl) ⟨rfl, rfl⟩
  · refine z_zeq_t (M := M_X12_pointOfBytes) (tgt := 57) dX12_pointOfBytes_6 (by decide) h_17 ?_
    refine z_aload_n (M := M_X12_pointOfBytes) dX12_pointOfBytes_57 rfl ?_
    refine z_iload_n (M := M_X12_pointOfBytes) dX12_pointOfBytes_58 rfl ?_
    obtain ⟨σ_36, hc_35, H⟩ := bd_e H
    refine z_callV (M := M_X12_pointOfBytes) (M' := M_X12_more) (as := [vi number_0]) (rest := []) rfl rfl dX12_pointOfBytes_59 m_X12_more t_2906 t_2908 s_171 (c_X12_more hl  hc_35) rfl rfl ly_277 rfl (Nat.le_of_ble_eq_true rfl) (Nat.le_of_ble_eq_true rfl) (Nat.le_of_ble_eq_true rfl) (Nat.le_of_ble_eq_true rfl) ?_
    refine z_st (st' := []) rfl ?_
    refine z_aload_n (M := M_X12_pointOfBytes) dX12_pointOfBytes_62 rfl ?_
    obtain ⟨⟨x_39, σ_38⟩, hc_37, H⟩ := bd_e H
    refine z_callV (M := M_X12_pointOfBytes) (M' := M_X12_coordinateOfBytes) (as := []) (rest := []) rfl rfl dX12_pointOfBytes_63 m_X12_coordinateOfBytes t_2996 t_2998 s_190 (c_X12_coordinateOfBytes hl  hc_37) rfl rfl ly_277 rfl (Nat.le_of_ble_eq_true rfl) (Nat.le_of_ble_eq_true rfl) (Nat.le_of_ble_eq_true rfl) (Nat.le_of_ble_eq_true rfl) ?_
    refine z_st (st' := [zv x_39]) rfl ?_
    cases H
    exact z_zret (M := M_X12_pointOfBytes) dX12_pointOfBytes_66 rfl (Nat.le_of_ble_eq_true rfl) (Nat.le_of_ble_eq_true rfl) ⟨rfl, rfl⟩
theorem c_X12_rowOfBytes (hl : l.stackTraces = false) {σ : SG} {count_0 : Int} {r : Bool} {σ' : SG}  (H : fR_rowOfBytes σ count_0 = some (r, σ')) : en_S l E M_X12_rowOfBytes 4 0 0 [vr 277, vl count_0] σ (pS (some (zv r)) σ') := by
  unfold fR_rowOfBytes at H
  refine z_mk (lv := [some (vr 277), some (vl count_0), none, none, none]) m_X12_rowOfBytes rfl hl (Nat.le_of_ble_eq_true rfl) rfl ?_
  refine z_lconst (M := M_X12_rowOfBytes) (m := 0) dX12_rowOfBytes_0 (by decide +kernel) ?_
  refine z_lstore_n (M := M_X12_rowOfBytes) (lv' := [some (vr 277), some (vl count_0), none, some (vl 0), none]) dX12_rowOfBytes_1 (Nat.le_of_ble_eq_true rfl) rfl rfl ?_
  obtain ⟨rl_6, hw_3, hk_4, hk_5⟩ := bx_e H
  have J_19 : ∀ k_17 σ_18, rl_6 = (.inl (k_17, σ_18)) → YY l E M_X12_rowOfBytes 4 0 0 (pS (some (zv r)) σ') 24 [some (vr 277), some (vl count_0), none, some (vl k_17), none] [] σ_18 0 0 := by
    intro k_17 σ_18 e
    have H := hk_4 _ e
    refine z_zconst (M := M_X12_rowOfBytes) (b := true) dX12_rowOfBytes_24 rfl ?_
    cases H
    exact z_zret (M := M_X12_rowOfBytes) dX12_rowOfBytes_25 rfl (Nat.le_of_ble_eq_true rfl) (Nat.le_of_ble_eq_true rfl) ⟨rfl, rfl⟩
  refine whl_go hw_3 (fun (k_1, σ_2) => YY l E M_X12_rowOfBytes 4 0 0 (pS (some (zv r)) σ') 2 [some (vr 277), some (vl count_0), none, some (vl k_1), none] [] σ_2 0 0) ?_
  rintro ⟨k_1, σ_2⟩ o_7 H K_8 K_9
  refine z_lload_n (M := M_X12_rowOfBytes) dX12_rowOfBytes_2 rfl ?_
  refine z_lload_n (M := M_X12_rowOfBytes) dX12_rowOfBytes_3 rfl ?_
  refine z_lcmp (M := M_X12_rowOfBytes) dX12_rowOfBytes_4 ?_
  rcases if_e H with ⟨h_10, H⟩ | ⟨h_10, H⟩
  · refine z_lif_ge_f (M := M_X12_rowOfBytes) (tgt := 24) dX12_rowOfBytes_5 (by decide) rfl rfl h_10 ?_
    refine z_aload_n (M := M_X12_rowOfBytes) dX12_rowOfBytes_8 rfl ?_
    obtain ⟨⟨x_13, σ_12⟩, hc_11, H⟩ := bd_e H
    refine z_callV (M := M_X12_rowOfBytes) (M' := M_X12_coordinateOfBytes) (as := []) (rest := []) rfl rfl dX12_rowOfBytes_9 m_X12_coordinateOfBytes t_2996 t_2998 s_190 (c_X12_coordinateOfBytes hl  hc_11) rfl rfl ly_277 rfl (Nat.le_of_ble_eq_true rfl) (Nat.le_of_ble_eq_true rfl) (Nat.le_of_ble_eq_true rfl) (Nat.le_of_ble_eq_true rfl) ?_
    refine z_st (st' := [zv x_13]) rfl ?_
    rcases if_e H with ⟨h_14, H⟩ | ⟨h_14, H⟩
    · refine z_zne_t (M := M_X12_rowOfBytes) (tgt := 17) dX12_rowOfBytes_12 (by decide) h_14 ?_
      refine z_lload_n (M := M_X12_rowOfBytes) dX12_rowOfBytes_17 rfl ?_
      refine z_lconst (M := M_X12_rowOfBytes) (m := 1) dX12_rowOfBytes_18 (by decide +kernel) ?_
      refine z_ladd (M := M_X12_rowOfBytes) dX12_rowOfBytes_19 ?_
      refine z_lstore_n (M := M_X12_rowOfBytes) (lv' := [some (vr 277), some (vl count_0), none, some (vl (k_1 + 1)), none]) dX12_rowOfBytes_20 (Nat.le_of_ble_eq_true rfl) rfl rfl ?_
      refine z_goto (M := M_X12_rowOfBytes) (tgt := 2) dX12_rowOfBytes_21 (by decide) ?_
      exact K_8 _ (Option.some.inj H).symm
    · refine z_zne_f (M := M_X12_rowOfBytes) (tgt := 17) dX12_rowOfBytes_12 (by decide) h_14 ?_
      refine z_zconst (M := M_X12_rowOfBytes) (b := false) dX12_rowOfBytes_15 rfl ?_
      have H := congrArg some (hk_5 _ ((K_9 _ (Option.some.inj H).symm).symm))
      cases H
      exact z_zret (M := M_X12_rowOfBytes) dX12_rowOfBytes_16 rfl (Nat.le_of_ble_eq_true rfl) (Nat.le_of_ble_eq_true rfl) ⟨rfl, rfl⟩
  · refine z_lif_ge_t (M := M_X12_rowOfBytes) (tgt := 24) dX12_rowOfBytes_5 (by decide) rfl rfl (Int.not_lt.mp h_10) ?_
    exact J_19 _ _ (K_9 _ (Option.some.inj H).symm).symm
theorem c_X12_ringsOfBytes (hl : l.stackTraces = false) {σ : SG} {count_0 : Int} {r : Bool} {σ' : SG}  (H : fR_ringsOfBytes σ count_0 = some (r, σ')) : en_S l E M_X12_ringsOfBytes 5 0 0 [vr 277, vl count_0] σ (pS (some (zv r)) σ') := by
  unfold fR_ringsOfBytes at H
  refine z_mk (lv := [some (vr 277), some (vl count_0), none, none, none, none, none]) m_X12_ringsOfBytes rfl hl (Nat.le_of_ble_eq_true rfl) rfl ?_
  refine z_lconst (M := M_X12_ringsOfBytes) (m := 0) dX12_ringsOfBytes_0 (by decide +kernel) ?_
  refine z_lstore_n (M := M_X12_ringsOfBytes) (lv' := [some (vr 277), some (vl count_0), none, some (vl 0), none, none, none]) dX12_ringsOfBytes_1 (Nat.le_of_ble_eq_true rfl) rfl rfl ?_
  obtain ⟨rl_6, hw_3, hk_4, hk_5⟩ := bx_e H
  have J_38 : ∀ k_36 σ_37, rl_6 = (.inl (k_36, σ_37)) → YY l E M_X12_ringsOfBytes 5 0 0 (pS (some (zv r)) σ') 113 [some (vr 277), some (vl count_0), none, some (vl k_36), none, none, none] [] σ_37 0 0 := by
    intro k_36 σ_37 e
    have H := hk_4 _ e
    refine z_zconst (M := M_X12_ringsOfBytes) (b := true) dX12_ringsOfBytes_113 rfl ?_
    cases H
    exact z_zret (M := M_X12_ringsOfBytes) dX12_ringsOfBytes_114 rfl (Nat.le_of_ble_eq_true rfl) (Nat.le_of_ble_eq_true rfl) ⟨rfl, rfl⟩
  refine whl_go hw_3 (fun (k_1, σ_2) => YY l E M_X12_ringsOfBytes 5 0 0 (pS (some (zv r)) σ') 2 [some (vr 277), some (vl count_0), none, some (vl k_1), none, none, none] [] σ_2 0 0) ?_
  rintro ⟨k_1, σ_2⟩ o_7 H K_8 K_9
  refine z_lload_n (M := M_X12_ringsOfBytes) dX12_ringsOfBytes_2 rfl ?_
  refine z_lload_n (M := M_X12_ringsOfBytes) dX12_ringsOfBytes_3 rfl ?_
  refine z_lcmp (M := M_X12_ringsOfBytes) dX12_ringsOfBytes_4 ?_
  rcases if_e H with ⟨h_10, H⟩ | ⟨h_10, H⟩
  · refine z_lif_ge_f (M := M_X12_ringsOfBytes) (tgt := 113) dX12_ringsOfBytes_5 (by decide) rfl rfl h_10 ?_
    refine z_aload_n (M := M_X12_ringsOfBytes) dX12_ringsOfBytes_8 rfl ?_
    refine z_getR (M := M_X12_ringsOfBytes) (ci := 15) (C := RX12) (T := TX12) (Nf := 135) (ty := tyX12) cl15 dX12_ringsOfBytes_9 ly_277 9 (by decide) t_2400 rfl ?_
    refine z_bipush (M := M_X12_ringsOfBytes) dX12_ringsOfBytes_12 (by decide +kernel) ?_
    obtain ⟨x_11, x_11_e, hi_12, H⟩ := rd_e H
    refine z_iald (M := M_X12_ringsOfBytes) dX12_ringsOfBytes_14 ly_280 rfl (by decide +kernel) rfl hi_12 x_11_e ?_
    refine z_sipush (M := M_X12_ringsOfBytes) dX12_ringsOfBytes_15 (by decide +kernel) ?_
    rcases if_e H with ⟨h_13, H⟩ | ⟨h_13, H⟩
    · refine z_icmp_ne_f (M := M_X12_ringsOfBytes) (tgt := 32) dX12_ringsOfBytes_18 (by decide) rfl (by decide +kernel) h_13 ?_
      refine z_aload_n (M := M_X12_ringsOfBytes) dX12_ringsOfBytes_21 rfl ?_
      refine z_bipush (M := M_X12_ringsOfBytes) dX12_ringsOfBytes_22 (by decide +kernel) ?_
      refine z_aload_n (M := M_X12_ringsOfBytes) dX12_ringsOfBytes_24 rfl ?_
      refine z_getI (M := M_X12_ringsOfBytes) (ci := 15) (C := RX12) (T := TX12) (Nf := 135) (ty := tyX12) cl15 dX12_ringsOfBytes_25 ly_277 17 (by decide) t_2408 rfl rfl ?_
      obtain ⟨⟨x_16, σ_15⟩, hc_14, H⟩ := bd_e H
      refine z_callV (M := M_X12_ringsOfBytes) (M' := M_X12_wrong) (as := [vi 7, vi (σ_2 kR_at 0)]) (rest := []) rfl rfl dX12_ringsOfBytes_28 m_X12_wrong t_2874 t_2876 s_166 (c_X12_wrong hl  hc_14) rfl rfl ly_277 rfl (Nat.le_of_ble_eq_true rfl) (Nat.le_of_ble_eq_true rfl) (Nat.le_of_ble_eq_true rfl) (Nat.le_of_ble_eq_true rfl) ?_
      refine z_st (st' := [zv x_16]) rfl ?_
      have H := congrArg some (hk_5 _ ((K_9 _ (Option.some.inj H).symm).symm))
      cases H
      exact z_zret (M := M_X12_ringsOfBytes) dX12_ringsOfBytes_31 rfl (Nat.le_of_ble_eq_true rfl) (Nat.le_of_ble_eq_true rfl) ⟨rfl, rfl⟩
    · refine z_icmp_ne_t (M := M_X12_ringsOfBytes) (tgt := 32) dX12_ringsOfBytes_18 (by decide) rfl (by decide +kernel) h_13 ?_
      refine z_aload_n (M := M_X12_ringsOfBytes) dX12_ringsOfBytes_32 rfl ?_
      refine z_iconst (M := M_X12_ringsOfBytes) dX12_ringsOfBytes_33 ?_
      refine z_callV (M := M_X12_ringsOfBytes) (M' := M_X12_there) (as := [vi 4]) (rest := []) rfl rfl dX12_ringsOfBytes_34 m_X12_there t_2974 t_2976 s_187 (c_X12_there hl  rfl) rfl rfl ly_277 rfl (Nat.le_of_ble_eq_true rfl) (Nat.le_of_ble_eq_true rfl) (Nat.le_of_ble_eq_true rfl) (Nat.le_of_ble_eq_true rfl) ?_
      refine z_st (st' := [zv (fR_there σ_2 4)]) rfl ?_
      rcases if_e H with ⟨h_17, H⟩ | ⟨h_17, H⟩
      · refine z_zne_t (M := M_X12_ringsOfBytes) (tgt := 50) dX12_ringsOfBytes_37 (by decide) h_17 ?_
        refine z_aload_n (M := M_X12_ringsOfBytes) dX12_ringsOfBytes_50 rfl ?_
        refine z_aload_n (M := M_X12_ringsOfBytes) dX12_ringsOfBytes_51 rfl ?_
        refine z_getI (M := M_X12_ringsOfBytes) (ci := 15) (C := RX12) (T := TX12) (Nf := 135) (ty := tyX12) cl15 dX12_ringsOfBytes_52 ly_277 17 (by decide) t_2408 rfl rfl ?_
        refine z_iconst (M := M_X12_ringsOfBytes) dX12_ringsOfBytes_55 ?_
        obtain ⟨x_19, hc_18, H⟩ := bd_e H
        refine z_callV (M := M_X12_ringsOfBytes) (M' := M_X12_whole) (as := [vi (σ_2 kR_at 0), vi 4]) (rest := []) rfl rfl dX12_ringsOfBytes_56 m_X12_whole t_2978 t_2980 s_188 (c_X12_whole hl  hc_18) rfl rfl ly_277 rfl (Nat.le_of_ble_eq_true rfl) (Nat.le_of_ble_eq_true rfl) (Nat.le_of_ble_eq_true rfl) (Nat.le_of_ble_eq_true rfl) ?_
        refine z_st (st' := [vl x_19]) rfl ?_
        refine z_lstore (M := M_X12_ringsOfBytes) (lv' := [some (vr 277), some (vl count_0), none, some (vl k_1), none, some (vl x_19), none]) dX12_ringsOfBytes_59 (Nat.le_of_ble_eq_true rfl) rfl rfl ?_
        refine z_lload (M := M_X12_ringsOfBytes) dX12_ringsOfBytes_61 rfl ?_
        refine z_lconst (M := M_X12_ringsOfBytes) (m := 0) dX12_ringsOfBytes_63 (by decide +kernel) ?_
        refine z_lcmp (M := M_X12_ringsOfBytes) dX12_ringsOfBytes_64 ?_
        rcases if_e H with ⟨h_20, H⟩ | ⟨h_20, H⟩
        · refine z_lif_ne_f (M := M_X12_ringsOfBytes) (tgt := 78) dX12_ringsOfBytes_65 (by decide) rfl (by decide +kernel) h_20 ?_
          refine z_aload_n (M := M_X12_ringsOfBytes) dX12_ringsOfBytes_68 rfl ?_
          refine z_iconst (M := M_X12_ringsOfBytes) dX12_ringsOfBytes_69 ?_
          refine z_aload_n (M := M_X12_ringsOfBytes) dX12_ringsOfBytes_70 rfl ?_
          refine z_getI (M := M_X12_ringsOfBytes) (ci := 15) (C := RX12) (T := TX12) (Nf := 135) (ty := tyX12) cl15 dX12_ringsOfBytes_71 ly_277 17 (by decide) t_2408 rfl rfl ?_
          obtain ⟨⟨x_23, σ_22⟩, hc_21, H⟩ := bd_e H
          refine z_callV (M := M_X12_ringsOfBytes) (M' := M_X12_wrong) (as := [vi 4, vi (σ_2 kR_at 0)]) (rest := []) rfl rfl dX12_ringsOfBytes_74 m_X12_wrong t_2874 t_2876 s_166 (c_X12_wrong hl  hc_21) rfl rfl ly_277 rfl (Nat.le_of_ble_eq_true rfl) (Nat.le_of_ble_eq_true rfl) (Nat.le_of_ble_eq_true rfl) (Nat.le_of_ble_eq_true rfl) ?_
          refine z_st (st' := [zv x_23]) rfl ?_
          have H := congrArg some (hk_5 _ ((K_9 _ (Option.some.inj H).symm).symm))
          cases H
          exact z_zret (M := M_X12_ringsOfBytes) dX12_ringsOfBytes_77 rfl (Nat.le_of_ble_eq_true rfl) (Nat.le_of_ble_eq_true rfl) ⟨rfl, rfl⟩
        · refine z_lif_ne_t (M := M_X12_ringsOfBytes) (tgt := 78) dX12_ringsOfBytes_65 (by decide) rfl (by decide +kernel) h_20 ?_
          refine z_aload_n (M := M_X12_ringsOfBytes) dX12_ringsOfBytes_78 rfl ?_
          refine z_dup (M := M_X12_ringsOfBytes) dX12_ringsOfBytes_79 rfl ?_
          refine z_getI (M := M_X12_ringsOfBytes) (ci := 15) (C := RX12) (T := TX12) (Nf := 135) (ty := tyX12) cl15 dX12_ringsOfBytes_80 ly_277 17 (by decide) t_2408 rfl rfl ?_
          refine z_iconst (M := M_X12_ringsOfBytes) dX12_ringsOfBytes_83 ?_
          refine z_iadd (M := M_X12_ringsOfBytes) dX12_ringsOfBytes_84 ?_
          obtain ⟨σ_24, σ_24_e, H⟩ := wf_e H
          refine z_putI (M := M_X12_ringsOfBytes) (ci := 15) (C := RX12) (T := TX12) (Nf := 135) (ty := tyX12) cl15 dX12_ringsOfBytes_85 ly_277 17 (by decide) t_2408 rfl rfl rfl rfl σ_24_e ?_
          refine z_aload_n (M := M_X12_ringsOfBytes) dX12_ringsOfBytes_88 rfl ?_
          refine z_lload (M := M_X12_ringsOfBytes) dX12_ringsOfBytes_89 rfl ?_
          refine z_l2i (M := M_X12_ringsOfBytes) dX12_ringsOfBytes_91 ?_
          obtain ⟨σ_26, hc_25, H⟩ := bd_e H
          refine z_callV (M := M_X12_ringsOfBytes) (M' := M_X12_tell) (as := [vi x_19]) (rest := []) rfl rfl dX12_ringsOfBytes_92 m_X12_tell t_2902 t_2904 s_170 (c_X12_tell hl  hc_25) rfl rfl ly_277 rfl (Nat.le_of_ble_eq_true rfl) (Nat.le_of_ble_eq_true rfl) (Nat.le_of_ble_eq_true rfl) (Nat.le_of_ble_eq_true rfl) ?_
          refine z_st (st' := []) rfl ?_
          refine z_aload_n (M := M_X12_ringsOfBytes) dX12_ringsOfBytes_95 rfl ?_
          refine z_lload (M := M_X12_ringsOfBytes) dX12_ringsOfBytes_96 rfl ?_
          obtain ⟨⟨x_29, σ_28⟩, hc_27, H⟩ := bd_e H
          refine z_callV (M := M_X12_ringsOfBytes) (M' := M_X12_rowOfBytes) (as := [vl x_19]) (rest := []) rfl rfl dX12_ringsOfBytes_98 m_X12_rowOfBytes t_3009 t_3011 s_193 (c_X12_rowOfBytes hl  hc_27) rfl rfl ly_277 rfl (Nat.le_of_ble_eq_true rfl) (Nat.le_of_ble_eq_true rfl) (Nat.le_of_ble_eq_true rfl) (Nat.le_of_ble_eq_true rfl) ?_
          refine z_st (st' := [zv x_29]) rfl ?_
          rcases if_e H with ⟨h_30, H⟩ | ⟨h_30, H⟩
          · refine z_zne_t (M := M_X12_ringsOfBytes) (tgt := 106) dX12_ringsOfBytes_101 (by decide) h_30 ?_
            refine z_lload_n (M := M_X12_ringsOfBytes) dX12_ringsOfBytes_106 rfl ?_
            refine z_lconst (M := M_X12_ringsOfBytes) (m := 1) dX12_ringsOfBytes_107 (by decide +kernel) ?_
            refine z_ladd (M := M_X12_ringsOfBytes) dX12_ringsOfBytes_108 ?_
            refine z_lstore_n (M := M_X12_ringsOfBytes) (lv' := [some (vr 277), some (vl count_0), none, some (vl (k_1 + 1)), none, some (vl x_19), none]) dX12_ringsOfBytes_109 (Nat.le_of_ble_eq_true rfl) rfl rfl ?_
            refine z_goto (M := M_X12_ringsOfBytes) (tgt := 2) dX12_ringsOfBytes_110 (by decide) ?_
            refine z_le (lv' := [some (vr 277), some (vl count_0), none, some (vl (k_1 + 1)), none, none, none]) ⟨Or.inr rfl, Or.inr rfl, Or.inl rfl, Or.inr rfl, Or.inl rfl, Or.inl rfl, Or.inl rfl, trivial⟩ ?_
            exact K_8 _ (Option.some.inj H).symm
          · refine z_zne_f (M := M_X12_ringsOfBytes) (tgt := 106) dX12_ringsOfBytes_101 (by decide) h_30 ?_
            refine z_zconst (M := M_X12_ringsOfBytes) (b := false) dX12_ringsOfBytes_104 rfl ?_
            have H := congrArg some (hk_5 _ ((K_9 _ (Option.some.inj H).symm).symm))
            cases H
            exact z_zret (M := M_X12_ringsOfBytes) dX12_ringsOfBytes_105 rfl (Nat.le_of_ble_eq_true rfl) (Nat.le_of_ble_eq_true rfl) ⟨rfl, rfl⟩
      · refine z_zne_f (M := M_X12_ringsOfBytes) (tgt := 50) dX12_ringsOfBytes_37 (by decide) h_17 ?_
        refine z_aload_n (M := M_X12_ringsOfBytes) dX12_ringsOfBytes_40 rfl ?_
        refine z_iconst (M := M_X12_ringsOfBytes) dX12_ringsOfBytes_41 ?_
        refine z_aload_n (M := M_X12_ringsOfBytes) dX12_ringsOfBytes_42 rfl ?_
        refine z_getI (M := M_X12_ringsOfBytes) (ci := 15) (C := RX12) (T := TX12) (Nf := 135) (ty := tyX12) cl15 dX12_ringsOfBytes_43 ly_277 17 (by decide) t_2408 rfl rfl ?_
        obtain ⟨⟨x_34, σ_33⟩, hc_32, H⟩ := bd_e H
        refine z_callV (M := M_X12_ringsOfBytes) (M' := M_X12_wrong) (as := [vi 3, vi (σ_2 kR_at 0)]) (rest := []) rfl rfl dX12_ringsOfBytes_46 m_X12_wrong t_2874 t_2876 s_166 (c_X12_wrong hl  hc_32) rfl rfl ly_277 rfl (Nat.le_of_ble_eq_true rfl) (Nat.le_of_ble_eq_true rfl) (Nat.le_of_ble_eq_true rfl) (Nat.le_of_ble_eq_true rfl) ?_
        refine z_st (st' := [zv x_34]) rfl ?_
        have H := congrArg some (hk_5 _ ((K_9 _ (Option.some.inj H).symm).symm))
        cases H
        exact z_zret (M := M_X12_ringsOfBytes) dX12_ringsOfBytes_49 rfl (Nat.le_of_ble_eq_true rfl) (Nat.le_of_ble_eq_true rfl) ⟨rfl, rfl⟩
  · refine z_lif_ge_t (M := M_X12_ringsOfBytes) (tgt := 113) dX12_ringsOfBytes_5 (by decide) rfl rfl (Int.not_lt.mp h_10) ?_
    exact J_38 _ _ (K_9 _ (Option.some.inj H).symm).symm
theorem c_X12_shapeOfBytes (hl : l.stackTraces = false) {σ : SG} {wanted_0 : Int} {r : Bool} {σ' : SG}  (H : fR_shapeOfBytes σ wanted_0 = some (r, σ')) : en_S l E M_X12_shapeOfBytes 6 0 0 [vr 277, vi wanted_0] σ (pS (some (zv r)) σ') := by
  unfold fR_shapeOfBytes at H
  refine z_mk (lv := [some (vr 277), some (vi wanted_0), none, none, none, none, none, none, none, none, none]) m_X12_shapeOfBytes rfl hl (Nat.le_of_ble_eq_true rfl) rfl ?_
  refine z_aload_n (M := M_X12_shapeOfBytes) dX12_shapeOfBytes_0 rfl ?_
  refine z_iconst (M := M_X12_shapeOfBytes) dX12_shapeOfBytes_1 ?_
  refine z_callV (M := M_X12_shapeOfBytes) (M' := M_X12_there) (as := [vi 1]) (rest := []) rfl rfl dX12_shapeOfBytes_2 m_X12_there t_2974 t_2976 s_187 (c_X12_there hl  rfl) rfl rfl ly_277 rfl (Nat.le_of_ble_eq_true rfl) (Nat.le_of_ble_eq_true rfl) (Nat.le_of_ble_eq_true rfl) (Nat.le_of_ble_eq_true rfl) ?_
  refine z_st (st' := [zv (fR_there σ 1)]) rfl ?_
  rcases if_e H with ⟨h_1, H⟩ | ⟨h_1, H⟩
  · refine z_zne_t (M := M_X12_shapeOfBytes) (tgt := 18) dX12_shapeOfBytes_5 (by decide) h_1 ?_
    obtain ⟨v_250, he_251, hk_252⟩ := bd_e H
    have J_253 : v_250 = true → YY l E M_X12_shapeOfBytes 6 0 0 (pS (some (zv r)) σ') 43 [some (vr 277), some (vi wanted_0), none, none, none, none, none, none, none, none, none] [] σ 0 0 := by
      intro e
      have H := hk_252
      rw [e] at H
      rcases if_e H with ⟨_, H⟩ | ⟨q, H⟩
      · refine z_aload_n (M := M_X12_shapeOfBytes) dX12_shapeOfBytes_43 rfl ?_
        refine z_iconst (M := M_X12_shapeOfBytes) dX12_shapeOfBytes_44 ?_
        refine z_aload_n (M := M_X12_shapeOfBytes) dX12_shapeOfBytes_45 rfl ?_
        refine z_getI (M := M_X12_shapeOfBytes) (ci := 15) (C := RX12) (T := TX12) (Nf := 135) (ty := tyX12) cl15 dX12_shapeOfBytes_46 ly_277 17 (by decide) t_2408 rfl rfl ?_
        obtain ⟨⟨x_136, σ_135⟩, hc_134, H⟩ := bd_e H
        refine z_callV (M := M_X12_shapeOfBytes) (M' := M_X12_wrong) (as := [vi 1, vi (σ kR_at 0)]) (rest := []) rfl rfl dX12_shapeOfBytes_49 m_X12_wrong t_2874 t_2876 s_166 (c_X12_wrong hl  hc_134) rfl rfl ly_277 rfl (Nat.le_of_ble_eq_true rfl) (Nat.le_of_ble_eq_true rfl) (Nat.le_of_ble_eq_true rfl) (Nat.le_of_ble_eq_true rfl) ?_
        refine z_st (st' := [zv x_136]) rfl ?_
        cases H
        exact z_zret (M := M_X12_shapeOfBytes) dX12_shapeOfBytes_52 rfl (Nat.le_of_ble_eq_true rfl) (Nat.le_of_ble_eq_true rfl) ⟨rfl, rfl⟩
      · exact absurd rfl q
    have J_254 : v_250 = false → YY l E M_X12_shapeOfBytes 6 0 0 (pS (some (zv r)) σ') 53 [some (vr 277), some (vi wanted_0), none, none, none, none, none, none, none, none, none] [] σ 0 0 := by
      intro e
      have H := hk_252
      rw [e] at H
      rcases if_e H with ⟨q, H⟩ | ⟨_, H⟩
      · exact nomatch q
      · refine z_aload_n (M := M_X12_shapeOfBytes) dX12_shapeOfBytes_53 rfl ?_
        obtain ⟨v_246, he_247, hk_248⟩ := bd_e H
        have J_249 : ∀ x_142, v_246 = x_142 → YY l E M_X12_shapeOfBytes 6 0 0 (pS (some (zv r)) σ') 71 [some (vr 277), some (vi wanted_0), none, none, none, none, none, none, none, none, none] [zv x_142, vr 277] σ 0 0 := by
          intro x_142 e
          have H := hk_248
          rw [e] at H
          obtain ⟨σ_143, σ_143_e, H⟩ := wf_e H
          refine z_putZ (M := M_X12_shapeOfBytes) (ci := 15) (C := RX12) (T := TX12) (Nf := 135) (ty := tyX12) cl15 dX12_shapeOfBytes_71 ly_277 26 (by decide) t_2417 rfl rfl rfl rfl σ_143_e ?_
          refine z_aload_n (M := M_X12_shapeOfBytes) dX12_shapeOfBytes_74 rfl ?_
          refine z_dup (M := M_X12_shapeOfBytes) dX12_shapeOfBytes_75 rfl ?_
          refine z_getI (M := M_X12_shapeOfBytes) (ci := 15) (C := RX12) (T := TX12) (Nf := 135) (ty := tyX12) cl15 dX12_shapeOfBytes_76 ly_277 17 (by decide) t_2408 rfl rfl ?_
          refine z_iconst (M := M_X12_shapeOfBytes) dX12_shapeOfBytes_79 ?_
          refine z_iadd (M := M_X12_shapeOfBytes) dX12_shapeOfBytes_80 ?_
          obtain ⟨σ_144, σ_144_e, H⟩ := wf_e H
          refine z_putI (M := M_X12_shapeOfBytes) (ci := 15) (C := RX12) (T := TX12) (Nf := 135) (ty := tyX12) cl15 dX12_shapeOfBytes_81 ly_277 17 (by decide) t_2408 rfl rfl rfl rfl σ_144_e ?_
          refine z_aload_n (M := M_X12_shapeOfBytes) dX12_shapeOfBytes_84 rfl ?_
          refine z_iconst (M := M_X12_shapeOfBytes) dX12_shapeOfBytes_85 ?_
          refine z_callV (M := M_X12_shapeOfBytes) (M' := M_X12_there) (as := [vi 4]) (rest := []) rfl rfl dX12_shapeOfBytes_86 m_X12_there t_2974 t_2976 s_187 (c_X12_there hl  rfl) rfl rfl ly_277 rfl (Nat.le_of_ble_eq_true rfl) (Nat.le_of_ble_eq_true rfl) (Nat.le_of_ble_eq_true rfl) (Nat.le_of_ble_eq_true rfl) ?_
          refine z_st (st' := [zv (fR_there σ_144 4)]) rfl ?_
          rcases if_e H with ⟨h_145, H⟩ | ⟨h_145, H⟩
          · refine z_zne_t (M := M_X12_shapeOfBytes) (tgt := 102) dX12_shapeOfBytes_89 (by decide) h_145 ?_
            refine z_aload_n (M := M_X12_shapeOfBytes) dX12_shapeOfBytes_102 rfl ?_
            refine z_aload_n (M := M_X12_shapeOfBytes) dX12_shapeOfBytes_103 rfl ?_
            refine z_getI (M := M_X12_shapeOfBytes) (ci := 15) (C := RX12) (T := TX12) (Nf := 135) (ty := tyX12) cl15 dX12_shapeOfBytes_104 ly_277 17 (by decide) t_2408 rfl rfl ?_
            refine z_iconst (M := M_X12_shapeOfBytes) dX12_shapeOfBytes_107 ?_
            obtain ⟨x_147, hc_146, H⟩ := bd_e H
            refine z_callV (M := M_X12_shapeOfBytes) (M' := M_X12_whole) (as := [vi (σ_144 kR_at 0), vi 4]) (rest := []) rfl rfl dX12_shapeOfBytes_108 m_X12_whole t_2978 t_2980 s_188 (c_X12_whole hl  hc_146) rfl rfl ly_277 rfl (Nat.le_of_ble_eq_true rfl) (Nat.le_of_ble_eq_true rfl) (Nat.le_of_ble_eq_true rfl) (Nat.le_of_ble_eq_true rfl) ?_
            refine z_st (st' := [vl x_147]) rfl ?_
            refine z_lstore_n (M := M_X12_shapeOfBytes) (lv' := [some (vr 277), some (vi wanted_0), some (vl x_147), none, none, none, none, none, none, none, none]) dX12_shapeOfBytes_111 (Nat.le_of_ble_eq_true rfl) rfl rfl ?_
            refine z_lload_n (M := M_X12_shapeOfBytes) dX12_shapeOfBytes_112 rfl ?_
            refine z_ldc2 (M := M_X12_shapeOfBytes) (n := 536870911) dX12_shapeOfBytes_113 t_2983 (by decide +kernel) ?_
            refine z_land (M := M_X12_shapeOfBytes) dX12_shapeOfBytes_116 ?_
            refine z_lstore (M := M_X12_shapeOfBytes) (lv' := [some (vr 277), some (vi wanted_0), some (vl x_147), none, some (vl (q_lan x_147 536870911)), none, none, none, none, none, none]) dX12_shapeOfBytes_117 (Nat.le_of_ble_eq_true rfl) rfl rfl ?_
            refine z_lload (M := M_X12_shapeOfBytes) dX12_shapeOfBytes_119 rfl ?_
            refine z_ldc2 (M := M_X12_shapeOfBytes) (n := 1000) dX12_shapeOfBytes_121 t_2984 (by decide +kernel) ?_
            refine z_lrem (M := M_X12_shapeOfBytes) dX12_shapeOfBytes_124 (by decide +kernel) ?_
            refine z_l2i (M := M_X12_shapeOfBytes) dX12_shapeOfBytes_125 ?_
            refine z_istore (M := M_X12_shapeOfBytes) (lv' := [some (vr 277), some (vi wanted_0), some (vl x_147), none, some (vl (q_lan x_147 536870911)), none, some (vi (q_lrm (q_lan x_147 536870911) 1000)), none, none, none, none]) dX12_shapeOfBytes_126 (Nat.le_of_ble_eq_true rfl) rfl rfl ?_
            have J_148 : YY l E M_X12_shapeOfBytes 6 0 0 (pS (some (zv r)) σ') 165 [some (vr 277), some (vi wanted_0), some (vl x_147), none, some (vl (q_lan x_147 536870911)), none, some (vi (q_lrm (q_lan x_147 536870911) 1000)), none, none, none, none] [zv (decide ((((w64 (q_lan x_147 536870911)) < 4000) ∧ ((fR_in (w32 (q_lrm (q_lan x_147 536870911) 1000)) 1 7) = true)) ∧ (((w32 wanted_0) = 0) ∨ ((w32 (q_lrm (q_lan x_147 536870911) 1000)) = (w32 wanted_0)))))] σ_144 0 0 := by
              obtain ⟨x_149, x_149_e, H⟩ := lt_e H
              refine z_st (congrArg (fun z => zv z :: []) x_149_e) ?_
              refine z_zstore (M := M_X12_shapeOfBytes) (lv' := [some (vr 277), some (vi wanted_0), some (vl x_147), none, some (vl (q_lan x_147 536870911)), none, some (vi (q_lrm (q_lan x_147 536870911) 1000)), some (zv x_149), none, none, none]) dX12_shapeOfBytes_165 (Nat.le_of_ble_eq_true rfl) rfl rfl ?_
              refine z_zload (M := M_X12_shapeOfBytes) dX12_shapeOfBytes_167 rfl ?_
              rcases if_e H with ⟨h_150, H⟩ | ⟨h_150, H⟩
              · refine z_zne_t (M := M_X12_shapeOfBytes) (tgt := 182) dX12_shapeOfBytes_169 (by decide) h_150 ?_
                rcases if_e H with ⟨h_229, H⟩ | ⟨h_229, H⟩
                · have J_230 : YY l E M_X12_shapeOfBytes 6 0 0 (pS (some (zv r)) σ') 200 [some (vr 277), some (vi wanted_0), some (vl x_147), none, some (vl (q_lan x_147 536870911)), none, some (vi (q_lrm (q_lan x_147 536870911) 1000)), some (zv x_149), none, none, none] [] σ_144 0 0 := by
                    refine z_aload_n (M := M_X12_shapeOfBytes) dX12_shapeOfBytes_200 rfl ?_
                    refine z_bipush (M := M_X12_shapeOfBytes) dX12_shapeOfBytes_201 (by decide +kernel) ?_
                    refine z_aload_n (M := M_X12_shapeOfBytes) dX12_shapeOfBytes_203 rfl ?_
                    refine z_getI (M := M_X12_shapeOfBytes) (ci := 15) (C := RX12) (T := TX12) (Nf := 135) (ty := tyX12) cl15 dX12_shapeOfBytes_204 ly_277 17 (by decide) t_2408 rfl rfl ?_
                    obtain ⟨⟨x_153, σ_152⟩, hc_151, H⟩ := bd_e H
                    refine z_callV (M := M_X12_shapeOfBytes) (M' := M_X12_wrong) (as := [vi 9, vi (σ_144 kR_at 0)]) (rest := []) rfl rfl dX12_shapeOfBytes_207 m_X12_wrong t_2874 t_2876 s_166 (c_X12_wrong hl  hc_151) rfl rfl ly_277 rfl (Nat.le_of_ble_eq_true rfl) (Nat.le_of_ble_eq_true rfl) (Nat.le_of_ble_eq_true rfl) (Nat.le_of_ble_eq_true rfl) ?_
                    refine z_st (st' := [zv x_153]) rfl ?_
                    cases H
                    exact z_zret (M := M_X12_shapeOfBytes) dX12_shapeOfBytes_210 rfl (Nat.le_of_ble_eq_true rfl) (Nat.le_of_ble_eq_true rfl) ⟨rfl, rfl⟩
                  refine z_lload_n (M := M_X12_shapeOfBytes) dX12_shapeOfBytes_182 rfl ?_
                  refine z_bipush (M := M_X12_shapeOfBytes) dX12_shapeOfBytes_183 (by decide +kernel) ?_
                  refine z_lshr (M := M_X12_shapeOfBytes) dX12_shapeOfBytes_185 ?_
                  refine z_lconst (M := M_X12_shapeOfBytes) (m := 0) dX12_shapeOfBytes_186 (by decide +kernel) ?_
                  refine z_lcmp (M := M_X12_shapeOfBytes) dX12_shapeOfBytes_187 ?_
                  by_cases h_232 : ¬ (w64 (q_lsr x_147 30)) = 0
                  · refine z_lif_ne_t (M := M_X12_shapeOfBytes) (tgt := 200) dX12_shapeOfBytes_188 (by decide) rfl (by decide +kernel) h_232 ?_
                    exact J_230
                  · refine z_lif_ne_f (M := M_X12_shapeOfBytes) (tgt := 200) dX12_shapeOfBytes_188 (by decide) rfl (by decide +kernel) (Decidable.not_not.mp h_232) ?_
                    refine z_lload (M := M_X12_shapeOfBytes) dX12_shapeOfBytes_191 rfl ?_
                    refine z_ldc2 (M := M_X12_shapeOfBytes) (n := 1000) dX12_shapeOfBytes_193 t_2984 (by decide +kernel) ?_
                    refine z_lcmp (M := M_X12_shapeOfBytes) dX12_shapeOfBytes_196 ?_
                    by_cases h_233 : 1000 ≤ (w64 (q_lan x_147 536870911))
                    · refine z_lif_lt_f (M := M_X12_shapeOfBytes) (tgt := 211) dX12_shapeOfBytes_197 (by decide) rfl (by decide +kernel) h_233 ?_
                      exact J_230
                    · refine z_lif_lt_t (M := M_X12_shapeOfBytes) (tgt := 211) dX12_shapeOfBytes_197 (by decide) rfl (by decide +kernel) (Int.not_le.mp h_233) ?_
                      exact absurd h_229 (fun q => q.elim h_232 h_233)
                · have J_231 : YY l E M_X12_shapeOfBytes 6 0 0 (pS (some (zv r)) σ') 211 [some (vr 277), some (vi wanted_0), some (vl x_147), none, some (vl (q_lan x_147 536870911)), none, some (vi (q_lrm (q_lan x_147 536870911) 1000)), some (zv x_149), none, none, none] [] σ_144 0 0 := by
                    rcases if_e H with ⟨h_222, H⟩ | ⟨h_222, H⟩
                    · have J_223 : YY l E M_X12_shapeOfBytes 6 0 0 (pS (some (zv r)) σ') 227 [some (vr 277), some (vi wanted_0), some (vl x_147), none, some (vl (q_lan x_147 536870911)), none, some (vi (q_lrm (q_lan x_147 536870911) 1000)), some (zv x_149), none, none, none] [] σ_144 0 0 := by
                        refine z_aload_n (M := M_X12_shapeOfBytes) dX12_shapeOfBytes_227 rfl ?_
                        refine z_bipush (M := M_X12_shapeOfBytes) dX12_shapeOfBytes_228 (by decide +kernel) ?_
                        refine z_aload_n (M := M_X12_shapeOfBytes) dX12_shapeOfBytes_230 rfl ?_
                        refine z_getI (M := M_X12_shapeOfBytes) (ci := 15) (C := RX12) (T := TX12) (Nf := 135) (ty := tyX12) cl15 dX12_shapeOfBytes_231 ly_277 17 (by decide) t_2408 rfl rfl ?_
                        obtain ⟨⟨x_156, σ_155⟩, hc_154, H⟩ := bd_e H
                        refine z_callV (M := M_X12_shapeOfBytes) (M' := M_X12_wrong) (as := [vi 6, vi (σ_144 kR_at 0)]) (rest := []) rfl rfl dX12_shapeOfBytes_234 m_X12_wrong t_2874 t_2876 s_166 (c_X12_wrong hl  hc_154) rfl rfl ly_277 rfl (Nat.le_of_ble_eq_true rfl) (Nat.le_of_ble_eq_true rfl) (Nat.le_of_ble_eq_true rfl) (Nat.le_of_ble_eq_true rfl) ?_
                        refine z_st (st' := [zv x_156]) rfl ?_
                        cases H
                        exact z_zret (M := M_X12_shapeOfBytes) dX12_shapeOfBytes_237 rfl (Nat.le_of_ble_eq_true rfl) (Nat.le_of_ble_eq_true rfl) ⟨rfl, rfl⟩
                      refine z_iload (M := M_X12_shapeOfBytes) dX12_shapeOfBytes_211 rfl ?_
                      refine z_bipush (M := M_X12_shapeOfBytes) dX12_shapeOfBytes_213 (by decide +kernel) ?_
                      by_cases h_225 : (w32 (q_lrm (q_lan x_147 536870911) 1000)) = 7
                      · refine z_icmp_ne_f (M := M_X12_shapeOfBytes) (tgt := 238) dX12_shapeOfBytes_215 (by decide) rfl (by decide +kernel) h_225 ?_
                        refine z_aload_n (M := M_X12_shapeOfBytes) dX12_shapeOfBytes_218 rfl ?_
                        refine z_getI (M := M_X12_shapeOfBytes) (ci := 15) (C := RX12) (T := TX12) (Nf := 135) (ty := tyX12) cl15 dX12_shapeOfBytes_219 ly_277 20 (by decide) t_2411 rfl rfl ?_
                        refine z_bipush (M := M_X12_shapeOfBytes) dX12_shapeOfBytes_222 (by decide +kernel) ?_
                        by_cases h_226 : (w32 (σ_144 kR_open 0)) = 50
                        · refine z_icmp_ne_f (M := M_X12_shapeOfBytes) (tgt := 238) dX12_shapeOfBytes_224 (by decide) rfl (by decide +kernel) h_226 ?_
                          exact J_223
                        · refine z_icmp_ne_t (M := M_X12_shapeOfBytes) (tgt := 238) dX12_shapeOfBytes_224 (by decide) rfl (by decide +kernel) h_226 ?_
                          exact absurd h_222 (fun q => h_226 q.2)
                      · refine z_icmp_ne_t (M := M_X12_shapeOfBytes) (tgt := 238) dX12_shapeOfBytes_215 (by decide) rfl (by decide +kernel) h_225 ?_
                        exact absurd h_222 (fun q => h_225 q.1)
                    · have J_224 : YY l E M_X12_shapeOfBytes 6 0 0 (pS (some (zv r)) σ') 238 [some (vr 277), some (vi wanted_0), some (vl x_147), none, some (vl (q_lan x_147 536870911)), none, some (vi (q_lrm (q_lan x_147 536870911) 1000)), some (zv x_149), none, none, none] [] σ_144 0 0 := by
                        refine z_aload_n (M := M_X12_shapeOfBytes) dX12_shapeOfBytes_238 rfl ?_
                        refine z_dup (M := M_X12_shapeOfBytes) dX12_shapeOfBytes_239 rfl ?_
                        refine z_getI (M := M_X12_shapeOfBytes) (ci := 15) (C := RX12) (T := TX12) (Nf := 135) (ty := tyX12) cl15 dX12_shapeOfBytes_240 ly_277 17 (by decide) t_2408 rfl rfl ?_
                        refine z_iconst (M := M_X12_shapeOfBytes) dX12_shapeOfBytes_243 ?_
                        refine z_iadd (M := M_X12_shapeOfBytes) dX12_shapeOfBytes_244 ?_
                        obtain ⟨σ_157, σ_157_e, H⟩ := wf_e H
                        refine z_putI (M := M_X12_shapeOfBytes) (ci := 15) (C := RX12) (T := TX12) (Nf := 135) (ty := tyX12) cl15 dX12_shapeOfBytes_245 ly_277 17 (by decide) t_2408 rfl rfl rfl rfl σ_157_e ?_
                        obtain ⟨v_161, he_158, hk_159, hk_160⟩ := bx_e H
                        have J_221 : ∀ σ_170, v_161 = (.inl σ_170) → YY l E M_X12_shapeOfBytes 6 0 0 (pS (some (zv r)) σ') 287 [some (vr 277), some (vi wanted_0), some (vl x_147), none, some (vl (q_lan x_147 536870911)), none, some (vi (q_lrm (q_lan x_147 536870911) 1000)), some (zv x_149), none, none, none] [] σ_170 0 0 := by
                          intro σ_170 e
                          have H := hk_159 _ e
                          refine z_aload_n (M := M_X12_shapeOfBytes) dX12_shapeOfBytes_287 rfl ?_
                          refine z_getR (M := M_X12_shapeOfBytes) (ci := 15) (C := RX12) (T := TX12) (Nf := 135) (ty := tyX12) cl15 dX12_shapeOfBytes_288 ly_277 9 (by decide) t_2400 rfl ?_
                          refine z_bipush (M := M_X12_shapeOfBytes) dX12_shapeOfBytes_291 (by decide +kernel) ?_
                          obtain ⟨x_171, x_171_e, hi_172, H⟩ := rd_e H
                          refine z_iald (M := M_X12_shapeOfBytes) dX12_shapeOfBytes_293 ly_280 rfl (by decide +kernel) rfl hi_172 x_171_e ?_
                          refine z_iconst (M := M_X12_shapeOfBytes) dX12_shapeOfBytes_294 ?_
                          refine z_iadd (M := M_X12_shapeOfBytes) dX12_shapeOfBytes_295 ?_
                          refine z_sipush (M := M_X12_shapeOfBytes) dX12_shapeOfBytes_296 (by decide +kernel) ?_
                          rcases if_e H with ⟨h_173, H⟩ | ⟨h_173, H⟩
                          · refine z_icmp_le_f (M := M_X12_shapeOfBytes) (tgt := 313) dX12_shapeOfBytes_299 (by decide) rfl (by decide +kernel) h_173 ?_
                            refine z_aload_n (M := M_X12_shapeOfBytes) dX12_shapeOfBytes_302 rfl ?_
                            refine z_bipush (M := M_X12_shapeOfBytes) dX12_shapeOfBytes_303 (by decide +kernel) ?_
                            refine z_aload_n (M := M_X12_shapeOfBytes) dX12_shapeOfBytes_305 rfl ?_
                            refine z_getI (M := M_X12_shapeOfBytes) (ci := 15) (C := RX12) (T := TX12) (Nf := 135) (ty := tyX12) cl15 dX12_shapeOfBytes_306 ly_277 17 (by decide) t_2408 rfl rfl ?_
                            obtain ⟨⟨x_176, σ_175⟩, hc_174, H⟩ := bd_e H
                            refine z_callV (M := M_X12_shapeOfBytes) (M' := M_X12_wrong) (as := [vi 7, vi (σ_170 kR_at 0)]) (rest := []) rfl rfl dX12_shapeOfBytes_309 m_X12_wrong t_2874 t_2876 s_166 (c_X12_wrong hl  hc_174) rfl rfl ly_277 rfl (Nat.le_of_ble_eq_true rfl) (Nat.le_of_ble_eq_true rfl) (Nat.le_of_ble_eq_true rfl) (Nat.le_of_ble_eq_true rfl) ?_
                            refine z_st (st' := [zv x_176]) rfl ?_
                            cases H
                            exact z_zret (M := M_X12_shapeOfBytes) dX12_shapeOfBytes_312 rfl (Nat.le_of_ble_eq_true rfl) (Nat.le_of_ble_eq_true rfl) ⟨rfl, rfl⟩
                          · refine z_icmp_le_t (M := M_X12_shapeOfBytes) (tgt := 313) dX12_shapeOfBytes_299 (by decide) rfl (by decide +kernel) (Int.not_lt.mp h_173) ?_
                            refine z_aload_n (M := M_X12_shapeOfBytes) dX12_shapeOfBytes_313 rfl ?_
                            refine z_iload (M := M_X12_shapeOfBytes) dX12_shapeOfBytes_314 rfl ?_
                            obtain ⟨σ_178, hc_177, H⟩ := bd_e H
                            refine z_callV (M := M_X12_shapeOfBytes) (M' := M_X12_tell) (as := [vi (q_lrm (q_lan x_147 536870911) 1000)]) (rest := []) rfl rfl dX12_shapeOfBytes_316 m_X12_tell t_2902 t_2904 s_170 (c_X12_tell hl  hc_177) rfl rfl ly_277 rfl (Nat.le_of_ble_eq_true rfl) (Nat.le_of_ble_eq_true rfl) (Nat.le_of_ble_eq_true rfl) (Nat.le_of_ble_eq_true rfl) ?_
                            refine z_st (st' := []) rfl ?_
                            refine z_aload_n (M := M_X12_shapeOfBytes) dX12_shapeOfBytes_319 rfl ?_
                            refine z_iconst (M := M_X12_shapeOfBytes) dX12_shapeOfBytes_320 ?_
                            obtain ⟨σ_180, hc_179, H⟩ := bd_e H
                            refine z_callV (M := M_X12_shapeOfBytes) (M' := M_X12_tell) (as := [vi 0]) (rest := []) rfl rfl dX12_shapeOfBytes_321 m_X12_tell t_2902 t_2904 s_170 (c_X12_tell hl  hc_179) rfl rfl ly_277 rfl (Nat.le_of_ble_eq_true rfl) (Nat.le_of_ble_eq_true rfl) (Nat.le_of_ble_eq_true rfl) (Nat.le_of_ble_eq_true rfl) ?_
                            refine z_st (st' := []) rfl ?_
                            refine z_aload_n (M := M_X12_shapeOfBytes) dX12_shapeOfBytes_324 rfl ?_
                            refine z_getR (M := M_X12_shapeOfBytes) (ci := 15) (C := RX12) (T := TX12) (Nf := 135) (ty := tyX12) cl15 dX12_shapeOfBytes_325 ly_277 9 (by decide) t_2400 rfl ?_
                            refine z_bipush (M := M_X12_shapeOfBytes) dX12_shapeOfBytes_328 (by decide +kernel) ?_
                            obtain ⟨x_181, x_181_e, hi_182, H⟩ := rd_e H
                            refine z_iald (M := M_X12_shapeOfBytes) dX12_shapeOfBytes_330 ly_280 rfl (by decide +kernel) rfl hi_182 x_181_e ?_
                            refine z_iconst (M := M_X12_shapeOfBytes) dX12_shapeOfBytes_331 ?_
                            refine z_isub (M := M_X12_shapeOfBytes) dX12_shapeOfBytes_332 ?_
                            refine z_istore (M := M_X12_shapeOfBytes) (lv' := [some (vr 277), some (vi wanted_0), some (vl x_147), none, some (vl (q_lan x_147 536870911)), none, some (vi (q_lrm (q_lan x_147 536870911) 1000)), some (zv x_149), some (vi (x_181 - 1)), none, none]) dX12_shapeOfBytes_333 (Nat.le_of_ble_eq_true rfl) rfl rfl ?_
                            refine z_iload (M := M_X12_shapeOfBytes) dX12_shapeOfBytes_335 rfl ?_
                            refine z_iconst (M := M_X12_shapeOfBytes) dX12_shapeOfBytes_337 ?_
                            rcases if_e H with ⟨h_183, H⟩ | ⟨h_183, H⟩
                            · refine z_icmp_ne_f (M := M_X12_shapeOfBytes) (tgt := 348) dX12_shapeOfBytes_338 (by decide) rfl (by decide +kernel) h_183 ?_
                              refine z_aload_n (M := M_X12_shapeOfBytes) dX12_shapeOfBytes_341 rfl ?_
                              refine z_iload (M := M_X12_shapeOfBytes) dX12_shapeOfBytes_342 rfl ?_
                              obtain ⟨⟨x_186, σ_185⟩, hc_184, H⟩ := bd_e H
                              refine z_callV (M := M_X12_shapeOfBytes) (M' := M_X12_pointOfBytes) (as := [vi (x_181 - 1)]) (rest := []) rfl rfl dX12_shapeOfBytes_344 m_X12_pointOfBytes t_2987 t_2989 s_189 (c_X12_pointOfBytes hl  hc_184) rfl rfl ly_277 rfl (Nat.le_of_ble_eq_true rfl) (Nat.le_of_ble_eq_true rfl) (Nat.le_of_ble_eq_true rfl) (Nat.le_of_ble_eq_true rfl) ?_
                              refine z_st (st' := [zv x_186]) rfl ?_
                              cases H
                              exact z_zret (M := M_X12_shapeOfBytes) dX12_shapeOfBytes_347 rfl (Nat.le_of_ble_eq_true rfl) (Nat.le_of_ble_eq_true rfl) ⟨rfl, rfl⟩
                            · refine z_icmp_ne_t (M := M_X12_shapeOfBytes) (tgt := 348) dX12_shapeOfBytes_338 (by decide) rfl (by decide +kernel) h_183 ?_
                              refine z_aload_n (M := M_X12_shapeOfBytes) dX12_shapeOfBytes_348 rfl ?_
                              refine z_iconst (M := M_X12_shapeOfBytes) dX12_shapeOfBytes_349 ?_
                              refine z_callV (M := M_X12_shapeOfBytes) (M' := M_X12_there) (as := [vi 4]) (rest := []) rfl rfl dX12_shapeOfBytes_350 m_X12_there t_2974 t_2976 s_187 (c_X12_there hl  rfl) rfl rfl ly_277 rfl (Nat.le_of_ble_eq_true rfl) (Nat.le_of_ble_eq_true rfl) (Nat.le_of_ble_eq_true rfl) (Nat.le_of_ble_eq_true rfl) ?_
                              refine z_st (st' := [zv (fR_there σ_180 4)]) rfl ?_
                              rcases if_e H with ⟨h_187, H⟩ | ⟨h_187, H⟩
                              · refine z_zne_t (M := M_X12_shapeOfBytes) (tgt := 366) dX12_shapeOfBytes_353 (by decide) h_187 ?_
                                refine z_aload_n (M := M_X12_shapeOfBytes) dX12_shapeOfBytes_366 rfl ?_
                                refine z_aload_n (M := M_X12_shapeOfBytes) dX12_shapeOfBytes_367 rfl ?_
                                refine z_getI (M := M_X12_shapeOfBytes) (ci := 15) (C := RX12) (T := TX12) (Nf := 135) (ty := tyX12) cl15 dX12_shapeOfBytes_368 ly_277 17 (by decide) t_2408 rfl rfl ?_
                                refine z_iconst (M := M_X12_shapeOfBytes) dX12_shapeOfBytes_371 ?_
                                obtain ⟨x_189, hc_188, H⟩ := bd_e H
                                refine z_callV (M := M_X12_shapeOfBytes) (M' := M_X12_whole) (as := [vi (σ_180 kR_at 0), vi 4]) (rest := []) rfl rfl dX12_shapeOfBytes_372 m_X12_whole t_2978 t_2980 s_188 (c_X12_whole hl  hc_188) rfl rfl ly_277 rfl (Nat.le_of_ble_eq_true rfl) (Nat.le_of_ble_eq_true rfl) (Nat.le_of_ble_eq_true rfl) (Nat.le_of_ble_eq_true rfl) ?_
                                refine z_st (st' := [vl x_189]) rfl ?_
                                refine z_lstore (M := M_X12_shapeOfBytes) (lv' := [some (vr 277), some (vi wanted_0), some (vl x_147), none, some (vl (q_lan x_147 536870911)), none, some (vi (q_lrm (q_lan x_147 536870911) 1000)), some (zv x_149), some (vi (x_181 - 1)), some (vl x_189), none]) dX12_shapeOfBytes_375 (Nat.le_of_ble_eq_true rfl) rfl rfl ?_
                                refine z_aload_n (M := M_X12_shapeOfBytes) dX12_shapeOfBytes_377 rfl ?_
                                refine z_dup (M := M_X12_shapeOfBytes) dX12_shapeOfBytes_378 rfl ?_
                                refine z_getI (M := M_X12_shapeOfBytes) (ci := 15) (C := RX12) (T := TX12) (Nf := 135) (ty := tyX12) cl15 dX12_shapeOfBytes_379 ly_277 17 (by decide) t_2408 rfl rfl ?_
                                refine z_iconst (M := M_X12_shapeOfBytes) dX12_shapeOfBytes_382 ?_
                                refine z_iadd (M := M_X12_shapeOfBytes) dX12_shapeOfBytes_383 ?_
                                obtain ⟨σ_190, σ_190_e, H⟩ := wf_e H
                                refine z_putI (M := M_X12_shapeOfBytes) (ci := 15) (C := RX12) (T := TX12) (Nf := 135) (ty := tyX12) cl15 dX12_shapeOfBytes_384 ly_277 17 (by decide) t_2408 rfl rfl rfl rfl σ_190_e ?_
                                refine z_aload_n (M := M_X12_shapeOfBytes) dX12_shapeOfBytes_387 rfl ?_
                                refine z_getR (M := M_X12_shapeOfBytes) (ci := 15) (C := RX12) (T := TX12) (Nf := 135) (ty := tyX12) cl15 dX12_shapeOfBytes_388 ly_277 10 (by decide) t_2401 rfl ?_
                                refine z_ldc (M := M_X12_shapeOfBytes) (n := 65536) dX12_shapeOfBytes_391 t_2385 (by decide +kernel) ?_
                                refine z_iload (M := M_X12_shapeOfBytes) dX12_shapeOfBytes_393 rfl ?_
                                refine z_iadd (M := M_X12_shapeOfBytes) dX12_shapeOfBytes_395 ?_
                                refine z_lload (M := M_X12_shapeOfBytes) dX12_shapeOfBytes_396 rfl ?_
                                refine z_l2i (M := M_X12_shapeOfBytes) dX12_shapeOfBytes_398 ?_
                                obtain ⟨σ_191, σ_191_e, hi_192, H⟩ := wa_e H
                                refine z_iast (M := M_X12_shapeOfBytes) dX12_shapeOfBytes_399 ly_281 rfl rfl rfl hi_192 σ_191_e ?_
                                refine z_iload (M := M_X12_shapeOfBytes) dX12_shapeOfBytes_400 rfl ?_
                                refine z_iconst (M := M_X12_shapeOfBytes) dX12_shapeOfBytes_402 ?_
                                rcases if_e H with ⟨h_193, H⟩ | ⟨h_193, H⟩
                                · refine z_icmp_ne_f (M := M_X12_shapeOfBytes) (tgt := 413) dX12_shapeOfBytes_403 (by decide) rfl (by decide +kernel) h_193 ?_
                                  refine z_aload_n (M := M_X12_shapeOfBytes) dX12_shapeOfBytes_406 rfl ?_
                                  refine z_lload (M := M_X12_shapeOfBytes) dX12_shapeOfBytes_407 rfl ?_
                                  obtain ⟨⟨x_196, σ_195⟩, hc_194, H⟩ := bd_e H
                                  refine z_callV (M := M_X12_shapeOfBytes) (M' := M_X12_rowOfBytes) (as := [vl x_189]) (rest := []) rfl rfl dX12_shapeOfBytes_409 m_X12_rowOfBytes t_3009 t_3011 s_193 (c_X12_rowOfBytes hl  hc_194) rfl rfl ly_277 rfl (Nat.le_of_ble_eq_true rfl) (Nat.le_of_ble_eq_true rfl) (Nat.le_of_ble_eq_true rfl) (Nat.le_of_ble_eq_true rfl) ?_
                                  refine z_st (st' := [zv x_196]) rfl ?_
                                  cases H
                                  exact z_zret (M := M_X12_shapeOfBytes) dX12_shapeOfBytes_412 rfl (Nat.le_of_ble_eq_true rfl) (Nat.le_of_ble_eq_true rfl) ⟨rfl, rfl⟩
                                · refine z_icmp_ne_t (M := M_X12_shapeOfBytes) (tgt := 413) dX12_shapeOfBytes_403 (by decide) rfl (by decide +kernel) h_193 ?_
                                  obtain ⟨v_214, he_215, hk_216⟩ := bd_e H
                                  have J_217 : ∀ x_212 σ_213, v_214 = (x_212, σ_213) → YY l E M_X12_shapeOfBytes 6 0 0 (pS (some (zv r)) σ') 436 [some (vr 277), some (vi wanted_0), some (vl x_147), none, some (vl (q_lan x_147 536870911)), none, some (vi (q_lrm (q_lan x_147 536870911) 1000)), some (zv x_149), some (vi (x_181 - 1)), some (vl x_189), none] [zv x_212] σ_213 0 0 := by
                                    intro x_212 σ_213 e
                                    have H := hk_216
                                    rw [e] at H
                                    cases H
                                    exact z_zret (M := M_X12_shapeOfBytes) dX12_shapeOfBytes_436 rfl (Nat.le_of_ble_eq_true rfl) (Nat.le_of_ble_eq_true rfl) ⟨rfl, rfl⟩
                                  have H := he_215
                                  refine z_iload (M := M_X12_shapeOfBytes) dX12_shapeOfBytes_413 rfl ?_
                                  refine z_iconst (M := M_X12_shapeOfBytes) dX12_shapeOfBytes_415 ?_
                                  rcases if_e H with ⟨h_203, H⟩ | ⟨h_203, H⟩
                                  · refine z_icmp_ne_f (M := M_X12_shapeOfBytes) (tgt := 428) dX12_shapeOfBytes_416 (by decide) rfl (by decide +kernel) h_203 ?_
                                    refine z_aload_n (M := M_X12_shapeOfBytes) dX12_shapeOfBytes_419 rfl ?_
                                    refine z_lload (M := M_X12_shapeOfBytes) dX12_shapeOfBytes_420 rfl ?_
                                    obtain ⟨⟨x_206, σ_205⟩, hc_204, H⟩ := bd_e H
                                    refine z_callV (M := M_X12_shapeOfBytes) (M' := M_X12_ringsOfBytes) (as := [vl x_189]) (rest := []) rfl rfl dX12_shapeOfBytes_422 m_X12_ringsOfBytes t_3013 t_3015 s_194 (c_X12_ringsOfBytes hl  hc_204) rfl rfl ly_277 rfl (Nat.le_of_ble_eq_true rfl) (Nat.le_of_ble_eq_true rfl) (Nat.le_of_ble_eq_true rfl) (Nat.le_of_ble_eq_true rfl) ?_
                                    refine z_st (st' := [zv x_206]) rfl ?_
                                    refine z_goto (M := M_X12_shapeOfBytes) (tgt := 436) dX12_shapeOfBytes_425 (by decide) ?_
                                    exact J_217 _ _ (Option.some.inj H).symm
                                  · refine z_icmp_ne_t (M := M_X12_shapeOfBytes) (tgt := 428) dX12_shapeOfBytes_416 (by decide) rfl (by decide +kernel) h_203 ?_
                                    refine z_aload_n (M := M_X12_shapeOfBytes) dX12_shapeOfBytes_428 rfl ?_
                                    refine z_iload (M := M_X12_shapeOfBytes) dX12_shapeOfBytes_429 rfl ?_
                                    refine z_lload (M := M_X12_shapeOfBytes) dX12_shapeOfBytes_431 rfl ?_
                                    obtain ⟨⟨x_210, σ_209⟩, hc_208, H⟩ := bd_e H
                                    refine z_callV (M := M_X12_shapeOfBytes) (M' := M_X12_partsOfBytes) (as := [vi (q_lrm (q_lan x_147 536870911) 1000), vl x_189]) (rest := []) rfl rfl dX12_shapeOfBytes_433 m_X12_partsOfBytes t_3017 t_3019 s_195 (c_X12_partsOfBytes hl  hc_208) rfl rfl ly_277 rfl (Nat.le_of_ble_eq_true rfl) (Nat.le_of_ble_eq_true rfl) (Nat.le_of_ble_eq_true rfl) (Nat.le_of_ble_eq_true rfl) ?_
                                    refine z_st (st' := [zv x_210]) rfl ?_
                                    exact J_217 _ _ (Option.some.inj H).symm
                              · refine z_zne_f (M := M_X12_shapeOfBytes) (tgt := 366) dX12_shapeOfBytes_353 (by decide) h_187 ?_
                                refine z_aload_n (M := M_X12_shapeOfBytes) dX12_shapeOfBytes_356 rfl ?_
                                refine z_iconst (M := M_X12_shapeOfBytes) dX12_shapeOfBytes_357 ?_
                                refine z_aload_n (M := M_X12_shapeOfBytes) dX12_shapeOfBytes_358 rfl ?_
                                refine z_getI (M := M_X12_shapeOfBytes) (ci := 15) (C := RX12) (T := TX12) (Nf := 135) (ty := tyX12) cl15 dX12_shapeOfBytes_359 ly_277 17 (by decide) t_2408 rfl rfl ?_
                                obtain ⟨⟨x_220, σ_219⟩, hc_218, H⟩ := bd_e H
                                refine z_callV (M := M_X12_shapeOfBytes) (M' := M_X12_wrong) (as := [vi 3, vi (σ_180 kR_at 0)]) (rest := []) rfl rfl dX12_shapeOfBytes_362 m_X12_wrong t_2874 t_2876 s_166 (c_X12_wrong hl  hc_218) rfl rfl ly_277 rfl (Nat.le_of_ble_eq_true rfl) (Nat.le_of_ble_eq_true rfl) (Nat.le_of_ble_eq_true rfl) (Nat.le_of_ble_eq_true rfl) ?_
                                refine z_st (st' := [zv x_220]) rfl ?_
                                cases H
                                exact z_zret (M := M_X12_shapeOfBytes) dX12_shapeOfBytes_365 rfl (Nat.le_of_ble_eq_true rfl) (Nat.le_of_ble_eq_true rfl) ⟨rfl, rfl⟩
                        have H := he_158
                        refine z_lload_n (M := M_X12_shapeOfBytes) dX12_shapeOfBytes_248 rfl ?_
                        refine z_bipush (M := M_X12_shapeOfBytes) dX12_shapeOfBytes_249 (by decide +kernel) ?_
                        refine z_lshr (M := M_X12_shapeOfBytes) dX12_shapeOfBytes_251 ?_
                        refine z_lconst (M := M_X12_shapeOfBytes) (m := 1) dX12_shapeOfBytes_252 (by decide +kernel) ?_
                        refine z_land (M := M_X12_shapeOfBytes) dX12_shapeOfBytes_253 ?_
                        refine z_lconst (M := M_X12_shapeOfBytes) (m := 1) dX12_shapeOfBytes_254 (by decide +kernel) ?_
                        refine z_lcmp (M := M_X12_shapeOfBytes) dX12_shapeOfBytes_255 ?_
                        rcases if_e H with ⟨h_162, H⟩ | ⟨h_162, H⟩
                        · refine z_lif_ne_f (M := M_X12_shapeOfBytes) (tgt := 287) dX12_shapeOfBytes_256 (by decide) rfl (by decide +kernel) h_162 ?_
                          refine z_aload_n (M := M_X12_shapeOfBytes) dX12_shapeOfBytes_259 rfl ?_
                          refine z_iconst (M := M_X12_shapeOfBytes) dX12_shapeOfBytes_260 ?_
                          refine z_callV (M := M_X12_shapeOfBytes) (M' := M_X12_there) (as := [vi 4]) (rest := []) rfl rfl dX12_shapeOfBytes_261 m_X12_there t_2974 t_2976 s_187 (c_X12_there hl  rfl) rfl rfl ly_277 rfl (Nat.le_of_ble_eq_true rfl) (Nat.le_of_ble_eq_true rfl) (Nat.le_of_ble_eq_true rfl) (Nat.le_of_ble_eq_true rfl) ?_
                          refine z_st (st' := [zv (fR_there σ_157 4)]) rfl ?_
                          rcases if_e H with ⟨h_163, H⟩ | ⟨h_163, H⟩
                          · refine z_zne_t (M := M_X12_shapeOfBytes) (tgt := 277) dX12_shapeOfBytes_264 (by decide) h_163 ?_
                            refine z_aload_n (M := M_X12_shapeOfBytes) dX12_shapeOfBytes_277 rfl ?_
                            refine z_dup (M := M_X12_shapeOfBytes) dX12_shapeOfBytes_278 rfl ?_
                            refine z_getI (M := M_X12_shapeOfBytes) (ci := 15) (C := RX12) (T := TX12) (Nf := 135) (ty := tyX12) cl15 dX12_shapeOfBytes_279 ly_277 17 (by decide) t_2408 rfl rfl ?_
                            refine z_iconst (M := M_X12_shapeOfBytes) dX12_shapeOfBytes_282 ?_
                            refine z_iadd (M := M_X12_shapeOfBytes) dX12_shapeOfBytes_283 ?_
                            obtain ⟨σ_164, σ_164_e, H⟩ := wf_e H
                            refine z_putI (M := M_X12_shapeOfBytes) (ci := 15) (C := RX12) (T := TX12) (Nf := 135) (ty := tyX12) cl15 dX12_shapeOfBytes_284 ly_277 17 (by decide) t_2408 rfl rfl rfl rfl σ_164_e ?_
                            exact J_221 _ (Option.some.inj H).symm
                          · refine z_zne_f (M := M_X12_shapeOfBytes) (tgt := 277) dX12_shapeOfBytes_264 (by decide) h_163 ?_
                            refine z_aload_n (M := M_X12_shapeOfBytes) dX12_shapeOfBytes_267 rfl ?_
                            refine z_iconst (M := M_X12_shapeOfBytes) dX12_shapeOfBytes_268 ?_
                            refine z_aload_n (M := M_X12_shapeOfBytes) dX12_shapeOfBytes_269 rfl ?_
                            refine z_getI (M := M_X12_shapeOfBytes) (ci := 15) (C := RX12) (T := TX12) (Nf := 135) (ty := tyX12) cl15 dX12_shapeOfBytes_270 ly_277 17 (by decide) t_2408 rfl rfl ?_
                            obtain ⟨⟨x_168, σ_167⟩, hc_166, H⟩ := bd_e H
                            refine z_callV (M := M_X12_shapeOfBytes) (M' := M_X12_wrong) (as := [vi 3, vi (σ_157 kR_at 0)]) (rest := []) rfl rfl dX12_shapeOfBytes_273 m_X12_wrong t_2874 t_2876 s_166 (c_X12_wrong hl  hc_166) rfl rfl ly_277 rfl (Nat.le_of_ble_eq_true rfl) (Nat.le_of_ble_eq_true rfl) (Nat.le_of_ble_eq_true rfl) (Nat.le_of_ble_eq_true rfl) ?_
                            refine z_st (st' := [zv x_168]) rfl ?_
                            have H := congrArg some (hk_160 _ (Option.some.inj H).symm)
                            cases H
                            exact z_zret (M := M_X12_shapeOfBytes) dX12_shapeOfBytes_276 rfl (Nat.le_of_ble_eq_true rfl) (Nat.le_of_ble_eq_true rfl) ⟨rfl, rfl⟩
                        · refine z_lif_ne_t (M := M_X12_shapeOfBytes) (tgt := 287) dX12_shapeOfBytes_256 (by decide) rfl (by decide +kernel) h_162 ?_
                          exact J_221 _ (Option.some.inj H).symm
                      refine z_iload (M := M_X12_shapeOfBytes) dX12_shapeOfBytes_211 rfl ?_
                      refine z_bipush (M := M_X12_shapeOfBytes) dX12_shapeOfBytes_213 (by decide +kernel) ?_
                      by_cases h_227 : (w32 (q_lrm (q_lan x_147 536870911) 1000)) = 7
                      · refine z_icmp_ne_f (M := M_X12_shapeOfBytes) (tgt := 238) dX12_shapeOfBytes_215 (by decide) rfl (by decide +kernel) h_227 ?_
                        refine z_aload_n (M := M_X12_shapeOfBytes) dX12_shapeOfBytes_218 rfl ?_
                        refine z_getI (M := M_X12_shapeOfBytes) (ci := 15) (C := RX12) (T := TX12) (Nf := 135) (ty := tyX12) cl15 dX12_shapeOfBytes_219 ly_277 20 (by decide) t_2411 rfl rfl ?_
                        refine z_bipush (M := M_X12_shapeOfBytes) dX12_shapeOfBytes_222 (by decide +kernel) ?_
                        by_cases h_228 : (w32 (σ_144 kR_open 0)) = 50
                        · refine z_icmp_ne_f (M := M_X12_shapeOfBytes) (tgt := 238) dX12_shapeOfBytes_224 (by decide) rfl (by decide +kernel) h_228 ?_
                          exact absurd ⟨h_227, h_228⟩ h_222
                        · refine z_icmp_ne_t (M := M_X12_shapeOfBytes) (tgt := 238) dX12_shapeOfBytes_224 (by decide) rfl (by decide +kernel) h_228 ?_
                          exact J_224
                      · refine z_icmp_ne_t (M := M_X12_shapeOfBytes) (tgt := 238) dX12_shapeOfBytes_215 (by decide) rfl (by decide +kernel) h_227 ?_
                        exact J_224
                  refine z_lload_n (M := M_X12_shapeOfBytes) dX12_shapeOfBytes_182 rfl ?_
                  refine z_bipush (M := M_X12_shapeOfBytes) dX12_shapeOfBytes_183 (by decide +kernel) ?_
                  refine z_lshr (M := M_X12_shapeOfBytes) dX12_shapeOfBytes_185 ?_
                  refine z_lconst (M := M_X12_shapeOfBytes) (m := 0) dX12_shapeOfBytes_186 (by decide +kernel) ?_
                  refine z_lcmp (M := M_X12_shapeOfBytes) dX12_shapeOfBytes_187 ?_
                  by_cases h_234 : ¬ (w64 (q_lsr x_147 30)) = 0
                  · refine z_lif_ne_t (M := M_X12_shapeOfBytes) (tgt := 200) dX12_shapeOfBytes_188 (by decide) rfl (by decide +kernel) h_234 ?_
                    exact absurd (Or.inl h_234) h_229
                  · refine z_lif_ne_f (M := M_X12_shapeOfBytes) (tgt := 200) dX12_shapeOfBytes_188 (by decide) rfl (by decide +kernel) (Decidable.not_not.mp h_234) ?_
                    refine z_lload (M := M_X12_shapeOfBytes) dX12_shapeOfBytes_191 rfl ?_
                    refine z_ldc2 (M := M_X12_shapeOfBytes) (n := 1000) dX12_shapeOfBytes_193 t_2984 (by decide +kernel) ?_
                    refine z_lcmp (M := M_X12_shapeOfBytes) dX12_shapeOfBytes_196 ?_
                    by_cases h_235 : 1000 ≤ (w64 (q_lan x_147 536870911))
                    · refine z_lif_lt_f (M := M_X12_shapeOfBytes) (tgt := 211) dX12_shapeOfBytes_197 (by decide) rfl (by decide +kernel) h_235 ?_
                      exact absurd (Or.inr h_235) h_229
                    · refine z_lif_lt_t (M := M_X12_shapeOfBytes) (tgt := 211) dX12_shapeOfBytes_197 (by decide) rfl (by decide +kernel) (Int.not_le.mp h_235) ?_
                      exact J_231
              · refine z_zne_f (M := M_X12_shapeOfBytes) (tgt := 182) dX12_shapeOfBytes_169 (by decide) h_150 ?_
                refine z_aload_n (M := M_X12_shapeOfBytes) dX12_shapeOfBytes_172 rfl ?_
                refine z_iconst (M := M_X12_shapeOfBytes) dX12_shapeOfBytes_173 ?_
                refine z_aload_n (M := M_X12_shapeOfBytes) dX12_shapeOfBytes_174 rfl ?_
                refine z_getI (M := M_X12_shapeOfBytes) (ci := 15) (C := RX12) (T := TX12) (Nf := 135) (ty := tyX12) cl15 dX12_shapeOfBytes_175 ly_277 17 (by decide) t_2408 rfl rfl ?_
                obtain ⟨⟨x_238, σ_237⟩, hc_236, H⟩ := bd_e H
                refine z_callV (M := M_X12_shapeOfBytes) (M' := M_X12_wrong) (as := [vi 2, vi (σ_144 kR_at 0)]) (rest := []) rfl rfl dX12_shapeOfBytes_178 m_X12_wrong t_2874 t_2876 s_166 (c_X12_wrong hl  hc_236) rfl rfl ly_277 rfl (Nat.le_of_ble_eq_true rfl) (Nat.le_of_ble_eq_true rfl) (Nat.le_of_ble_eq_true rfl) (Nat.le_of_ble_eq_true rfl) ?_
                refine z_st (st' := [zv x_238]) rfl ?_
                cases H
                exact z_zret (M := M_X12_shapeOfBytes) dX12_shapeOfBytes_181 rfl (Nat.le_of_ble_eq_true rfl) (Nat.le_of_ble_eq_true rfl) ⟨rfl, rfl⟩
            refine z_lload (M := M_X12_shapeOfBytes) dX12_shapeOfBytes_128 rfl ?_
            refine z_ldc2 (M := M_X12_shapeOfBytes) (n := 4000) dX12_shapeOfBytes_130 t_2985 (by decide +kernel) ?_
            refine z_lcmp (M := M_X12_shapeOfBytes) dX12_shapeOfBytes_133 ?_
            by_cases h_239 : (w64 (q_lan x_147 536870911)) < 4000
            · refine z_lif_ge_f (M := M_X12_shapeOfBytes) (tgt := 164) dX12_shapeOfBytes_134 (by decide) rfl (by decide +kernel) h_239 ?_
              refine z_iload (M := M_X12_shapeOfBytes) dX12_shapeOfBytes_137 rfl ?_
              refine z_i2l (M := M_X12_shapeOfBytes) dX12_shapeOfBytes_139 ?_
              refine z_lconst (M := M_X12_shapeOfBytes) (m := 1) dX12_shapeOfBytes_140 (by decide +kernel) ?_
              refine z_ldc2 (M := M_X12_shapeOfBytes) (n := 7) dX12_shapeOfBytes_141 t_2986 (by decide +kernel) ?_
              refine z_callS (M := M_X12_shapeOfBytes) (M' := M_X12_in) (as := [vl (w32 (q_lrm (q_lan x_147 536870911) 1000)), vl 1, vl 7]) (rest := []) rfl rfl dX12_shapeOfBytes_144 m_X12_in t_2818 t_2819 (c_X12_in hl  rfl) rfl rfl (Nat.le_of_ble_eq_true rfl) (Nat.le_of_ble_eq_true rfl) (Nat.le_of_ble_eq_true rfl) (Nat.le_of_ble_eq_true rfl) ?_
              refine z_st (st' := [zv (fR_in (w32 (q_lrm (q_lan x_147 536870911) 1000)) 1 7)]) rfl ?_
              by_cases h_240 : (fR_in (w32 (q_lrm (q_lan x_147 536870911) 1000)) 1 7) = true
              · refine z_zeq_f (M := M_X12_shapeOfBytes) (tgt := 164) dX12_shapeOfBytes_147 (by decide) h_240 ?_
                refine z_iload_n (M := M_X12_shapeOfBytes) dX12_shapeOfBytes_150 rfl ?_
                by_cases h_241 : (w32 wanted_0) = 0
                · refine z_if_eq_t (M := M_X12_shapeOfBytes) (tgt := 160) dX12_shapeOfBytes_151 (by decide) rfl h_241 ?_
                  refine z_iconst (M := M_X12_shapeOfBytes) dX12_shapeOfBytes_160 ?_
                  refine z_goto (M := M_X12_shapeOfBytes) (tgt := 165) dX12_shapeOfBytes_161 (by decide) ?_
                  exact z_st (by rw [zv_t (p := (((w64 (q_lan x_147 536870911)) < 4000) ∧ ((fR_in (w32 (q_lrm (q_lan x_147 536870911) 1000)) 1 7) = true)) ∧ (((w32 wanted_0) = 0) ∨ ((w32 (q_lrm (q_lan x_147 536870911) 1000)) = (w32 wanted_0)))) ⟨⟨h_239, h_240⟩, (Or.inl h_241)⟩]) J_148
                · refine z_if_eq_f (M := M_X12_shapeOfBytes) (tgt := 160) dX12_shapeOfBytes_151 (by decide) rfl h_241 ?_
                  refine z_iload (M := M_X12_shapeOfBytes) dX12_shapeOfBytes_154 rfl ?_
                  refine z_iload_n (M := M_X12_shapeOfBytes) dX12_shapeOfBytes_156 rfl ?_
                  by_cases h_242 : (w32 (q_lrm (q_lan x_147 536870911) 1000)) = (w32 wanted_0)
                  · refine z_icmp_ne_f (M := M_X12_shapeOfBytes) (tgt := 164) dX12_shapeOfBytes_157 (by decide) rfl rfl h_242 ?_
                    refine z_iconst (M := M_X12_shapeOfBytes) dX12_shapeOfBytes_160 ?_
                    refine z_goto (M := M_X12_shapeOfBytes) (tgt := 165) dX12_shapeOfBytes_161 (by decide) ?_
                    exact z_st (by rw [zv_t (p := (((w64 (q_lan x_147 536870911)) < 4000) ∧ ((fR_in (w32 (q_lrm (q_lan x_147 536870911) 1000)) 1 7) = true)) ∧ (((w32 wanted_0) = 0) ∨ ((w32 (q_lrm (q_lan x_147 536870911) 1000)) = (w32 wanted_0)))) ⟨⟨h_239, h_240⟩, (Or.inr h_242)⟩]) J_148
                  · refine z_icmp_ne_t (M := M_X12_shapeOfBytes) (tgt := 164) dX12_shapeOfBytes_157 (by decide) rfl rfl h_242 ?_
                    refine z_iconst (M := M_X12_shapeOfBytes) dX12_shapeOfBytes_164 ?_
                    exact z_st (by rw [zv_f (p := (((w64 (q_lan x_147 536870911)) < 4000) ∧ ((fR_in (w32 (q_lrm (q_lan x_147 536870911) 1000)) 1 7) = true)) ∧ (((w32 wanted_0) = 0) ∨ ((w32 (q_lrm (q_lan x_147 536870911) 1000)) = (w32 wanted_0)))) (fun q => (fun q => q.elim h_241 h_242) q.2)]) J_148
              · refine z_zeq_t (M := M_X12_shapeOfBytes) (tgt := 164) dX12_shapeOfBytes_147 (by decide) h_240 ?_
                refine z_iconst (M := M_X12_shapeOfBytes) dX12_shapeOfBytes_164 ?_
                exact z_st (by rw [zv_f (p := (((w64 (q_lan x_147 536870911)) < 4000) ∧ ((fR_in (w32 (q_lrm (q_lan x_147 536870911) 1000)) 1 7) = true)) ∧ (((w32 wanted_0) = 0) ∨ ((w32 (q_lrm (q_lan x_147 536870911) 1000)) = (w32 wanted_0)))) (fun q => (fun q => h_240 q.2) q.1)]) J_148
            · refine z_lif_ge_t (M := M_X12_shapeOfBytes) (tgt := 164) dX12_shapeOfBytes_134 (by decide) rfl (by decide +kernel) (Int.not_lt.mp h_239) ?_
              refine z_iconst (M := M_X12_shapeOfBytes) dX12_shapeOfBytes_164 ?_
              exact z_st (by rw [zv_f (p := (((w64 (q_lan x_147 536870911)) < 4000) ∧ ((fR_in (w32 (q_lrm (q_lan x_147 536870911) 1000)) 1 7) = true)) ∧ (((w32 wanted_0) = 0) ∨ ((w32 (q_lrm (q_lan x_147 536870911) 1000)) = (w32 wanted_0)))) (fun q => (fun q => h_239 q.1) q.1)]) J_148
          · refine z_zne_f (M := M_X12_shapeOfBytes) (tgt := 102) dX12_shapeOfBytes_89 (by decide) h_145 ?_
            refine z_aload_n (M := M_X12_shapeOfBytes) dX12_shapeOfBytes_92 rfl ?_
            refine z_iconst (M := M_X12_shapeOfBytes) dX12_shapeOfBytes_93 ?_
            refine z_aload_n (M := M_X12_shapeOfBytes) dX12_shapeOfBytes_94 rfl ?_
            refine z_getI (M := M_X12_shapeOfBytes) (ci := 15) (C := RX12) (T := TX12) (Nf := 135) (ty := tyX12) cl15 dX12_shapeOfBytes_95 ly_277 17 (by decide) t_2408 rfl rfl ?_
            obtain ⟨⟨x_245, σ_244⟩, hc_243, H⟩ := bd_e H
            refine z_callV (M := M_X12_shapeOfBytes) (M' := M_X12_wrong) (as := [vi 3, vi (σ_144 kR_at 0)]) (rest := []) rfl rfl dX12_shapeOfBytes_98 m_X12_wrong t_2874 t_2876 s_166 (c_X12_wrong hl  hc_243) rfl rfl ly_277 rfl (Nat.le_of_ble_eq_true rfl) (Nat.le_of_ble_eq_true rfl) (Nat.le_of_ble_eq_true rfl) (Nat.le_of_ble_eq_true rfl) ?_
            refine z_st (st' := [zv x_245]) rfl ?_
            cases H
            exact z_zret (M := M_X12_shapeOfBytes) dX12_shapeOfBytes_101 rfl (Nat.le_of_ble_eq_true rfl) (Nat.le_of_ble_eq_true rfl) ⟨rfl, rfl⟩
        have H := he_247
        refine z_aload_n (M := M_X12_shapeOfBytes) dX12_shapeOfBytes_54 rfl ?_
        refine z_getR (M := M_X12_shapeOfBytes) (ci := 15) (C := RX12) (T := TX12) (Nf := 135) (ty := tyX12) cl15 dX12_shapeOfBytes_55 ly_277 3 (by decide) t_2394 rfl ?_
        refine z_aload_n (M := M_X12_shapeOfBytes) dX12_shapeOfBytes_58 rfl ?_
        refine z_getI (M := M_X12_shapeOfBytes) (ci := 15) (C := RX12) (T := TX12) (Nf := 135) (ty := tyX12) cl15 dX12_shapeOfBytes_59 ly_277 17 (by decide) t_2408 rfl rfl ?_
        obtain ⟨x_137, x_137_e, hi_138, H⟩ := rd_e H
        refine z_bald (M := M_X12_shapeOfBytes) dX12_shapeOfBytes_62 ly_278 rfl rfl rfl hi_138 x_137_e ?_
        rcases if_e H with ⟨h_139, H⟩ | ⟨h_139, H⟩
        · refine z_if_ne_f (M := M_X12_shapeOfBytes) (tgt := 70) dX12_shapeOfBytes_63 (by decide) rfl h_139 ?_
          refine z_zconst (M := M_X12_shapeOfBytes) (b := true) dX12_shapeOfBytes_66 rfl ?_
          refine z_goto (M := M_X12_shapeOfBytes) (tgt := 71) dX12_shapeOfBytes_67 (by decide) ?_
          exact J_249 _ (Option.some.inj H).symm
        · refine z_if_ne_t (M := M_X12_shapeOfBytes) (tgt := 70) dX12_shapeOfBytes_63 (by decide) rfl h_139 ?_
          refine z_zconst (M := M_X12_shapeOfBytes) (b := false) dX12_shapeOfBytes_70 rfl ?_
          exact J_249 _ (Option.some.inj H).symm
    have H := he_251
    refine z_aload_n (M := M_X12_shapeOfBytes) dX12_shapeOfBytes_18 rfl ?_
    refine z_getR (M := M_X12_shapeOfBytes) (ci := 15) (C := RX12) (T := TX12) (Nf := 135) (ty := tyX12) cl15 dX12_shapeOfBytes_19 ly_277 3 (by decide) t_2394 rfl ?_
    refine z_aload_n (M := M_X12_shapeOfBytes) dX12_shapeOfBytes_22 rfl ?_
    refine z_getI (M := M_X12_shapeOfBytes) (ci := 15) (C := RX12) (T := TX12) (Nf := 135) (ty := tyX12) cl15 dX12_shapeOfBytes_23 ly_277 17 (by decide) t_2408 rfl rfl ?_
    obtain ⟨x_124, x_124_e, hi_125, H⟩ := rd_e H
    refine z_bald (M := M_X12_shapeOfBytes) dX12_shapeOfBytes_26 ly_278 rfl rfl rfl hi_125 x_124_e ?_
    rcases if_e H with ⟨h_126, H⟩ | ⟨h_126, H⟩
    · refine z_if_eq_f (M := M_X12_shapeOfBytes) (tgt := 53) dX12_shapeOfBytes_27 (by decide) rfl h_126 ?_
      refine z_aload_n (M := M_X12_shapeOfBytes) dX12_shapeOfBytes_30 rfl ?_
      refine z_getR (M := M_X12_shapeOfBytes) (ci := 15) (C := RX12) (T := TX12) (Nf := 135) (ty := tyX12) cl15 dX12_shapeOfBytes_31 ly_277 3 (by decide) t_2394 rfl ?_
      refine z_aload_n (M := M_X12_shapeOfBytes) dX12_shapeOfBytes_34 rfl ?_
      refine z_getI (M := M_X12_shapeOfBytes) (ci := 15) (C := RX12) (T := TX12) (Nf := 135) (ty := tyX12) cl15 dX12_shapeOfBytes_35 ly_277 17 (by decide) t_2408 rfl rfl ?_
      obtain ⟨x_127, x_127_e, hi_128, H⟩ := rd_e H
      refine z_bald (M := M_X12_shapeOfBytes) dX12_shapeOfBytes_38 ly_278 rfl rfl rfl hi_128 x_127_e ?_
      refine z_iconst (M := M_X12_shapeOfBytes) dX12_shapeOfBytes_39 ?_
      rcases if_e H with ⟨h_129, H⟩ | ⟨h_129, H⟩
      · refine z_icmp_eq_f (M := M_X12_shapeOfBytes) (tgt := 53) dX12_shapeOfBytes_40 (by decide) rfl (by decide +kernel) h_129 ?_
        exact J_253 (Option.some.inj H).symm
      · refine z_icmp_eq_t (M := M_X12_shapeOfBytes) (tgt := 53) dX12_shapeOfBytes_40 (by decide) rfl (by decide +kernel) (Decidable.not_not.mp h_129) ?_
        exact J_254 (Option.some.inj H).symm
    · refine z_if_eq_t (M := M_X12_shapeOfBytes) (tgt := 53) dX12_shapeOfBytes_27 (by decide) rfl (Decidable.not_not.mp h_126) ?_
      exact J_254 (Option.some.inj H).symm
  · refine z_zne_f (M := M_X12_shapeOfBytes) (tgt := 18) dX12_shapeOfBytes_5 (by decide) h_1 ?_
    refine z_aload_n (M := M_X12_shapeOfBytes) dX12_shapeOfBytes_8 rfl ?_
    refine z_iconst (M := M_X12_shapeOfBytes) dX12_shapeOfBytes_9 ?_
    refine z_aload_n (M := M_X12_shapeOfBytes) dX12_shapeOfBytes_10 rfl ?_
    refine z_getI (M := M_X12_shapeOfBytes) (ci := 15) (C := RX12) (T := TX12) (Nf := 135) (ty := tyX12) cl15 dX12_shapeOfBytes_11 ly_277 17 (by decide) t_2408 rfl rfl ?_
    obtain ⟨⟨x_257, σ_256⟩, hc_255, H⟩ := bd_e H
    refine z_callV (M := M_X12_shapeOfBytes) (M' := M_X12_wrong) (as := [vi 3, vi (σ kR_at 0)]) (rest := []) rfl rfl dX12_shapeOfBytes_14 m_X12_wrong t_2874 t_2876 s_166 (c_X12_wrong hl  hc_255) rfl rfl ly_277 rfl (Nat.le_of_ble_eq_true rfl) (Nat.le_of_ble_eq_true rfl) (Nat.le_of_ble_eq_true rfl) (Nat.le_of_ble_eq_true rfl) ?_
    refine z_st (st' := [zv x_257]) rfl ?_
    cases H
    exact z_zret (M := M_X12_shapeOfBytes) dX12_shapeOfBytes_17 rfl (Nat.le_of_ble_eq_true rfl) (Nat.le_of_ble_eq_true rfl) ⟨rfl, rfl⟩
theorem c_X12_bytes (hl : l.stackTraces = false) {σ : SG} {r : Bool} {σ' : SG}  (H : fR_bytes σ = some (r, σ')) : en_S l E M_X12_bytes 7 0 0 [vr 277] σ (pS (some (zv r)) σ') := by
  unfold fR_bytes at H
  refine z_mk (lv := [some (vr 277), none, none]) m_X12_bytes rfl hl (Nat.le_of_ble_eq_true rfl) rfl ?_
  refine z_aload_n (M := M_X12_bytes) dX12_bytes_0 rfl ?_
  refine z_iconst (M := M_X12_bytes) dX12_bytes_1 ?_
  obtain ⟨σ_1, σ_1_e, H⟩ := wf_e H
  refine z_putI (M := M_X12_bytes) (ci := 15) (C := RX12) (T := TX12) (Nf := 135) (ty := tyX12) cl15 dX12_bytes_2 ly_277 17 (by decide) t_2408 rfl rfl rfl rfl σ_1_e ?_
  refine z_aload_n (M := M_X12_bytes) dX12_bytes_5 rfl ?_
  refine z_iconst (M := M_X12_bytes) dX12_bytes_6 ?_
  obtain ⟨σ_2, σ_2_e, H⟩ := wf_e H
  refine z_putI (M := M_X12_bytes) (ci := 15) (C := RX12) (T := TX12) (Nf := 135) (ty := tyX12) cl15 dX12_bytes_7 ly_277 20 (by decide) t_2411 rfl rfl rfl rfl σ_2_e ?_
  refine z_aload_n (M := M_X12_bytes) dX12_bytes_10 rfl ?_
  refine z_iconst (M := M_X12_bytes) dX12_bytes_11 ?_
  obtain ⟨σ_3, σ_3_e, H⟩ := wf_e H
  refine z_putI (M := M_X12_bytes) (ci := 15) (C := RX12) (T := TX12) (Nf := 135) (ty := tyX12) cl15 dX12_bytes_12 ly_277 29 (by decide) t_2420 rfl rfl rfl rfl σ_3_e ?_
  refine z_aload_n (M := M_X12_bytes) dX12_bytes_15 rfl ?_
  refine z_bipush (M := M_X12_bytes) dX12_bytes_16 (by decide +kernel) ?_
  obtain ⟨σ_5, hc_4, H⟩ := bd_e H
  refine z_callV (M := M_X12_bytes) (M' := M_X12_clear) (as := [vi 32]) (rest := []) rfl rfl dX12_bytes_18 m_X12_clear t_2848 t_2850 s_161 (c_X12_clear hl  hc_4) rfl rfl ly_277 rfl (Nat.le_of_ble_eq_true rfl) (Nat.le_of_ble_eq_true rfl) (Nat.le_of_ble_eq_true rfl) (Nat.le_of_ble_eq_true rfl) ?_
  refine z_st (st' := []) rfl ?_
  refine z_aload_n (M := M_X12_bytes) dX12_bytes_21 rfl ?_
  refine z_iconst (M := M_X12_bytes) dX12_bytes_22 ?_
  obtain ⟨⟨x_8, σ_7⟩, hc_6, H⟩ := bd_e H
  refine z_callV (M := M_X12_bytes) (M' := M_X12_shapeOfBytes) (as := [vi 0]) (rest := []) rfl rfl dX12_bytes_23 m_X12_shapeOfBytes t_2970 t_2972 s_186 (c_X12_shapeOfBytes hl  hc_6) rfl rfl ly_277 rfl (Nat.le_of_ble_eq_true rfl) (Nat.le_of_ble_eq_true rfl) (Nat.le_of_ble_eq_true rfl) (Nat.le_of_ble_eq_true rfl) ?_
  refine z_st (st' := [zv x_8]) rfl ?_
  refine z_zstore_n (M := M_X12_bytes) (lv' := [some (vr 277), some (zv x_8), none]) dX12_bytes_26 (Nat.le_of_ble_eq_true rfl) rfl rfl ?_
  obtain ⟨rl_14, hw_11, hk_12⟩ := bd_e H
  have J_78 : ∀ good_60 σ_61, rl_14 = (good_60, σ_61) → YY l E M_X12_bytes 7 0 0 (pS (some (zv r)) σ') 119 [some (vr 277), some (zv good_60), none] [] σ_61 0 0 := by
    intro good_60 σ_61 e
    have H := hk_12
    rw [e] at H
    obtain ⟨v_74, he_75, hk_76⟩ := bd_e H
    have J_77 : ∀ x_72 σ_73, v_74 = (x_72, σ_73) → YY l E M_X12_bytes 7 0 0 (pS (some (zv r)) σ') 152 [some (vr 277), some (zv good_60), none] [zv x_72] σ_73 0 0 := by
      intro x_72 σ_73 e
      have H := hk_76
      rw [e] at H
      cases H
      exact z_zret (M := M_X12_bytes) dX12_bytes_152 rfl (Nat.le_of_ble_eq_true rfl) (Nat.le_of_ble_eq_true rfl) ⟨rfl, rfl⟩
    have H := he_75
    refine z_zload_n (M := M_X12_bytes) dX12_bytes_119 rfl ?_
    rcases if_e H with ⟨h_62, H⟩ | ⟨h_62, H⟩
    · refine z_zeq_f (M := M_X12_bytes) (tgt := 151) dX12_bytes_120 (by decide) h_62 ?_
      refine z_aload_n (M := M_X12_bytes) dX12_bytes_123 rfl ?_
      refine z_getI (M := M_X12_bytes) (ci := 15) (C := RX12) (T := TX12) (Nf := 135) (ty := tyX12) cl15 dX12_bytes_124 ly_277 17 (by decide) t_2408 rfl rfl ?_
      refine z_aload_n (M := M_X12_bytes) dX12_bytes_127 rfl ?_
      refine z_getI (M := M_X12_bytes) (ci := 15) (C := RX12) (T := TX12) (Nf := 135) (ty := tyX12) cl15 dX12_bytes_128 ly_277 18 (by decide) t_2409 rfl rfl ?_
      rcases if_e H with ⟨h_63, H⟩ | ⟨h_63, H⟩
      · refine z_icmp_eq_t (M := M_X12_bytes) (tgt := 147) dX12_bytes_131 (by decide) rfl rfl h_63 ?_
        refine z_zconst (M := M_X12_bytes) (b := true) dX12_bytes_147 rfl ?_
        refine z_goto (M := M_X12_bytes) (tgt := 152) dX12_bytes_148 (by decide) ?_
        exact J_77 _ _ (Option.some.inj H).symm
      · refine z_icmp_eq_f (M := M_X12_bytes) (tgt := 147) dX12_bytes_131 (by decide) rfl rfl h_63 ?_
        refine z_aload_n (M := M_X12_bytes) dX12_bytes_134 rfl ?_
        refine z_bipush (M := M_X12_bytes) dX12_bytes_135 (by decide +kernel) ?_
        refine z_aload_n (M := M_X12_bytes) dX12_bytes_137 rfl ?_
        refine z_getI (M := M_X12_bytes) (ci := 15) (C := RX12) (T := TX12) (Nf := 135) (ty := tyX12) cl15 dX12_bytes_138 ly_277 17 (by decide) t_2408 rfl rfl ?_
        obtain ⟨⟨x_67, σ_66⟩, hc_65, H⟩ := bd_e H
        refine z_callV (M := M_X12_bytes) (M' := M_X12_wrong) (as := [vi 8, vi (σ_61 kR_at 0)]) (rest := []) rfl rfl dX12_bytes_141 m_X12_wrong t_2874 t_2876 s_166 (c_X12_wrong hl  hc_65) rfl rfl ly_277 rfl (Nat.le_of_ble_eq_true rfl) (Nat.le_of_ble_eq_true rfl) (Nat.le_of_ble_eq_true rfl) (Nat.le_of_ble_eq_true rfl) ?_
        refine z_st (st' := [zv x_67]) rfl ?_
        rcases if_e H with ⟨h_68, H⟩ | ⟨h_68, H⟩
        · refine z_zeq_f (M := M_X12_bytes) (tgt := 151) dX12_bytes_144 (by decide) h_68 ?_
          refine z_zconst (M := M_X12_bytes) (b := true) dX12_bytes_147 rfl ?_
          refine z_goto (M := M_X12_bytes) (tgt := 152) dX12_bytes_148 (by decide) ?_
          exact J_77 _ _ (Option.some.inj H).symm
        · refine z_zeq_t (M := M_X12_bytes) (tgt := 151) dX12_bytes_144 (by decide) h_68 ?_
          refine z_zconst (M := M_X12_bytes) (b := false) dX12_bytes_151 rfl ?_
          exact J_77 _ _ (Option.some.inj H).symm
    · refine z_zeq_t (M := M_X12_bytes) (tgt := 151) dX12_bytes_120 (by decide) h_62 ?_
      refine z_zconst (M := M_X12_bytes) (b := false) dX12_bytes_151 rfl ?_
      exact J_77 _ _ (Option.some.inj H).symm
  refine whl_go hw_11 (fun (good_9, σ_10) => YY l E M_X12_bytes 7 0 0 (pS (some (zv r)) σ') 27 [some (vr 277), some (zv good_9), none] [] σ_10 0 0) ?_
  rintro ⟨good_9, σ_10⟩ o_15 H K_16 K_17
  rcases if_e H with ⟨h_53, H⟩ | ⟨h_53, H⟩
  · have J_54 : YY l E M_X12_bytes 7 0 0 (pS (some (zv r)) σ') 38 [some (vr 277), some (zv good_9), none] [] σ_10 0 0 := by
      refine z_aload_n (M := M_X12_bytes) dX12_bytes_38 rfl ?_
      refine z_getI (M := M_X12_bytes) (ci := 15) (C := RX12) (T := TX12) (Nf := 135) (ty := tyX12) cl15 dX12_bytes_39 ly_277 29 (by decide) t_2420 rfl rfl ?_
      refine z_iconst (M := M_X12_bytes) dX12_bytes_42 ?_
      refine z_isub (M := M_X12_bytes) dX12_bytes_43 ?_
      refine z_istore_n (M := M_X12_bytes) (lv' := [some (vr 277), some (zv good_9), some (vi ((σ_10 kR_levels 0) - 1))]) dX12_bytes_44 (Nat.le_of_ble_eq_true rfl) rfl rfl ?_
      obtain ⟨v_21, he_18, hk_19⟩ := bd_e H
      have J_51 : ∀ good_48 σ_49, v_21 = (good_48, σ_49) → YY l E M_X12_bytes 7 0 0 (pS (some (zv r)) σ') 116 [some (vr 277), some (zv good_48), some (vi ((σ_10 kR_levels 0) - 1))] [] σ_49 0 0 := by
        intro good_48 σ_49 e
        have H := hk_19
        rw [e] at H
        refine z_goto (M := M_X12_bytes) (tgt := 27) dX12_bytes_116 (by decide) ?_
        refine z_le (lv' := [some (vr 277), some (zv good_48), none]) ⟨Or.inr rfl, Or.inr rfl, Or.inl rfl, trivial⟩ ?_
        exact K_16 _ (Option.some.inj H).symm
      have H := he_18
      refine z_aload_n (M := M_X12_bytes) dX12_bytes_45 rfl ?_
      refine z_getR (M := M_X12_bytes) (ci := 15) (C := RX12) (T := TX12) (Nf := 135) (ty := tyX12) cl15 dX12_bytes_46 ly_277 27 (by decide) t_2418 rfl ?_
      refine z_iload_n (M := M_X12_bytes) dX12_bytes_49 rfl ?_
      obtain ⟨x_22, x_22_e, hi_23, H⟩ := rd_e H
      refine z_lald (M := M_X12_bytes) dX12_bytes_50 ly_288 rfl rfl rfl hi_23 x_22_e ?_
      refine z_lconst (M := M_X12_bytes) (m := 0) dX12_bytes_51 (by decide +kernel) ?_
      refine z_lcmp (M := M_X12_bytes) dX12_bytes_52 ?_
      rcases if_e H with ⟨h_24, H⟩ | ⟨h_24, H⟩
      · refine z_lif_ne_f (M := M_X12_bytes) (tgt := 95) dX12_bytes_53 (by decide) rfl (by decide +kernel) h_24 ?_
        refine z_aload_n (M := M_X12_bytes) dX12_bytes_56 rfl ?_
        refine z_dup (M := M_X12_bytes) dX12_bytes_57 rfl ?_
        refine z_getI (M := M_X12_bytes) (ci := 15) (C := RX12) (T := TX12) (Nf := 135) (ty := tyX12) cl15 dX12_bytes_58 ly_277 29 (by decide) t_2420 rfl rfl ?_
        refine z_iconst (M := M_X12_bytes) dX12_bytes_61 ?_
        refine z_isub (M := M_X12_bytes) dX12_bytes_62 ?_
        obtain ⟨σ_25, σ_25_e, H⟩ := wf_e H
        refine z_putI (M := M_X12_bytes) (ci := 15) (C := RX12) (T := TX12) (Nf := 135) (ty := tyX12) cl15 dX12_bytes_63 ly_277 29 (by decide) t_2420 rfl rfl rfl rfl σ_25_e ?_
        refine z_aload_n (M := M_X12_bytes) dX12_bytes_66 rfl ?_
        obtain ⟨v_34, he_35, hk_36⟩ := bd_e H
        have J_37 : ∀ x_31, v_34 = x_31 → YY l E M_X12_bytes 7 0 0 (pS (some (zv r)) σ') 89 [some (vr 277), some (zv good_9), some (vi ((σ_10 kR_levels 0) - 1))] [vi x_31, vr 277] σ_25 0 0 := by
          intro x_31 e
          have H := hk_36
          rw [e] at H
          obtain ⟨σ_32, σ_32_e, H⟩ := wf_e H
          refine z_putI (M := M_X12_bytes) (ci := 15) (C := RX12) (T := TX12) (Nf := 135) (ty := tyX12) cl15 dX12_bytes_89 ly_277 20 (by decide) t_2411 rfl rfl rfl rfl σ_32_e ?_
          refine z_goto (M := M_X12_bytes) (tgt := 116) dX12_bytes_92 (by decide) ?_
          exact J_51 _ _ (Option.some.inj H).symm
        have H := he_35
        refine z_aload_n (M := M_X12_bytes) dX12_bytes_67 rfl ?_
        refine z_getR (M := M_X12_bytes) (ci := 15) (C := RX12) (T := TX12) (Nf := 135) (ty := tyX12) cl15 dX12_bytes_68 ly_277 28 (by decide) t_2419 rfl ?_
        refine z_iload_n (M := M_X12_bytes) dX12_bytes_71 rfl ?_
        obtain ⟨x_26, x_26_e, hi_27, H⟩ := rd_e H
        refine z_iald (M := M_X12_bytes) dX12_bytes_72 ly_289 rfl rfl rfl hi_27 x_26_e ?_
        rcases if_e H with ⟨h_28, H⟩ | ⟨h_28, H⟩
        · refine z_if_ne_f (M := M_X12_bytes) (tgt := 85) dX12_bytes_73 (by decide) rfl h_28 ?_
          refine z_aload_n (M := M_X12_bytes) dX12_bytes_76 rfl ?_
          refine z_getI (M := M_X12_bytes) (ci := 15) (C := RX12) (T := TX12) (Nf := 135) (ty := tyX12) cl15 dX12_bytes_77 ly_277 20 (by decide) t_2411 rfl rfl ?_
          refine z_iconst (M := M_X12_bytes) dX12_bytes_80 ?_
          refine z_isub (M := M_X12_bytes) dX12_bytes_81 ?_
          refine z_goto (M := M_X12_bytes) (tgt := 89) dX12_bytes_82 (by decide) ?_
          exact J_37 _ (Option.some.inj H).symm
        · refine z_if_ne_t (M := M_X12_bytes) (tgt := 85) dX12_bytes_73 (by decide) rfl h_28 ?_
          refine z_aload_n (M := M_X12_bytes) dX12_bytes_85 rfl ?_
          refine z_getI (M := M_X12_bytes) (ci := 15) (C := RX12) (T := TX12) (Nf := 135) (ty := tyX12) cl15 dX12_bytes_86 ly_277 20 (by decide) t_2411 rfl rfl ?_
          exact J_37 _ (Option.some.inj H).symm
      · refine z_lif_ne_t (M := M_X12_bytes) (tgt := 95) dX12_bytes_53 (by decide) rfl (by decide +kernel) h_24 ?_
        refine z_aload_n (M := M_X12_bytes) dX12_bytes_95 rfl ?_
        refine z_getR (M := M_X12_bytes) (ci := 15) (C := RX12) (T := TX12) (Nf := 135) (ty := tyX12) cl15 dX12_bytes_96 ly_277 27 (by decide) t_2418 rfl ?_
        refine z_iload_n (M := M_X12_bytes) dX12_bytes_99 rfl ?_
        refine z_dup2 (M := M_X12_bytes) dX12_bytes_100 rfl rfl ?_
        obtain ⟨x_38, x_38_e, hi_39, H⟩ := rd_e H
        refine z_lald (M := M_X12_bytes) dX12_bytes_101 ly_288 rfl rfl rfl hi_39 x_38_e ?_
        refine z_lconst (M := M_X12_bytes) (m := 1) dX12_bytes_102 (by decide +kernel) ?_
        refine z_lsub (M := M_X12_bytes) dX12_bytes_103 ?_
        obtain ⟨σ_40, σ_40_e, hi_41, H⟩ := wa_e H
        refine z_last (M := M_X12_bytes) dX12_bytes_104 ly_288 rfl rfl rfl hi_41 σ_40_e ?_
        refine z_aload_n (M := M_X12_bytes) dX12_bytes_105 rfl ?_
        refine z_aload_n (M := M_X12_bytes) dX12_bytes_106 rfl ?_
        refine z_getR (M := M_X12_bytes) (ci := 15) (C := RX12) (T := TX12) (Nf := 135) (ty := tyX12) cl15 dX12_bytes_107 ly_277 28 (by decide) t_2419 rfl ?_
        refine z_iload_n (M := M_X12_bytes) dX12_bytes_110 rfl ?_
        obtain ⟨x_42, x_42_e, hi_43, H⟩ := rd_e H
        refine z_iald (M := M_X12_bytes) dX12_bytes_111 ly_289 rfl rfl rfl hi_43 x_42_e ?_
        obtain ⟨⟨x_46, σ_45⟩, hc_44, H⟩ := bd_e H
        refine z_callV (M := M_X12_bytes) (M' := M_X12_shapeOfBytes) (as := [vi x_42]) (rest := []) rfl rfl dX12_bytes_112 m_X12_shapeOfBytes t_2970 t_2972 s_186 (c_X12_shapeOfBytes hl  hc_44) rfl rfl ly_277 rfl (Nat.le_of_ble_eq_true rfl) (Nat.le_of_ble_eq_true rfl) (Nat.le_of_ble_eq_true rfl) (Nat.le_of_ble_eq_true rfl) ?_
        refine z_st (st' := [zv x_46]) rfl ?_
        refine z_zstore_n (M := M_X12_bytes) (lv' := [some (vr 277), some (zv x_46), some (vi ((σ_10 kR_levels 0) - 1))]) dX12_bytes_115 (Nat.le_of_ble_eq_true rfl) rfl rfl ?_
        exact J_51 _ _ (Option.some.inj H).symm
    refine z_zload_n (M := M_X12_bytes) dX12_bytes_27 rfl ?_
    by_cases h_56 : good_9 = true
    · refine z_zeq_f (M := M_X12_bytes) (tgt := 119) dX12_bytes_28 (by decide) h_56 ?_
      refine z_aload_n (M := M_X12_bytes) dX12_bytes_31 rfl ?_
      refine z_getI (M := M_X12_bytes) (ci := 15) (C := RX12) (T := TX12) (Nf := 135) (ty := tyX12) cl15 dX12_bytes_32 ly_277 29 (by decide) t_2420 rfl rfl ?_
      by_cases h_57 : 0 < (w32 (σ_10 kR_levels 0))
      · refine z_if_le_f (M := M_X12_bytes) (tgt := 119) dX12_bytes_35 (by decide) rfl h_57 ?_
        exact J_54
      · refine z_if_le_t (M := M_X12_bytes) (tgt := 119) dX12_bytes_35 (by decide) rfl (Int.not_lt.mp h_57) ?_
        exact absurd h_53 (fun q => h_57 q.2)
    · refine z_zeq_t (M := M_X12_bytes) (tgt := 119) dX12_bytes_28 (by decide) h_56 ?_
      exact absurd h_53 (fun q => h_56 q.1)
  · have J_55 : YY l E M_X12_bytes 7 0 0 (pS (some (zv r)) σ') 119 [some (vr 277), some (zv good_9), none] [] σ_10 0 0 := by
      exact J_78 _ _ (K_17 _ (Option.some.inj H).symm).symm
    refine z_zload_n (M := M_X12_bytes) dX12_bytes_27 rfl ?_
    by_cases h_58 : good_9 = true
    · refine z_zeq_f (M := M_X12_bytes) (tgt := 119) dX12_bytes_28 (by decide) h_58 ?_
      refine z_aload_n (M := M_X12_bytes) dX12_bytes_31 rfl ?_
      refine z_getI (M := M_X12_bytes) (ci := 15) (C := RX12) (T := TX12) (Nf := 135) (ty := tyX12) cl15 dX12_bytes_32 ly_277 29 (by decide) t_2420 rfl rfl ?_
      by_cases h_59 : 0 < (w32 (σ_10 kR_levels 0))
      · refine z_if_le_f (M := M_X12_bytes) (tgt := 119) dX12_bytes_35 (by decide) rfl h_59 ?_
        exact absurd ⟨h_58, h_59⟩ h_53
      · refine z_if_le_t (M := M_X12_bytes) (tgt := 119) dX12_bytes_35 (by decide) rfl (Int.not_lt.mp h_59) ?_
        exact J_55
    · refine z_zeq_t (M := M_X12_bytes) (tgt := 119) dX12_bytes_28 (by decide) h_58 ?_
      exact J_55
end LFAQ
