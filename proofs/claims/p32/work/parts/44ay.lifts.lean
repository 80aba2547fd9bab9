section LFAY
variable {l : Launch} {E : EE}
theorem c_X12_edgeBehind (hl : l.stackTraces = false) {σ : SG} {e_0 : Int} {r : Int}  (H : fR_edgeBehind σ e_0 = some r) : en_S l E M_X12_edgeBehind 3 0 0 [vr 277, vi e_0] σ (pS (some (vi r)) σ) := by
  unfold fR_edgeBehind at H
  refine z_mk (lv := [some (vr 277), some (vi e_0), none, none, none, none, none, none, none, none, none, none, none, none, none, none, none, none]) m_X12_edgeBehind rfl hl (Nat.le_of_ble_eq_true rfl) rfl ?_
  refine z_aload_n (M := M_X12_edgeBehind) dX12_edgeBehind_0 rfl ?_
  refine z_getR (M := M_X12_edgeBehind) (ci := 15) (C := RX12) (T := TX12) (Nf := 135) (ty := tyX12) cl15 dX12_edgeBehind_1 ly_277 87 (by decide) t_2478 rfl ?_
  refine z_iload_n (M := M_X12_edgeBehind) dX12_edgeBehind_4 rfl ?_
  obtain ⟨x_1, x_1_e, hi_2, H⟩ := rd_e H
  refine z_iald (M := M_X12_edgeBehind) dX12_edgeBehind_5 ly_327 rfl rfl rfl hi_2 x_1_e ?_
  refine z_istore_n (M := M_X12_edgeBehind) (lv' := [some (vr 277), some (vi e_0), some (vi x_1), none, none, none, none, none, none, none, none, none, none, none, none, none, none, none]) dX12_edgeBehind_6 (Nat.le_of_ble_eq_true rfl) rfl rfl ?_
  refine z_aload_n (M := M_X12_edgeBehind) dX12_edgeBehind_7 rfl ?_
  refine z_getR (M := M_X12_edgeBehind) (ci := 15) (C := RX12) (T := TX12) (Nf := 135) (ty := tyX12) cl15 dX12_edgeBehind_8 ly_277 67 (by decide) t_2458 rfl ?_
  refine z_aload_n (M := M_X12_edgeBehind) dX12_edgeBehind_11 rfl ?_
  refine z_getR (M := M_X12_edgeBehind) (ci := 15) (C := RX12) (T := TX12) (Nf := 135) (ty := tyX12) cl15 dX12_edgeBehind_12 ly_277 86 (by decide) t_2477 rfl ?_
  refine z_iload_n (M := M_X12_edgeBehind) dX12_edgeBehind_15 rfl ?_
  obtain ⟨x_3, x_3_e, hi_4, H⟩ := rd_e H
  refine z_iald (M := M_X12_edgeBehind) dX12_edgeBehind_16 ly_326 rfl rfl rfl hi_4 x_3_e ?_
  obtain ⟨x_5, x_5_e, hi_6, H⟩ := rd_e H
  refine z_lald (M := M_X12_edgeBehind) dX12_edgeBehind_17 ly_317 rfl rfl rfl hi_6 x_5_e ?_
  refine z_aload_n (M := M_X12_edgeBehind) dX12_edgeBehind_18 rfl ?_
  refine z_getR (M := M_X12_edgeBehind) (ci := 15) (C := RX12) (T := TX12) (Nf := 135) (ty := tyX12) cl15 dX12_edgeBehind_19 ly_277 67 (by decide) t_2458 rfl ?_
  refine z_iload_n (M := M_X12_edgeBehind) dX12_edgeBehind_22 rfl ?_
  obtain ⟨x_7, x_7_e, hi_8, H⟩ := rd_e H
  refine z_lald (M := M_X12_edgeBehind) dX12_edgeBehind_23 ly_317 rfl rfl rfl hi_8 x_7_e ?_
  refine z_lsub (M := M_X12_edgeBehind) dX12_edgeBehind_24 ?_
  refine z_lstore_n (M := M_X12_edgeBehind) (lv' := [some (vr 277), some (vi e_0), some (vi x_1), some (vl (x_5 - x_7)), none, none, none, none, none, none, none, none, none, none, none, none, none, none]) dX12_edgeBehind_25 (Nat.le_of_ble_eq_true rfl) rfl rfl ?_
  refine z_aload_n (M := M_X12_edgeBehind) dX12_edgeBehind_26 rfl ?_
  refine z_getR (M := M_X12_edgeBehind) (ci := 15) (C := RX12) (T := TX12) (Nf := 135) (ty := tyX12) cl15 dX12_edgeBehind_27 ly_277 68 (by decide) t_2459 rfl ?_
  refine z_aload_n (M := M_X12_edgeBehind) dX12_edgeBehind_30 rfl ?_
  refine z_getR (M := M_X12_edgeBehind) (ci := 15) (C := RX12) (T := TX12) (Nf := 135) (ty := tyX12) cl15 dX12_edgeBehind_31 ly_277 86 (by decide) t_2477 rfl ?_
  refine z_iload_n (M := M_X12_edgeBehind) dX12_edgeBehind_34 rfl ?_
  obtain ⟨x_9, x_9_e, hi_10, H⟩ := rd_e H
  refine z_iald (M := M_X12_edgeBehind) dX12_edgeBehind_35 ly_326 rfl rfl rfl hi_10 x_9_e ?_
  obtain ⟨x_11, x_11_e, hi_12, H⟩ := rd_e H
  refine z_lald (M := M_X12_edgeBehind) dX12_edgeBehind_36 ly_318 rfl rfl rfl hi_12 x_11_e ?_
  refine z_aload_n (M := M_X12_edgeBehind) dX12_edgeBehind_37 rfl ?_
  refine z_getR (M := M_X12_edgeBehind) (ci := 15) (C := RX12) (T := TX12) (Nf := 135) (ty := tyX12) cl15 dX12_edgeBehind_38 ly_277 68 (by decide) t_2459 rfl ?_
  refine z_iload_n (M := M_X12_edgeBehind) dX12_edgeBehind_41 rfl ?_
  obtain ⟨x_13, x_13_e, hi_14, H⟩ := rd_e H
  refine z_lald (M := M_X12_edgeBehind) dX12_edgeBehind_42 ly_318 rfl rfl rfl hi_14 x_13_e ?_
  refine z_lsub (M := M_X12_edgeBehind) dX12_edgeBehind_43 ?_
  refine z_lstore (M := M_X12_edgeBehind) (lv' := [some (vr 277), some (vi e_0), some (vi x_1), some (vl (x_5 - x_7)), none, some (vl (x_11 - x_13)), none, none, none, none, none, none, none, none, none, none, none, none]) dX12_edgeBehind_44 (Nat.le_of_ble_eq_true rfl) rfl rfl ?_
  refine z_iconst (M := M_X12_edgeBehind) dX12_edgeBehind_46 ?_
  refine z_istore (M := M_X12_edgeBehind) (lv' := [some (vr 277), some (vi e_0), some (vi x_1), some (vl (x_5 - x_7)), none, some (vl (x_11 - x_13)), none, some (vi (-1)), none, none, none, none, none, none, none, none, none, none]) dX12_edgeBehind_47 (Nat.le_of_ble_eq_true rfl) rfl rfl ?_
  refine z_lconst (M := M_X12_edgeBehind) (m := 0) dX12_edgeBehind_49 (by decide +kernel) ?_
  refine z_lstore (M := M_X12_edgeBehind) (lv' := [some (vr 277), some (vi e_0), some (vi x_1), some (vl (x_5 - x_7)), none, some (vl (x_11 - x_13)), none, some (vi (-1)), some (vl 0), none, none, none, none, none, none, none, none, none]) dX12_edgeBehind_50 (Nat.le_of_ble_eq_true rfl) rfl rfl ?_
  refine z_lconst (M := M_X12_edgeBehind) (m := 0) dX12_edgeBehind_52 (by decide +kernel) ?_
  refine z_lstore (M := M_X12_edgeBehind) (lv' := [some (vr 277), some (vi e_0), some (vi x_1), some (vl (x_5 - x_7)), none, some (vl (x_11 - x_13)), none, some (vi (-1)), some (vl 0), none, some (vl 0), none, none, none, none, none, none, none]) dX12_edgeBehind_53 (Nat.le_of_ble_eq_true rfl) rfl rfl ?_
  refine z_iconst (M := M_X12_edgeBehind) dX12_edgeBehind_55 ?_
  refine z_istore (M := M_X12_edgeBehind) (lv' := [some (vr 277), some (vi e_0), some (vi x_1), some (vl (x_5 - x_7)), none, some (vl (x_11 - x_13)), none, some (vi (-1)), some (vl 0), none, some (vl 0), none, some (vi 0), none, none, none, none, none]) dX12_edgeBehind_56 (Nat.le_of_ble_eq_true rfl) rfl rfl ?_
  obtain ⟨rl_22, hw_19, hk_20⟩ := bd_e H
  have J_124 : ∀ best_120 vx_121 vy_122 k_123, rl_22 = (best_120, vx_121, vy_122, k_123) → YY l E M_X12_edgeBehind 3 0 0 (pS (some (vi r)) σ) 204 [some (vr 277), some (vi e_0), some (vi x_1), some (vl (x_5 - x_7)), none, some (vl (x_11 - x_13)), none, some (vi best_120), some (vl vx_121), none, some (vl vy_122), none, some (vi k_123), none, none, none, none, none] [] σ 0 0 := by
    intro best_120 vx_121 vy_122 k_123 e
    have H := hk_20
    rw [e] at H
    refine z_iload (M := M_X12_edgeBehind) dX12_edgeBehind_204 rfl ?_
    cases H
    exact z_iret (M := M_X12_edgeBehind) dX12_edgeBehind_206 rfl (Nat.le_of_ble_eq_true rfl) (Nat.le_of_ble_eq_true rfl) ⟨rfl, rfl⟩
  refine whl_go hw_19 (fun (best_15, vx_16, vy_17, k_18) => YY l E M_X12_edgeBehind 3 0 0 (pS (some (vi r)) σ) 58 [some (vr 277), some (vi e_0), some (vi x_1), some (vl (x_5 - x_7)), none, some (vl (x_11 - x_13)), none, some (vi best_15), some (vl vx_16), none, some (vl vy_17), none, some (vi k_18), none, none, none, none, none] [] σ 0 0) ?_
  rintro ⟨best_15, vx_16, vy_17, k_18⟩ o_23 H K_24 K_25
  refine z_iload (M := M_X12_edgeBehind) dX12_edgeBehind_58 rfl ?_
  refine z_aload_n (M := M_X12_edgeBehind) dX12_edgeBehind_60 rfl ?_
  refine z_getI (M := M_X12_edgeBehind) (ci := 15) (C := RX12) (T := TX12) (Nf := 135) (ty := tyX12) cl15 dX12_edgeBehind_61 ly_277 89 (by decide) t_2480 rfl rfl ?_
  rcases if_e H with ⟨h_26, H⟩ | ⟨h_26, H⟩
  · refine z_icmp_ge_f (M := M_X12_edgeBehind) (tgt := 204) dX12_edgeBehind_64 (by decide) rfl rfl h_26 ?_
    obtain ⟨v_114, he_115, hk_116⟩ := bd_e H
    have J_117 : v_114 = true → YY l E M_X12_edgeBehind 3 0 0 (pS (some (vi r)) σ) 198 [some (vr 277), some (vi e_0), some (vi x_1), some (vl (x_5 - x_7)), none, some (vl (x_11 - x_13)), none, some (vi best_15), some (vl vx_16), none, some (vl vy_17), none, some (vi k_18), none, none, none, none, none] [] σ 0 0 := by
      intro e
      have H := hk_116
      rw [e] at H
      rcases if_e H with ⟨_, H⟩ | ⟨q, H⟩
      · refine z_iinc (M := M_X12_edgeBehind) (lv' := [some (vr 277), some (vi e_0), some (vi x_1), some (vl (x_5 - x_7)), none, some (vl (x_11 - x_13)), none, some (vi best_15), some (vl vx_16), none, some (vl vy_17), none, some (vi (k_18 + 1)), none, none, none, none, none]) dX12_edgeBehind_198 rfl (Nat.le_of_ble_eq_true rfl) rfl rfl ?_
        refine z_goto (M := M_X12_edgeBehind) (tgt := 58) dX12_edgeBehind_201 (by decide) ?_
        exact K_24 _ (Option.some.inj H).symm
      · exact absurd rfl q
    have J_118 : v_114 = false → YY l E M_X12_edgeBehind 3 0 0 (pS (some (vi r)) σ) 98 [some (vr 277), some (vi e_0), some (vi x_1), some (vl (x_5 - x_7)), none, some (vl (x_11 - x_13)), none, some (vi best_15), some (vl vx_16), none, some (vl vy_17), none, some (vi k_18), none, none, none, none, none] [] σ 0 0 := by
      intro e
      have H := hk_116
      rw [e] at H
      rcases if_e H with ⟨q, H⟩ | ⟨_, H⟩
      · exact nomatch q
      · obtain ⟨v_110, he_111, hk_112⟩ := bd_e H
        have J_113 : ∀ x_92, v_110 = x_92 → YY l E M_X12_edgeBehind 3 0 0 (pS (some (vi r)) σ) 126 [some (vr 277), some (vi e_0), some (vi x_1), some (vl (x_5 - x_7)), none, some (vl (x_11 - x_13)), none, some (vi best_15), some (vl vx_16), none, some (vl vy_17), none, some (vi k_18), none, none, none, none, none] [vi x_92] σ 0 0 := by
          intro x_92 e
          have H := hk_112
          rw [e] at H
          refine z_istore (M := M_X12_edgeBehind) (lv' := [some (vr 277), some (vi e_0), some (vi x_1), some (vl (x_5 - x_7)), none, some (vl (x_11 - x_13)), none, some (vi best_15), some (vl vx_16), none, some (vl vy_17), none, some (vi k_18), some (vi x_92), none, none, none, none]) dX12_edgeBehind_126 (Nat.le_of_ble_eq_true rfl) rfl rfl ?_
          refine z_aload_n (M := M_X12_edgeBehind) dX12_edgeBehind_128 rfl ?_
          refine z_getR (M := M_X12_edgeBehind) (ci := 15) (C := RX12) (T := TX12) (Nf := 135) (ty := tyX12) cl15 dX12_edgeBehind_129 ly_277 67 (by decide) t_2458 rfl ?_
          refine z_iload (M := M_X12_edgeBehind) dX12_edgeBehind_132 rfl ?_
          obtain ⟨x_93, x_93_e, hi_94, H⟩ := rd_e H
          refine z_lald (M := M_X12_edgeBehind) dX12_edgeBehind_134 ly_317 rfl rfl rfl hi_94 x_93_e ?_
          refine z_aload_n (M := M_X12_edgeBehind) dX12_edgeBehind_135 rfl ?_
          refine z_getR (M := M_X12_edgeBehind) (ci := 15) (C := RX12) (T := TX12) (Nf := 135) (ty := tyX12) cl15 dX12_edgeBehind_136 ly_277 67 (by decide) t_2458 rfl ?_
          refine z_iload_n (M := M_X12_edgeBehind) dX12_edgeBehind_139 rfl ?_
          obtain ⟨x_95, x_95_e, hi_96, H⟩ := rd_e H
          refine z_lald (M := M_X12_edgeBehind) dX12_edgeBehind_140 ly_317 rfl rfl rfl hi_96 x_95_e ?_
          refine z_lsub (M := M_X12_edgeBehind) dX12_edgeBehind_141 ?_
          refine z_lstore (M := M_X12_edgeBehind) (lv' := [some (vr 277), some (vi e_0), some (vi x_1), some (vl (x_5 - x_7)), none, some (vl (x_11 - x_13)), none, some (vi best_15), some (vl vx_16), none, some (vl vy_17), none, some (vi k_18), some (vi x_92), some (vl (x_93 - x_95)), none, none, none]) dX12_edgeBehind_142 (Nat.le_of_ble_eq_true rfl) rfl rfl ?_
          refine z_aload_n (M := M_X12_edgeBehind) dX12_edgeBehind_144 rfl ?_
          refine z_getR (M := M_X12_edgeBehind) (ci := 15) (C := RX12) (T := TX12) (Nf := 135) (ty := tyX12) cl15 dX12_edgeBehind_145 ly_277 68 (by decide) t_2459 rfl ?_
          refine z_iload (M := M_X12_edgeBehind) dX12_edgeBehind_148 rfl ?_
          obtain ⟨x_97, x_97_e, hi_98, H⟩ := rd_e H
          refine z_lald (M := M_X12_edgeBehind) dX12_edgeBehind_150 ly_318 rfl rfl rfl hi_98 x_97_e ?_
          refine z_aload_n (M := M_X12_edgeBehind) dX12_edgeBehind_151 rfl ?_
          refine z_getR (M := M_X12_edgeBehind) (ci := 15) (C := RX12) (T := TX12) (Nf := 135) (ty := tyX12) cl15 dX12_edgeBehind_152 ly_277 68 (by decide) t_2459 rfl ?_
          refine z_iload_n (M := M_X12_edgeBehind) dX12_edgeBehind_155 rfl ?_
          obtain ⟨x_99, x_99_e, hi_100, H⟩ := rd_e H
          refine z_lald (M := M_X12_edgeBehind) dX12_edgeBehind_156 ly_318 rfl rfl rfl hi_100 x_99_e ?_
          refine z_lsub (M := M_X12_edgeBehind) dX12_edgeBehind_157 ?_
          refine z_lstore (M := M_X12_edgeBehind) (lv' := [some (vr 277), some (vi e_0), some (vi x_1), some (vl (x_5 - x_7)), none, some (vl (x_11 - x_13)), none, some (vi best_15), some (vl vx_16), none, some (vl vy_17), none, some (vi k_18), some (vi x_92), some (vl (x_93 - x_95)), none, some (vl (x_97 - x_99)), none]) dX12_edgeBehind_158 (Nat.le_of_ble_eq_true rfl) rfl rfl ?_
          rcases if_e H with ⟨h_103, H⟩ | ⟨h_103, H⟩
          · have J_104 : YY l E M_X12_edgeBehind 3 0 0 (pS (some (vi r)) σ) 183 [some (vr 277), some (vi e_0), some (vi x_1), some (vl (x_5 - x_7)), none, some (vl (x_11 - x_13)), none, some (vi best_15), some (vl vx_16), none, some (vl vy_17), none, some (vi k_18), some (vi x_92), some (vl (x_93 - x_95)), none, some (vl (x_97 - x_99)), none] [] σ 0 0 := by
              refine z_goto (M := M_X12_edgeBehind) (tgt := 198) dX12_edgeBehind_183 (by decide) ?_
              refine z_iinc (M := M_X12_edgeBehind) (lv' := [some (vr 277), some (vi e_0), some (vi x_1), some (vl (x_5 - x_7)), none, some (vl (x_11 - x_13)), none, some (vi best_15), some (vl vx_16), none, some (vl vy_17), none, some (vi (k_18 + 1)), some (vi x_92), some (vl (x_93 - x_95)), none, some (vl (x_97 - x_99)), none]) dX12_edgeBehind_198 rfl (Nat.le_of_ble_eq_true rfl) rfl rfl ?_
              refine z_goto (M := M_X12_edgeBehind) (tgt := 58) dX12_edgeBehind_201 (by decide) ?_
              refine z_le (lv' := [some (vr 277), some (vi e_0), some (vi x_1), some (vl (x_5 - x_7)), none, some (vl (x_11 - x_13)), none, some (vi best_15), some (vl vx_16), none, some (vl vy_17), none, some (vi (k_18 + 1)), none, none, none, none, none]) ⟨Or.inr rfl, Or.inr rfl, Or.inr rfl, Or.inr rfl, Or.inl rfl, Or.inr rfl, Or.inl rfl, Or.inr rfl, Or.inr rfl, Or.inl rfl, Or.inr rfl, Or.inl rfl, Or.inr rfl, Or.inl rfl, Or.inl rfl, Or.inl rfl, Or.inl rfl, Or.inl rfl, trivial⟩ ?_
              exact K_24 _ (Option.some.inj H).symm
            refine z_iload (M := M_X12_edgeBehind) dX12_edgeBehind_160 rfl ?_
            refine z_iconst (M := M_X12_edgeBehind) dX12_edgeBehind_162 ?_
            by_cases h_106 : ¬ (w32 best_15) = (-1)
            · refine z_icmp_eq_f (M := M_X12_edgeBehind) (tgt := 186) dX12_edgeBehind_163 (by decide) rfl (by decide +kernel) h_106 ?_
              refine z_lload_n (M := M_X12_edgeBehind) dX12_edgeBehind_166 rfl ?_
              refine z_lload (M := M_X12_edgeBehind) dX12_edgeBehind_167 rfl ?_
              refine z_lload (M := M_X12_edgeBehind) dX12_edgeBehind_169 rfl ?_
              refine z_lload (M := M_X12_edgeBehind) dX12_edgeBehind_171 rfl ?_
              refine z_lload (M := M_X12_edgeBehind) dX12_edgeBehind_173 rfl ?_
              refine z_lload (M := M_X12_edgeBehind) dX12_edgeBehind_175 rfl ?_
              refine z_callS (M := M_X12_edgeBehind) (M' := M_X12_isAhead) (as := [vl (x_5 - x_7), vl (x_11 - x_13), vl (x_93 - x_95), vl (x_97 - x_99), vl vx_16, vl vy_17]) (rest := []) rfl rfl dX12_edgeBehind_177 m_X12_isAhead t_3451 t_3452 (c_X12_isAhead hl  rfl) rfl rfl (Nat.le_of_ble_eq_true rfl) (Nat.le_of_ble_eq_true rfl) (Nat.le_of_ble_eq_true rfl) (Nat.le_of_ble_eq_true rfl) ?_
              refine z_st (st' := [zv (fR_isAhead (x_5 - x_7) (x_11 - x_13) (x_93 - x_95) (x_97 - x_99) vx_16 vy_17)]) rfl ?_
              by_cases h_107 : (fR_isAhead (x_5 - x_7) (x_11 - x_13) (x_93 - x_95) (x_97 - x_99) vx_16 vy_17) = true
              · refine z_zne_t (M := M_X12_edgeBehind) (tgt := 186) dX12_edgeBehind_180 (by decide) h_107 ?_
                exact absurd h_103 (fun q => (not_not_intro h_107) q.2)
              · refine z_zne_f (M := M_X12_edgeBehind) (tgt := 186) dX12_edgeBehind_180 (by decide) h_107 ?_
                exact J_104
            · refine z_icmp_eq_t (M := M_X12_edgeBehind) (tgt := 186) dX12_edgeBehind_163 (by decide) rfl (by decide +kernel) (Decidable.not_not.mp h_106) ?_
              exact absurd h_103 (fun q => h_106 q.1)
          · have J_105 : YY l E M_X12_edgeBehind 3 0 0 (pS (some (vi r)) σ) 186 [some (vr 277), some (vi e_0), some (vi x_1), some (vl (x_5 - x_7)), none, some (vl (x_11 - x_13)), none, some (vi best_15), some (vl vx_16), none, some (vl vy_17), none, some (vi k_18), some (vi x_92), some (vl (x_93 - x_95)), none, some (vl (x_97 - x_99)), none] [] σ 0 0 := by
              refine z_iload (M := M_X12_edgeBehind) dX12_edgeBehind_186 rfl ?_
              refine z_istore (M := M_X12_edgeBehind) (lv' := [some (vr 277), some (vi e_0), some (vi x_1), some (vl (x_5 - x_7)), none, some (vl (x_11 - x_13)), none, some (vi k_18), some (vl vx_16), none, some (vl vy_17), none, some (vi k_18), some (vi x_92), some (vl (x_93 - x_95)), none, some (vl (x_97 - x_99)), none]) dX12_edgeBehind_188 (Nat.le_of_ble_eq_true rfl) rfl rfl ?_
              refine z_lload (M := M_X12_edgeBehind) dX12_edgeBehind_190 rfl ?_
              refine z_lstore (M := M_X12_edgeBehind) (lv' := [some (vr 277), some (vi e_0), some (vi x_1), some (vl (x_5 - x_7)), none, some (vl (x_11 - x_13)), none, some (vi k_18), some (vl (x_93 - x_95)), none, some (vl vy_17), none, some (vi k_18), some (vi x_92), some (vl (x_93 - x_95)), none, some (vl (x_97 - x_99)), none]) dX12_edgeBehind_192 (Nat.le_of_ble_eq_true rfl) rfl rfl ?_
              refine z_lload (M := M_X12_edgeBehind) dX12_edgeBehind_194 rfl ?_
              refine z_lstore (M := M_X12_edgeBehind) (lv' := [some (vr 277), some (vi e_0), some (vi x_1), some (vl (x_5 - x_7)), none, some (vl (x_11 - x_13)), none, some (vi k_18), some (vl (x_93 - x_95)), none, some (vl (x_97 - x_99)), none, some (vi k_18), some (vi x_92), some (vl (x_93 - x_95)), none, some (vl (x_97 - x_99)), none]) dX12_edgeBehind_196 (Nat.le_of_ble_eq_true rfl) rfl rfl ?_
              refine z_iinc (M := M_X12_edgeBehind) (lv' := [some (vr 277), some (vi e_0), some (vi x_1), some (vl (x_5 - x_7)), none, some (vl (x_11 - x_13)), none, some (vi k_18), some (vl (x_93 - x_95)), none, some (vl (x_97 - x_99)), none, some (vi (k_18 + 1)), some (vi x_92), some (vl (x_93 - x_95)), none, some (vl (x_97 - x_99)), none]) dX12_edgeBehind_198 rfl (Nat.le_of_ble_eq_true rfl) rfl rfl ?_
              refine z_goto (M := M_X12_edgeBehind) (tgt := 58) dX12_edgeBehind_201 (by decide) ?_
              refine z_le (lv' := [some (vr 277), some (vi e_0), some (vi x_1), some (vl (x_5 - x_7)), none, some (vl (x_11 - x_13)), none, some (vi k_18), some (vl (x_93 - x_95)), none, some (vl (x_97 - x_99)), none, some (vi (k_18 + 1)), none, none, none, none, none]) ⟨Or.inr rfl, Or.inr rfl, Or.inr rfl, Or.inr rfl, Or.inl rfl, Or.inr rfl, Or.inl rfl, Or.inr rfl, Or.inr rfl, Or.inl rfl, Or.inr rfl, Or.inl rfl, Or.inr rfl, Or.inl rfl, Or.inl rfl, Or.inl rfl, Or.inl rfl, Or.inl rfl, trivial⟩ ?_
              exact K_24 _ (Option.some.inj H).symm
            refine z_iload (M := M_X12_edgeBehind) dX12_edgeBehind_160 rfl ?_
            refine z_iconst (M := M_X12_edgeBehind) dX12_edgeBehind_162 ?_
            by_cases h_108 : ¬ (w32 best_15) = (-1)
            · refine z_icmp_eq_f (M := M_X12_edgeBehind) (tgt := 186) dX12_edgeBehind_163 (by decide) rfl (by decide +kernel) h_108 ?_
              refine z_lload_n (M := M_X12_edgeBehind) dX12_edgeBehind_166 rfl ?_
              refine z_lload (M := M_X12_edgeBehind) dX12_edgeBehind_167 rfl ?_
              refine z_lload (M := M_X12_edgeBehind) dX12_edgeBehind_169 rfl ?_
              refine z_lload (M := M_X12_edgeBehind) dX12_edgeBehind_171 rfl ?_
              refine z_lload (M := M_X12_edgeBehind) dX12_edgeBehind_173 rfl ?_
              refine z_lload (M := M_X12_edgeBehind) dX12_edgeBehind_175 rfl ?_
              refine z_callS (M := M_X12_edgeBehind) (M' := M_X12_isAhead) (as := [vl (x_5 - x_7), vl (x_11 - x_13), vl (x_93 - x_95), vl (x_97 - x_99), vl vx_16, vl vy_17]) (rest := []) rfl rfl dX12_edgeBehind_177 m_X12_isAhead t_3451 t_3452 (c_X12_isAhead hl  rfl) rfl rfl (Nat.le_of_ble_eq_true rfl) (Nat.le_of_ble_eq_true rfl) (Nat.le_of_ble_eq_true rfl) (Nat.le_of_ble_eq_true rfl) ?_
              refine z_st (st' := [zv (fR_isAhead (x_5 - x_7) (x_11 - x_13) (x_93 - x_95) (x_97 - x_99) vx_16 vy_17)]) rfl ?_
              by_cases h_109 : (fR_isAhead (x_5 - x_7) (x_11 - x_13) (x_93 - x_95) (x_97 - x_99) vx_16 vy_17) = true
              · refine z_zne_t (M := M_X12_edgeBehind) (tgt := 186) dX12_edgeBehind_180 (by decide) h_109 ?_
                exact J_105
              · refine z_zne_f (M := M_X12_edgeBehind) (tgt := 186) dX12_edgeBehind_180 (by decide) h_109 ?_
                exact absurd ⟨h_108, h_109⟩ h_103
            · refine z_icmp_eq_t (M := M_X12_edgeBehind) (tgt := 186) dX12_edgeBehind_163 (by decide) rfl (by decide +kernel) (Decidable.not_not.mp h_108) ?_
              exact J_105
        have H := he_111
        refine z_aload_n (M := M_X12_edgeBehind) dX12_edgeBehind_98 rfl ?_
        refine z_getR (M := M_X12_edgeBehind) (ci := 15) (C := RX12) (T := TX12) (Nf := 135) (ty := tyX12) cl15 dX12_edgeBehind_99 ly_277 86 (by decide) t_2477 rfl ?_
        refine z_iload (M := M_X12_edgeBehind) dX12_edgeBehind_102 rfl ?_
        obtain ⟨x_83, x_83_e, hi_84, H⟩ := rd_e H
        refine z_iald (M := M_X12_edgeBehind) dX12_edgeBehind_104 ly_326 rfl rfl rfl hi_84 x_83_e ?_
        refine z_iload_n (M := M_X12_edgeBehind) dX12_edgeBehind_105 rfl ?_
        rcases if_e H with ⟨h_85, H⟩ | ⟨h_85, H⟩
        · refine z_icmp_ne_f (M := M_X12_edgeBehind) (tgt := 119) dX12_edgeBehind_106 (by decide) rfl rfl h_85 ?_
          refine z_aload_n (M := M_X12_edgeBehind) dX12_edgeBehind_109 rfl ?_
          refine z_getR (M := M_X12_edgeBehind) (ci := 15) (C := RX12) (T := TX12) (Nf := 135) (ty := tyX12) cl15 dX12_edgeBehind_110 ly_277 87 (by decide) t_2478 rfl ?_
          refine z_iload (M := M_X12_edgeBehind) dX12_edgeBehind_113 rfl ?_
          obtain ⟨x_86, x_86_e, hi_87, H⟩ := rd_e H
          refine z_iald (M := M_X12_edgeBehind) dX12_edgeBehind_115 ly_327 rfl rfl rfl hi_87 x_86_e ?_
          refine z_goto (M := M_X12_edgeBehind) (tgt := 126) dX12_edgeBehind_116 (by decide) ?_
          exact J_113 _ (Option.some.inj H).symm
        · refine z_icmp_ne_t (M := M_X12_edgeBehind) (tgt := 119) dX12_edgeBehind_106 (by decide) rfl rfl h_85 ?_
          refine z_aload_n (M := M_X12_edgeBehind) dX12_edgeBehind_119 rfl ?_
          refine z_getR (M := M_X12_edgeBehind) (ci := 15) (C := RX12) (T := TX12) (Nf := 135) (ty := tyX12) cl15 dX12_edgeBehind_120 ly_277 86 (by decide) t_2477 rfl ?_
          refine z_iload (M := M_X12_edgeBehind) dX12_edgeBehind_123 rfl ?_
          obtain ⟨x_89, x_89_e, hi_90, H⟩ := rd_e H
          refine z_iald (M := M_X12_edgeBehind) dX12_edgeBehind_125 ly_326 rfl rfl rfl hi_90 x_89_e ?_
          exact J_113 _ (Option.some.inj H).symm
    have H := he_115
    refine z_iload (M := M_X12_edgeBehind) dX12_edgeBehind_67 rfl ?_
    refine z_iload_n (M := M_X12_edgeBehind) dX12_edgeBehind_69 rfl ?_
    rcases if_e H with ⟨h_70, H⟩ | ⟨h_70, H⟩
    · refine z_icmp_eq_t (M := M_X12_edgeBehind) (tgt := 198) dX12_edgeBehind_70 (by decide) rfl rfl h_70 ?_
      exact J_117 (Option.some.inj H).symm
    · refine z_icmp_eq_f (M := M_X12_edgeBehind) (tgt := 198) dX12_edgeBehind_70 (by decide) rfl rfl h_70 ?_
      refine z_aload_n (M := M_X12_edgeBehind) dX12_edgeBehind_73 rfl ?_
      refine z_getR (M := M_X12_edgeBehind) (ci := 15) (C := RX12) (T := TX12) (Nf := 135) (ty := tyX12) cl15 dX12_edgeBehind_74 ly_277 86 (by decide) t_2477 rfl ?_
      refine z_iload (M := M_X12_edgeBehind) dX12_edgeBehind_77 rfl ?_
      obtain ⟨x_72, x_72_e, hi_73, H⟩ := rd_e H
      refine z_iald (M := M_X12_edgeBehind) dX12_edgeBehind_79 ly_326 rfl rfl rfl hi_73 x_72_e ?_
      refine z_iload_n (M := M_X12_edgeBehind) dX12_edgeBehind_80 rfl ?_
      rcases if_e H with ⟨h_74, H⟩ | ⟨h_74, H⟩
      · refine z_icmp_eq_f (M := M_X12_edgeBehind) (tgt := 98) dX12_edgeBehind_81 (by decide) rfl rfl h_74 ?_
        refine z_aload_n (M := M_X12_edgeBehind) dX12_edgeBehind_84 rfl ?_
        refine z_getR (M := M_X12_edgeBehind) (ci := 15) (C := RX12) (T := TX12) (Nf := 135) (ty := tyX12) cl15 dX12_edgeBehind_85 ly_277 87 (by decide) t_2478 rfl ?_
        refine z_iload (M := M_X12_edgeBehind) dX12_edgeBehind_88 rfl ?_
        obtain ⟨x_75, x_75_e, hi_76, H⟩ := rd_e H
        refine z_iald (M := M_X12_edgeBehind) dX12_edgeBehind_90 ly_327 rfl rfl rfl hi_76 x_75_e ?_
        refine z_iload_n (M := M_X12_edgeBehind) dX12_edgeBehind_91 rfl ?_
        rcases if_e H with ⟨h_77, H⟩ | ⟨h_77, H⟩
        · refine z_icmp_eq_f (M := M_X12_edgeBehind) (tgt := 98) dX12_edgeBehind_92 (by decide) rfl rfl h_77 ?_
          refine z_goto (M := M_X12_edgeBehind) (tgt := 198) dX12_edgeBehind_95 (by decide) ?_
          exact J_117 (Option.some.inj H).symm
        · refine z_icmp_eq_t (M := M_X12_edgeBehind) (tgt := 98) dX12_edgeBehind_92 (by decide) rfl rfl (Decidable.not_not.mp h_77) ?_
          exact J_118 (Option.some.inj H).symm
      · refine z_icmp_eq_t (M := M_X12_edgeBehind) (tgt := 98) dX12_edgeBehind_81 (by decide) rfl rfl (Decidable.not_not.mp h_74) ?_
        exact J_118 (Option.some.inj H).symm
  · refine z_icmp_ge_t (M := M_X12_edgeBehind) (tgt := 204) dX12_edgeBehind_64 (by decide) rfl rfl (Int.not_lt.mp h_26) ?_
    exact J_124 _ _ _ _ (K_25 _ (Option.some.inj H).symm).symm
theorem c_X12_isStraight (hl : l.stackTraces = false) {σ : SG} {a_0 : Int} {b_0 : Int} {c_0 : Int} {r : Bool}  (H : fR_isStraight σ a_0 b_0 c_0 = some r) : en_S l E M_X12_isStraight 3 0 0 [vr 277, vi a_0, vi b_0, vi c_0] σ (pS (some (zv r)) σ) := by
  unfold fR_isStraight at H
  refine z_mk (lv := [some (vr 277), some (vi a_0), some (vi b_0), some (vi c_0)]) m_X12_isStraight rfl hl (Nat.le_of_ble_eq_true rfl) rfl ?_
  obtain ⟨v_17, he_18, hk_19⟩ := bd_e H
  have J_20 : ∀ x_16, v_17 = x_16 → YY l E M_X12_isStraight 3 0 0 (pS (some (zv r)) σ) 47 [some (vr 277), some (vi a_0), some (vi b_0), some (vi c_0)] [zv x_16] σ 0 0 := by
    intro x_16 e
    have H := hk_19
    rw [e] at H
    cases H
    exact z_zret (M := M_X12_isStraight) dX12_isStraight_47 rfl (Nat.le_of_ble_eq_true rfl) (Nat.le_of_ble_eq_true rfl) ⟨rfl, rfl⟩
  have H := he_18
  refine z_aload_n (M := M_X12_isStraight) dX12_isStraight_0 rfl ?_
  refine z_getR (M := M_X12_isStraight) (ci := 15) (C := RX12) (T := TX12) (Nf := 135) (ty := tyX12) cl15 dX12_isStraight_1 ly_277 67 (by decide) t_2458 rfl ?_
  refine z_iload_n (M := M_X12_isStraight) dX12_isStraight_4 rfl ?_
  obtain ⟨x_1, x_1_e, hi_2, H⟩ := rd_e H
  refine z_lald (M := M_X12_isStraight) dX12_isStraight_5 ly_317 rfl rfl rfl hi_2 x_1_e ?_
  refine z_aload_n (M := M_X12_isStraight) dX12_isStraight_6 rfl ?_
  refine z_getR (M := M_X12_isStraight) (ci := 15) (C := RX12) (T := TX12) (Nf := 135) (ty := tyX12) cl15 dX12_isStraight_7 ly_277 68 (by decide) t_2459 rfl ?_
  refine z_iload_n (M := M_X12_isStraight) dX12_isStraight_10 rfl ?_
  obtain ⟨x_3, x_3_e, hi_4, H⟩ := rd_e H
  refine z_lald (M := M_X12_isStraight) dX12_isStraight_11 ly_318 rfl rfl rfl hi_4 x_3_e ?_
  refine z_aload_n (M := M_X12_isStraight) dX12_isStraight_12 rfl ?_
  refine z_getR (M := M_X12_isStraight) (ci := 15) (C := RX12) (T := TX12) (Nf := 135) (ty := tyX12) cl15 dX12_isStraight_13 ly_277 67 (by decide) t_2458 rfl ?_
  refine z_iload_n (M := M_X12_isStraight) dX12_isStraight_16 rfl ?_
  obtain ⟨x_5, x_5_e, hi_6, H⟩ := rd_e H
  refine z_lald (M := M_X12_isStraight) dX12_isStraight_17 ly_317 rfl rfl rfl hi_6 x_5_e ?_
  refine z_aload_n (M := M_X12_isStraight) dX12_isStraight_18 rfl ?_
  refine z_getR (M := M_X12_isStraight) (ci := 15) (C := RX12) (T := TX12) (Nf := 135) (ty := tyX12) cl15 dX12_isStraight_19 ly_277 68 (by decide) t_2459 rfl ?_
  refine z_iload_n (M := M_X12_isStraight) dX12_isStraight_22 rfl ?_
  obtain ⟨x_7, x_7_e, hi_8, H⟩ := rd_e H
  refine z_lald (M := M_X12_isStraight) dX12_isStraight_23 ly_318 rfl rfl rfl hi_8 x_7_e ?_
  refine z_aload_n (M := M_X12_isStraight) dX12_isStraight_24 rfl ?_
  refine z_getR (M := M_X12_isStraight) (ci := 15) (C := RX12) (T := TX12) (Nf := 135) (ty := tyX12) cl15 dX12_isStraight_25 ly_277 67 (by decide) t_2458 rfl ?_
  refine z_iload_n (M := M_X12_isStraight) dX12_isStraight_28 rfl ?_
  obtain ⟨x_9, x_9_e, hi_10, H⟩ := rd_e H
  refine z_lald (M := M_X12_isStraight) dX12_isStraight_29 ly_317 rfl rfl rfl hi_10 x_9_e ?_
  refine z_aload_n (M := M_X12_isStraight) dX12_isStraight_30 rfl ?_
  refine z_getR (M := M_X12_isStraight) (ci := 15) (C := RX12) (T := TX12) (Nf := 135) (ty := tyX12) cl15 dX12_isStraight_31 ly_277 68 (by decide) t_2459 rfl ?_
  refine z_iload_n (M := M_X12_isStraight) dX12_isStraight_34 rfl ?_
  obtain ⟨x_11, x_11_e, hi_12, H⟩ := rd_e H
  refine z_lald (M := M_X12_isStraight) dX12_isStraight_35 ly_318 rfl rfl rfl hi_12 x_11_e ?_
  refine z_callS (M := M_X12_isStraight) (M' := M_X12_turn) (as := [vl x_1, vl x_3, vl x_5, vl x_7, vl x_9, vl x_11]) (rest := []) rfl rfl dX12_isStraight_36 m_X12_turn t_3262 t_3263 (c_X12_turn hl  rfl) rfl rfl (Nat.le_of_ble_eq_true rfl) (Nat.le_of_ble_eq_true rfl) (Nat.le_of_ble_eq_true rfl) (Nat.le_of_ble_eq_true rfl) ?_
  refine z_st (st' := [vi (fR_turn x_1 x_3 x_5 x_7 x_9 x_11)]) rfl ?_
  rcases if_e H with ⟨h_13, H⟩ | ⟨h_13, H⟩
  · refine z_if_ne_f (M := M_X12_isStraight) (tgt := 46) dX12_isStraight_39 (by decide) rfl h_13 ?_
    refine z_zconst (M := M_X12_isStraight) (b := true) dX12_isStraight_42 rfl ?_
    refine z_goto (M := M_X12_isStraight) (tgt := 47) dX12_isStraight_43 (by decide) ?_
    exact J_20 _ (Option.some.inj H).symm
  · refine z_if_ne_t (M := M_X12_isStraight) (tgt := 46) dX12_isStraight_39 (by decide) rfl h_13 ?_
    refine z_zconst (M := M_X12_isStraight) (b := false) dX12_isStraight_46 rfl ?_
    exact J_20 _ (Option.some.inj H).symm
theorem c_X12_ring (hl : l.stackTraces = false) {σ : SG} {from_0 : Int} {σ' : SG}  (H : fR_ring σ from_0 = some σ') : en_S l E M_X12_ring 4 0 0 [vr 277, vi from_0] σ (pS (none) σ') := by
  unfold fR_ring at H
  refine z_mk (lv := [some (vr 277), some (vi from_0), none, none, none, none, none, none, none, none]) m_X12_ring rfl hl (Nat.le_of_ble_eq_true rfl) rfl ?_
  refine z_aload_n (M := M_X12_ring) dX12_ring_0 rfl ?_
  refine z_getI (M := M_X12_ring) (ci := 15) (C := RX12) (T := TX12) (Nf := 135) (ty := tyX12) cl15 dX12_ring_1 ly_277 91 (by decide) t_2482 rfl rfl ?_
  refine z_iload_n (M := M_X12_ring) dX12_ring_4 rfl ?_
  refine z_isub (M := M_X12_ring) dX12_ring_5 ?_
  refine z_istore_n (M := M_X12_ring) (lv' := [some (vr 277), some (vi from_0), some (vi ((σ kR_wayMany 0) - from_0)), none, none, none, none, none, none, none]) dX12_ring_6 (Nat.le_of_ble_eq_true rfl) rfl rfl ?_
  refine z_iload_n (M := M_X12_ring) dX12_ring_7 rfl ?_
  refine z_istore_n (M := M_X12_ring) (lv' := [some (vr 277), some (vi from_0), some (vi ((σ kR_wayMany 0) - from_0)), some (vi from_0), none, none, none, none, none, none]) dX12_ring_8 (Nat.le_of_ble_eq_true rfl) rfl rfl ?_
  refine z_iload_n (M := M_X12_ring) dX12_ring_9 rfl ?_
  refine z_istore (M := M_X12_ring) (lv' := [some (vr 277), some (vi from_0), some (vi ((σ kR_wayMany 0) - from_0)), some (vi from_0), some (vi from_0), none, none, none, none, none]) dX12_ring_10 (Nat.le_of_ble_eq_true rfl) rfl rfl ?_
  obtain ⟨rl_6, hw_3, hk_4⟩ := bd_e H
  have J_90 : ∀ first_25 k_26, rl_6 = (first_25, k_26) → YY l E M_X12_ring 4 0 0 (pS (none) σ') 50 [some (vr 277), some (vi from_0), some (vi ((σ kR_wayMany 0) - from_0)), some (vi first_25), some (vi k_26), none, none, none, none, none] [] σ 0 0 := by
    intro first_25 k_26 e
    have H := hk_4
    rw [e] at H
    refine z_aload_n (M := M_X12_ring) dX12_ring_50 rfl ?_
    refine z_getR (M := M_X12_ring) (ci := 15) (C := RX12) (T := TX12) (Nf := 135) (ty := tyX12) cl15 dX12_ring_51 ly_277 95 (by decide) t_2486 rfl ?_
    refine z_aload_n (M := M_X12_ring) dX12_ring_54 rfl ?_
    refine z_getI (M := M_X12_ring) (ci := 15) (C := RX12) (T := TX12) (Nf := 135) (ty := tyX12) cl15 dX12_ring_55 ly_277 99 (by decide) t_2490 rfl rfl ?_
    refine z_aload_n (M := M_X12_ring) dX12_ring_58 rfl ?_
    refine z_getI (M := M_X12_ring) (ci := 15) (C := RX12) (T := TX12) (Nf := 135) (ty := tyX12) cl15 dX12_ring_59 ly_277 94 (by decide) t_2485 rfl rfl ?_
    obtain ⟨σ_27, σ_27_e, hi_28, H⟩ := wa_e H
    refine z_iast (M := M_X12_ring) dX12_ring_62 ly_332 rfl rfl rfl hi_28 σ_27_e ?_
    refine z_lconst (M := M_X12_ring) (m := 0) dX12_ring_63 (by decide +kernel) ?_
    refine z_lstore (M := M_X12_ring) (lv' := [some (vr 277), some (vi from_0), some (vi ((σ kR_wayMany 0) - from_0)), some (vi first_25), some (vl 0), none, none, none, none, none]) dX12_ring_64 (Nat.le_of_ble_eq_true rfl) rfl rfl ?_
    refine z_iconst (M := M_X12_ring) dX12_ring_66 ?_
    refine z_istore (M := M_X12_ring) (lv' := [some (vr 277), some (vi from_0), some (vi ((σ kR_wayMany 0) - from_0)), some (vi first_25), some (vl 0), none, some (vi 0), none, none, none]) dX12_ring_67 (Nat.le_of_ble_eq_true rfl) rfl rfl ?_
    obtain ⟨rl_35, hw_32, hk_33⟩ := bd_e H
    have J_89 : ∀ area_79 k_80 σ_81, rl_35 = (area_79, k_80, σ_81) → YY l E M_X12_ring 4 0 0 (pS (none) σ') 232 [some (vr 277), some (vi from_0), some (vi ((σ kR_wayMany 0) - from_0)), some (vi first_25), some (vl area_79), none, some (vi k_80), none, none, none] [] σ_81 0 0 := by
      intro area_79 k_80 σ_81 e
      have H := hk_33
      rw [e] at H
      refine z_aload_n (M := M_X12_ring) dX12_ring_232 rfl ?_
      refine z_getR (M := M_X12_ring) (ci := 15) (C := RX12) (T := TX12) (Nf := 135) (ty := tyX12) cl15 dX12_ring_233 ly_277 96 (by decide) t_2487 rfl ?_
      refine z_aload_n (M := M_X12_ring) dX12_ring_236 rfl ?_
      refine z_getI (M := M_X12_ring) (ci := 15) (C := RX12) (T := TX12) (Nf := 135) (ty := tyX12) cl15 dX12_ring_237 ly_277 99 (by decide) t_2490 rfl rfl ?_
      refine z_aload_n (M := M_X12_ring) dX12_ring_240 rfl ?_
      refine z_getI (M := M_X12_ring) (ci := 15) (C := RX12) (T := TX12) (Nf := 135) (ty := tyX12) cl15 dX12_ring_241 ly_277 94 (by decide) t_2485 rfl rfl ?_
      refine z_aload_n (M := M_X12_ring) dX12_ring_244 rfl ?_
      refine z_getR (M := M_X12_ring) (ci := 15) (C := RX12) (T := TX12) (Nf := 135) (ty := tyX12) cl15 dX12_ring_245 ly_277 95 (by decide) t_2486 rfl ?_
      refine z_aload_n (M := M_X12_ring) dX12_ring_248 rfl ?_
      refine z_getI (M := M_X12_ring) (ci := 15) (C := RX12) (T := TX12) (Nf := 135) (ty := tyX12) cl15 dX12_ring_249 ly_277 99 (by decide) t_2490 rfl rfl ?_
      obtain ⟨x_82, x_82_e, hi_83, H⟩ := rd_e H
      refine z_iald (M := M_X12_ring) dX12_ring_252 ly_332 rfl rfl rfl hi_83 x_82_e ?_
      refine z_isub (M := M_X12_ring) dX12_ring_253 ?_
      obtain ⟨σ_84, σ_84_e, hi_85, H⟩ := wa_e H
      refine z_iast (M := M_X12_ring) dX12_ring_254 ly_333 rfl rfl rfl hi_85 σ_84_e ?_
      refine z_aload_n (M := M_X12_ring) dX12_ring_255 rfl ?_
      refine z_getR (M := M_X12_ring) (ci := 15) (C := RX12) (T := TX12) (Nf := 135) (ty := tyX12) cl15 dX12_ring_256 ly_277 97 (by decide) t_2488 rfl ?_
      refine z_aload_n (M := M_X12_ring) dX12_ring_259 rfl ?_
      refine z_getI (M := M_X12_ring) (ci := 15) (C := RX12) (T := TX12) (Nf := 135) (ty := tyX12) cl15 dX12_ring_260 ly_277 99 (by decide) t_2490 rfl rfl ?_
      refine z_lload (M := M_X12_ring) dX12_ring_263 rfl ?_
      obtain ⟨σ_86, σ_86_e, hi_87, H⟩ := wa_e H
      refine z_last (M := M_X12_ring) dX12_ring_265 ly_334 rfl rfl rfl hi_87 σ_86_e ?_
      refine z_aload_n (M := M_X12_ring) dX12_ring_266 rfl ?_
      refine z_dup (M := M_X12_ring) dX12_ring_267 rfl ?_
      refine z_getI (M := M_X12_ring) (ci := 15) (C := RX12) (T := TX12) (Nf := 135) (ty := tyX12) cl15 dX12_ring_268 ly_277 99 (by decide) t_2490 rfl rfl ?_
      refine z_iconst (M := M_X12_ring) dX12_ring_271 ?_
      refine z_iadd (M := M_X12_ring) dX12_ring_272 ?_
      obtain ⟨σ_88, σ_88_e, H⟩ := wf_e H
      refine z_putI (M := M_X12_ring) (ci := 15) (C := RX12) (T := TX12) (Nf := 135) (ty := tyX12) cl15 dX12_ring_273 ly_277 99 (by decide) t_2490 rfl rfl rfl rfl σ_88_e ?_
      cases H
      exact z_vret (M := M_X12_ring) dX12_ring_276 rfl (Nat.le_of_ble_eq_true rfl) (Nat.le_of_ble_eq_true rfl) ⟨rfl, rfl⟩
    refine whl_go hw_32 (fun (area_29, k_30, σ_31) => YY l E M_X12_ring 4 0 0 (pS (none) σ') 69 [some (vr 277), some (vi from_0), some (vi ((σ kR_wayMany 0) - from_0)), some (vi first_25), some (vl area_29), none, some (vi k_30), none, none, none] [] σ_31 0 0) ?_
    rintro ⟨area_29, k_30, σ_31⟩ o_36 H K_37 K_38
    refine z_iload (M := M_X12_ring) dX12_ring_69 rfl ?_
    refine z_iload_n (M := M_X12_ring) dX12_ring_71 rfl ?_
    rcases if_e H with ⟨h_39, H⟩ | ⟨h_39, H⟩
    · refine z_icmp_ge_f (M := M_X12_ring) (tgt := 232) dX12_ring_72 (by decide) rfl rfl h_39 ?_
      refine z_iload_n (M := M_X12_ring) dX12_ring_75 rfl ?_
      refine z_iload_n (M := M_X12_ring) dX12_ring_76 rfl ?_
      refine z_iload_n (M := M_X12_ring) dX12_ring_77 rfl ?_
      refine z_isub (M := M_X12_ring) dX12_ring_78 ?_
      refine z_iload (M := M_X12_ring) dX12_ring_79 rfl ?_
      refine z_iadd (M := M_X12_ring) dX12_ring_81 ?_
      refine z_iload_n (M := M_X12_ring) dX12_ring_82 rfl ?_
      obtain ⟨hd_40, H⟩ := ck_e H
      refine z_irem (M := M_X12_ring) dX12_ring_83 hd_40 ?_
      refine z_iadd (M := M_X12_ring) dX12_ring_84 ?_
      obtain ⟨x_41, x_41_e, H⟩ := lt_e H
      refine z_st (congrArg (fun z => vi z :: []) x_41_e) ?_
      refine z_istore (M := M_X12_ring) (lv' := [some (vr 277), some (vi from_0), some (vi ((σ kR_wayMany 0) - from_0)), some (vi first_25), some (vl area_29), none, some (vi k_30), some (vi x_41), none, none]) dX12_ring_85 (Nat.le_of_ble_eq_true rfl) rfl rfl ?_
      refine z_iload_n (M := M_X12_ring) dX12_ring_87 rfl ?_
      refine z_iload (M := M_X12_ring) dX12_ring_88 rfl ?_
      refine z_iload_n (M := M_X12_ring) dX12_ring_90 rfl ?_
      refine z_isub (M := M_X12_ring) dX12_ring_91 ?_
      refine z_iload_n (M := M_X12_ring) dX12_ring_92 rfl ?_
      refine z_iadd (M := M_X12_ring) dX12_ring_93 ?_
      refine z_iconst (M := M_X12_ring) dX12_ring_94 ?_
      refine z_isub (M := M_X12_ring) dX12_ring_95 ?_
      refine z_iload_n (M := M_X12_ring) dX12_ring_96 rfl ?_
      obtain ⟨hd_42, H⟩ := ck_e H
      refine z_irem (M := M_X12_ring) dX12_ring_97 hd_42 ?_
      refine z_iadd (M := M_X12_ring) dX12_ring_98 ?_
      obtain ⟨x_43, x_43_e, H⟩ := lt_e H
      refine z_st (congrArg (fun z => vi z :: []) x_43_e) ?_
      refine z_istore (M := M_X12_ring) (lv' := [some (vr 277), some (vi from_0), some (vi ((σ kR_wayMany 0) - from_0)), some (vi first_25), some (vl area_29), none, some (vi k_30), some (vi x_41), some (vi x_43), none]) dX12_ring_99 (Nat.le_of_ble_eq_true rfl) rfl rfl ?_
      refine z_iload_n (M := M_X12_ring) dX12_ring_101 rfl ?_
      refine z_iload (M := M_X12_ring) dX12_ring_102 rfl ?_
      refine z_iload_n (M := M_X12_ring) dX12_ring_104 rfl ?_
      refine z_isub (M := M_X12_ring) dX12_ring_105 ?_
      refine z_iconst (M := M_X12_ring) dX12_ring_106 ?_
      refine z_iadd (M := M_X12_ring) dX12_ring_107 ?_
      refine z_iload_n (M := M_X12_ring) dX12_ring_108 rfl ?_
      obtain ⟨hd_44, H⟩ := ck_e H
      refine z_irem (M := M_X12_ring) dX12_ring_109 hd_44 ?_
      refine z_iadd (M := M_X12_ring) dX12_ring_110 ?_
      obtain ⟨x_45, x_45_e, H⟩ := lt_e H
      refine z_st (congrArg (fun z => vi z :: []) x_45_e) ?_
      refine z_istore (M := M_X12_ring) (lv' := [some (vr 277), some (vi from_0), some (vi ((σ kR_wayMany 0) - from_0)), some (vi first_25), some (vl area_29), none, some (vi k_30), some (vi x_41), some (vi x_43), some (vi x_45)]) dX12_ring_111 (Nat.le_of_ble_eq_true rfl) rfl rfl ?_
      refine z_lload (M := M_X12_ring) dX12_ring_113 rfl ?_
      refine z_aload_n (M := M_X12_ring) dX12_ring_115 rfl ?_
      refine z_getR (M := M_X12_ring) (ci := 15) (C := RX12) (T := TX12) (Nf := 135) (ty := tyX12) cl15 dX12_ring_116 ly_277 67 (by decide) t_2458 rfl ?_
      refine z_aload_n (M := M_X12_ring) dX12_ring_119 rfl ?_
      refine z_getR (M := M_X12_ring) (ci := 15) (C := RX12) (T := TX12) (Nf := 135) (ty := tyX12) cl15 dX12_ring_120 ly_277 90 (by decide) t_2481 rfl ?_
      refine z_iload (M := M_X12_ring) dX12_ring_123 rfl ?_
      obtain ⟨x_46, x_46_e, hi_47, H⟩ := rd_e H
      refine z_iald (M := M_X12_ring) dX12_ring_125 ly_329 rfl rfl rfl hi_47 x_46_e ?_
      obtain ⟨x_48, x_48_e, hi_49, H⟩ := rd_e H
      refine z_lald (M := M_X12_ring) dX12_ring_126 ly_317 rfl rfl rfl hi_49 x_48_e ?_
      refine z_aload_n (M := M_X12_ring) dX12_ring_127 rfl ?_
      refine z_getR (M := M_X12_ring) (ci := 15) (C := RX12) (T := TX12) (Nf := 135) (ty := tyX12) cl15 dX12_ring_128 ly_277 68 (by decide) t_2459 rfl ?_
      refine z_aload_n (M := M_X12_ring) dX12_ring_131 rfl ?_
      refine z_getR (M := M_X12_ring) (ci := 15) (C := RX12) (T := TX12) (Nf := 135) (ty := tyX12) cl15 dX12_ring_132 ly_277 90 (by decide) t_2481 rfl ?_
      refine z_iload (M := M_X12_ring) dX12_ring_135 rfl ?_
      obtain ⟨x_50, x_50_e, hi_51, H⟩ := rd_e H
      refine z_iald (M := M_X12_ring) dX12_ring_137 ly_329 rfl rfl rfl hi_51 x_50_e ?_
      obtain ⟨x_52, x_52_e, hi_53, H⟩ := rd_e H
      refine z_lald (M := M_X12_ring) dX12_ring_138 ly_318 rfl rfl rfl hi_53 x_52_e ?_
      refine z_aload_n (M := M_X12_ring) dX12_ring_139 rfl ?_
      refine z_getR (M := M_X12_ring) (ci := 15) (C := RX12) (T := TX12) (Nf := 135) (ty := tyX12) cl15 dX12_ring_140 ly_277 67 (by decide) t_2458 rfl ?_
      refine z_aload_n (M := M_X12_ring) dX12_ring_143 rfl ?_
      refine z_getR (M := M_X12_ring) (ci := 15) (C := RX12) (T := TX12) (Nf := 135) (ty := tyX12) cl15 dX12_ring_144 ly_277 90 (by decide) t_2481 rfl ?_
      refine z_iload (M := M_X12_ring) dX12_ring_147 rfl ?_
      obtain ⟨x_54, x_54_e, hi_55, H⟩ := rd_e H
      refine z_iald (M := M_X12_ring) dX12_ring_149 ly_329 rfl rfl rfl hi_55 x_54_e ?_
      obtain ⟨x_56, x_56_e, hi_57, H⟩ := rd_e H
      refine z_lald (M := M_X12_ring) dX12_ring_150 ly_317 rfl rfl rfl hi_57 x_56_e ?_
      refine z_aload_n (M := M_X12_ring) dX12_ring_151 rfl ?_
      refine z_getR (M := M_X12_ring) (ci := 15) (C := RX12) (T := TX12) (Nf := 135) (ty := tyX12) cl15 dX12_ring_152 ly_277 68 (by decide) t_2459 rfl ?_
      refine z_aload_n (M := M_X12_ring) dX12_ring_155 rfl ?_
      refine z_getR (M := M_X12_ring) (ci := 15) (C := RX12) (T := TX12) (Nf := 135) (ty := tyX12) cl15 dX12_ring_156 ly_277 90 (by decide) t_2481 rfl ?_
      refine z_iload (M := M_X12_ring) dX12_ring_159 rfl ?_
      obtain ⟨x_58, x_58_e, hi_59, H⟩ := rd_e H
      refine z_iald (M := M_X12_ring) dX12_ring_161 ly_329 rfl rfl rfl hi_59 x_58_e ?_
      obtain ⟨x_60, x_60_e, hi_61, H⟩ := rd_e H
      refine z_lald (M := M_X12_ring) dX12_ring_162 ly_318 rfl rfl rfl hi_61 x_60_e ?_
      refine z_callS (M := M_X12_ring) (M' := M_X12_cross) (as := [vl x_48, vl x_52, vl x_56, vl x_60]) (rest := [vl area_29]) rfl rfl dX12_ring_163 m_X12_cross t_3265 t_3266 (c_X12_cross hl  rfl) rfl rfl (Nat.le_of_ble_eq_true rfl) (Nat.le_of_ble_eq_true rfl) (Nat.le_of_ble_eq_true rfl) (Nat.le_of_ble_eq_true rfl) ?_
      refine z_st (st' := [vl (fR_cross x_48 x_52 x_56 x_60), vl area_29]) rfl ?_
      refine z_ladd (M := M_X12_ring) dX12_ring_166 ?_
      refine z_lstore (M := M_X12_ring) (lv' := [some (vr 277), some (vi from_0), some (vi ((σ kR_wayMany 0) - from_0)), some (vi first_25), some (vl (area_29 + (fR_cross x_48 x_52 x_56 x_60))), none, some (vi k_30), some (vi x_41), some (vi x_43), some (vi x_45)]) dX12_ring_167 (Nat.le_of_ble_eq_true rfl) rfl rfl ?_
      refine z_aload_n (M := M_X12_ring) dX12_ring_169 rfl ?_
      refine z_aload_n (M := M_X12_ring) dX12_ring_170 rfl ?_
      refine z_getR (M := M_X12_ring) (ci := 15) (C := RX12) (T := TX12) (Nf := 135) (ty := tyX12) cl15 dX12_ring_171 ly_277 90 (by decide) t_2481 rfl ?_
      refine z_iload (M := M_X12_ring) dX12_ring_174 rfl ?_
      obtain ⟨x_62, x_62_e, hi_63, H⟩ := rd_e H
      refine z_iald (M := M_X12_ring) dX12_ring_176 ly_329 rfl rfl rfl hi_63 x_62_e ?_
      refine z_aload_n (M := M_X12_ring) dX12_ring_177 rfl ?_
      refine z_getR (M := M_X12_ring) (ci := 15) (C := RX12) (T := TX12) (Nf := 135) (ty := tyX12) cl15 dX12_ring_178 ly_277 90 (by decide) t_2481 rfl ?_
      refine z_iload (M := M_X12_ring) dX12_ring_181 rfl ?_
      obtain ⟨x_64, x_64_e, hi_65, H⟩ := rd_e H
      refine z_iald (M := M_X12_ring) dX12_ring_183 ly_329 rfl rfl rfl hi_65 x_64_e ?_
      refine z_aload_n (M := M_X12_ring) dX12_ring_184 rfl ?_
      refine z_getR (M := M_X12_ring) (ci := 15) (C := RX12) (T := TX12) (Nf := 135) (ty := tyX12) cl15 dX12_ring_185 ly_277 90 (by decide) t_2481 rfl ?_
      refine z_iload (M := M_X12_ring) dX12_ring_188 rfl ?_
      obtain ⟨x_66, x_66_e, hi_67, H⟩ := rd_e H
      refine z_iald (M := M_X12_ring) dX12_ring_190 ly_329 rfl rfl rfl hi_67 x_66_e ?_
      obtain ⟨x_69, hc_68, H⟩ := bd_e H
      refine z_callV (M := M_X12_ring) (M' := M_X12_isStraight) (as := [vi x_62, vi x_64, vi x_66]) (rest := []) rfl rfl dX12_ring_191 m_X12_isStraight t_3443 t_3445 s_270 (c_X12_isStraight hl  hc_68) rfl rfl ly_277 rfl (Nat.le_of_ble_eq_true rfl) (Nat.le_of_ble_eq_true rfl) (Nat.le_of_ble_eq_true rfl) (Nat.le_of_ble_eq_true rfl) ?_
      refine z_st (st' := [zv x_69]) rfl ?_
      rcases if_e H with ⟨h_70, H⟩ | ⟨h_70, H⟩
      · refine z_zeq_f (M := M_X12_ring) (tgt := 200) dX12_ring_194 (by decide) h_70 ?_
        refine z_goto (M := M_X12_ring) (tgt := 226) dX12_ring_197 (by decide) ?_
        refine z_iinc (M := M_X12_ring) (lv' := [some (vr 277), some (vi from_0), some (vi ((σ kR_wayMany 0) - from_0)), some (vi first_25), some (vl (area_29 + (fR_cross x_48 x_52 x_56 x_60))), none, some (vi (k_30 + 1)), some (vi x_41), some (vi x_43), some (vi x_45)]) dX12_ring_226 rfl (Nat.le_of_ble_eq_true rfl) rfl rfl ?_
        refine z_goto (M := M_X12_ring) (tgt := 69) dX12_ring_229 (by decide) ?_
        refine z_le (lv' := [some (vr 277), some (vi from_0), some (vi ((σ kR_wayMany 0) - from_0)), some (vi first_25), some (vl (area_29 + (fR_cross x_48 x_52 x_56 x_60))), none, some (vi (k_30 + 1)), none, none, none]) ⟨Or.inr rfl, Or.inr rfl, Or.inr rfl, Or.inr rfl, Or.inr rfl, Or.inl rfl, Or.inr rfl, Or.inl rfl, Or.inl rfl, Or.inl rfl, trivial⟩ ?_
        exact K_37 _ (Option.some.inj H).symm
      · refine z_zeq_t (M := M_X12_ring) (tgt := 200) dX12_ring_194 (by decide) h_70 ?_
        refine z_aload_n (M := M_X12_ring) dX12_ring_200 rfl ?_
        refine z_getR (M := M_X12_ring) (ci := 15) (C := RX12) (T := TX12) (Nf := 135) (ty := tyX12) cl15 dX12_ring_201 ly_277 93 (by decide) t_2484 rfl ?_
        refine z_aload_n (M := M_X12_ring) dX12_ring_204 rfl ?_
        refine z_getI (M := M_X12_ring) (ci := 15) (C := RX12) (T := TX12) (Nf := 135) (ty := tyX12) cl15 dX12_ring_205 ly_277 94 (by decide) t_2485 rfl rfl ?_
        refine z_aload_n (M := M_X12_ring) dX12_ring_208 rfl ?_
        refine z_getR (M := M_X12_ring) (ci := 15) (C := RX12) (T := TX12) (Nf := 135) (ty := tyX12) cl15 dX12_ring_209 ly_277 90 (by decide) t_2481 rfl ?_
        refine z_iload (M := M_X12_ring) dX12_ring_212 rfl ?_
        obtain ⟨x_72, x_72_e, hi_73, H⟩ := rd_e H
        refine z_iald (M := M_X12_ring) dX12_ring_214 ly_329 rfl rfl rfl hi_73 x_72_e ?_
        obtain ⟨σ_74, σ_74_e, hi_75, H⟩ := wa_e H
        refine z_iast (M := M_X12_ring) dX12_ring_215 ly_331 rfl rfl rfl hi_75 σ_74_e ?_
        refine z_aload_n (M := M_X12_ring) dX12_ring_216 rfl ?_
        refine z_dup (M := M_X12_ring) dX12_ring_217 rfl ?_
        refine z_getI (M := M_X12_ring) (ci := 15) (C := RX12) (T := TX12) (Nf := 135) (ty := tyX12) cl15 dX12_ring_218 ly_277 94 (by decide) t_2485 rfl rfl ?_
        refine z_iconst (M := M_X12_ring) dX12_ring_221 ?_
        refine z_iadd (M := M_X12_ring) dX12_ring_222 ?_
        obtain ⟨σ_76, σ_76_e, H⟩ := wf_e H
        refine z_putI (M := M_X12_ring) (ci := 15) (C := RX12) (T := TX12) (Nf := 135) (ty := tyX12) cl15 dX12_ring_223 ly_277 94 (by decide) t_2485 rfl rfl rfl rfl σ_76_e ?_
        refine z_iinc (M := M_X12_ring) (lv' := [some (vr 277), some (vi from_0), some (vi ((σ kR_wayMany 0) - from_0)), some (vi first_25), some (vl (area_29 + (fR_cross x_48 x_52 x_56 x_60))), none, some (vi (k_30 + 1)), some (vi x_41), some (vi x_43), some (vi x_45)]) dX12_ring_226 rfl (Nat.le_of_ble_eq_true rfl) rfl rfl ?_
        refine z_goto (M := M_X12_ring) (tgt := 69) dX12_ring_229 (by decide) ?_
        refine z_le (lv' := [some (vr 277), some (vi from_0), some (vi ((σ kR_wayMany 0) - from_0)), some (vi first_25), some (vl (area_29 + (fR_cross x_48 x_52 x_56 x_60))), none, some (vi (k_30 + 1)), none, none, none]) ⟨Or.inr rfl, Or.inr rfl, Or.inr rfl, Or.inr rfl, Or.inr rfl, Or.inl rfl, Or.inr rfl, Or.inl rfl, Or.inl rfl, Or.inl rfl, trivial⟩ ?_
        exact K_37 _ (Option.some.inj H).symm
    · refine z_icmp_ge_t (M := M_X12_ring) (tgt := 232) dX12_ring_72 (by decide) rfl rfl (Int.not_lt.mp h_39) ?_
      exact J_89 _ _ _ (K_38 _ (Option.some.inj H).symm).symm
  refine whl_go hw_3 (fun (first_1, k_2) => YY l E M_X12_ring 4 0 0 (pS (none) σ') 12 [some (vr 277), some (vi from_0), some (vi ((σ kR_wayMany 0) - from_0)), some (vi first_1), some (vi k_2), none, none, none, none, none] [] σ 0 0) ?_
  rintro ⟨first_1, k_2⟩ o_7 H K_8 K_9
  refine z_iload (M := M_X12_ring) dX12_ring_12 rfl ?_
  refine z_aload_n (M := M_X12_ring) dX12_ring_14 rfl ?_
  refine z_getI (M := M_X12_ring) (ci := 15) (C := RX12) (T := TX12) (Nf := 135) (ty := tyX12) cl15 dX12_ring_15 ly_277 91 (by decide) t_2482 rfl rfl ?_
  rcases if_e H with ⟨h_10, H⟩ | ⟨h_10, H⟩
  · refine z_icmp_ge_f (M := M_X12_ring) (tgt := 50) dX12_ring_18 (by decide) rfl rfl h_10 ?_
    obtain ⟨v_20, he_21, hk_22⟩ := bd_e H
    have J_23 : ∀ x_18, v_20 = x_18 → YY l E M_X12_ring 4 0 0 (pS (none) σ') 43 [some (vr 277), some (vi from_0), some (vi ((σ kR_wayMany 0) - from_0)), some (vi first_1), some (vi k_2), none, none, none, none, none] [vi x_18] σ 0 0 := by
      intro x_18 e
      have H := hk_22
      rw [e] at H
      refine z_istore_n (M := M_X12_ring) (lv' := [some (vr 277), some (vi from_0), some (vi ((σ kR_wayMany 0) - from_0)), some (vi x_18), some (vi k_2), none, none, none, none, none]) dX12_ring_43 (Nat.le_of_ble_eq_true rfl) rfl rfl ?_
      refine z_iinc (M := M_X12_ring) (lv' := [some (vr 277), some (vi from_0), some (vi ((σ kR_wayMany 0) - from_0)), some (vi x_18), some (vi (k_2 + 1)), none, none, none, none, none]) dX12_ring_44 rfl (Nat.le_of_ble_eq_true rfl) rfl rfl ?_
      refine z_goto (M := M_X12_ring) (tgt := 12) dX12_ring_47 (by decide) ?_
      exact K_8 _ (Option.some.inj H).symm
    have H := he_21
    refine z_aload_n (M := M_X12_ring) dX12_ring_21 rfl ?_
    refine z_getR (M := M_X12_ring) (ci := 15) (C := RX12) (T := TX12) (Nf := 135) (ty := tyX12) cl15 dX12_ring_22 ly_277 90 (by decide) t_2481 rfl ?_
    refine z_iload (M := M_X12_ring) dX12_ring_25 rfl ?_
    obtain ⟨x_11, x_11_e, hi_12, H⟩ := rd_e H
    refine z_iald (M := M_X12_ring) dX12_ring_27 ly_329 rfl rfl rfl hi_12 x_11_e ?_
    refine z_aload_n (M := M_X12_ring) dX12_ring_28 rfl ?_
    refine z_getR (M := M_X12_ring) (ci := 15) (C := RX12) (T := TX12) (Nf := 135) (ty := tyX12) cl15 dX12_ring_29 ly_277 90 (by decide) t_2481 rfl ?_
    refine z_iload_n (M := M_X12_ring) dX12_ring_32 rfl ?_
    obtain ⟨x_13, x_13_e, hi_14, H⟩ := rd_e H
    refine z_iald (M := M_X12_ring) dX12_ring_33 ly_329 rfl rfl rfl hi_14 x_13_e ?_
    rcases if_e H with ⟨h_15, H⟩ | ⟨h_15, H⟩
    · refine z_icmp_ge_f (M := M_X12_ring) (tgt := 42) dX12_ring_34 (by decide) rfl rfl h_15 ?_
      refine z_iload (M := M_X12_ring) dX12_ring_37 rfl ?_
      refine z_goto (M := M_X12_ring) (tgt := 43) dX12_ring_39 (by decide) ?_
      exact J_23 _ (Option.some.inj H).symm
    · refine z_icmp_ge_t (M := M_X12_ring) (tgt := 42) dX12_ring_34 (by decide) rfl rfl (Int.not_lt.mp h_15) ?_
      refine z_iload_n (M := M_X12_ring) dX12_ring_42 rfl ?_
      exact J_23 _ (Option.some.inj H).symm
  · refine z_icmp_ge_t (M := M_X12_ring) (tgt := 50) dX12_ring_18 (by decide) rfl rfl (Int.not_lt.mp h_10) ?_
    exact J_90 _ _ (K_9 _ (Option.some.inj H).symm).symm
theorem c_X12_comes (hl : l.stackTraces = false) {σ : SG} {at0_0 : Int} {σ' : SG}  (H : fR_comes σ at0_0 = some σ') : en_S l E M_X12_comes 5 0 0 [vr 277, vi at0_0] σ (pS (none) σ') := by
  unfold fR_comes at H
  refine z_mk (lv := [some (vr 277), some (vi at0_0), none]) m_X12_comes rfl hl (Nat.le_of_ble_eq_true rfl) rfl ?_
  refine z_aload_n (M := M_X12_comes) dX12_comes_0 rfl ?_
  refine z_getR (M := M_X12_comes) (ci := 15) (C := RX12) (T := TX12) (Nf := 135) (ty := tyX12) cl15 dX12_comes_1 ly_277 92 (by decide) t_2483 rfl ?_
  refine z_iload_n (M := M_X12_comes) dX12_comes_4 rfl ?_
  obtain ⟨x_1, x_1_e, hi_2, H⟩ := rd_e H
  refine z_iald (M := M_X12_comes) dX12_comes_5 ly_330 rfl rfl rfl hi_2 x_1_e ?_
  refine z_istore_n (M := M_X12_comes) (lv' := [some (vr 277), some (vi at0_0), some (vi x_1)]) dX12_comes_6 (Nat.le_of_ble_eq_true rfl) rfl rfl ?_
  refine z_iload_n (M := M_X12_comes) dX12_comes_7 rfl ?_
  refine z_iconst (M := M_X12_comes) dX12_comes_8 ?_
  rcases if_e H with ⟨h_3, H⟩ | ⟨h_3, H⟩
  · refine z_icmp_ne_f (M := M_X12_comes) (tgt := 43) dX12_comes_9 (by decide) rfl (by decide +kernel) h_3 ?_
    refine z_aload_n (M := M_X12_comes) dX12_comes_12 rfl ?_
    refine z_getR (M := M_X12_comes) (ci := 15) (C := RX12) (T := TX12) (Nf := 135) (ty := tyX12) cl15 dX12_comes_13 ly_277 92 (by decide) t_2483 rfl ?_
    refine z_iload_n (M := M_X12_comes) dX12_comes_16 rfl ?_
    refine z_aload_n (M := M_X12_comes) dX12_comes_17 rfl ?_
    refine z_getI (M := M_X12_comes) (ci := 15) (C := RX12) (T := TX12) (Nf := 135) (ty := tyX12) cl15 dX12_comes_18 ly_277 91 (by decide) t_2482 rfl rfl ?_
    obtain ⟨σ_4, σ_4_e, hi_5, H⟩ := wa_e H
    refine z_iast (M := M_X12_comes) dX12_comes_21 ly_330 rfl rfl rfl hi_5 σ_4_e ?_
    refine z_aload_n (M := M_X12_comes) dX12_comes_22 rfl ?_
    refine z_getR (M := M_X12_comes) (ci := 15) (C := RX12) (T := TX12) (Nf := 135) (ty := tyX12) cl15 dX12_comes_23 ly_277 90 (by decide) t_2481 rfl ?_
    refine z_aload_n (M := M_X12_comes) dX12_comes_26 rfl ?_
    refine z_getI (M := M_X12_comes) (ci := 15) (C := RX12) (T := TX12) (Nf := 135) (ty := tyX12) cl15 dX12_comes_27 ly_277 91 (by decide) t_2482 rfl rfl ?_
    refine z_iload_n (M := M_X12_comes) dX12_comes_30 rfl ?_
    obtain ⟨σ_6, σ_6_e, hi_7, H⟩ := wa_e H
    refine z_iast (M := M_X12_comes) dX12_comes_31 ly_329 rfl rfl rfl hi_7 σ_6_e ?_
    refine z_aload_n (M := M_X12_comes) dX12_comes_32 rfl ?_
    refine z_dup (M := M_X12_comes) dX12_comes_33 rfl ?_
    refine z_getI (M := M_X12_comes) (ci := 15) (C := RX12) (T := TX12) (Nf := 135) (ty := tyX12) cl15 dX12_comes_34 ly_277 91 (by decide) t_2482 rfl rfl ?_
    refine z_iconst (M := M_X12_comes) dX12_comes_37 ?_
    refine z_iadd (M := M_X12_comes) dX12_comes_38 ?_
    obtain ⟨σ_8, σ_8_e, H⟩ := wf_e H
    refine z_putI (M := M_X12_comes) (ci := 15) (C := RX12) (T := TX12) (Nf := 135) (ty := tyX12) cl15 dX12_comes_39 ly_277 91 (by decide) t_2482 rfl rfl rfl rfl σ_8_e ?_
    cases H
    exact z_vret (M := M_X12_comes) dX12_comes_42 rfl (Nat.le_of_ble_eq_true rfl) (Nat.le_of_ble_eq_true rfl) ⟨rfl, rfl⟩
  · refine z_icmp_ne_t (M := M_X12_comes) (tgt := 43) dX12_comes_9 (by decide) rfl (by decide +kernel) h_3 ?_
    refine z_aload_n (M := M_X12_comes) dX12_comes_43 rfl ?_
    refine z_iload_n (M := M_X12_comes) dX12_comes_44 rfl ?_
    obtain ⟨σ_10, hc_9, H⟩ := bd_e H
    refine z_callV (M := M_X12_comes) (M' := M_X12_ring) (as := [vi x_1]) (rest := []) rfl rfl dX12_comes_45 m_X12_ring t_3439 t_3441 s_269 (c_X12_ring hl  hc_9) rfl rfl ly_277 rfl (Nat.le_of_ble_eq_true rfl) (Nat.le_of_ble_eq_true rfl) (Nat.le_of_ble_eq_true rfl) (Nat.le_of_ble_eq_true rfl) ?_
    refine z_st (st' := []) rfl ?_
    obtain ⟨rl_15, hw_12, hk_13⟩ := bd_e H
    have J_28 : ∀ σ_27, rl_15 = σ_27 → YY l E M_X12_comes 5 0 0 (pS (none) σ') 86 [some (vr 277), some (vi at0_0), some (vi x_1)] [] σ_27 0 0 := by
      intro σ_27 e
      have H := hk_13
      rw [e] at H
      cases H
      exact z_vret (M := M_X12_comes) dX12_comes_86 rfl (Nat.le_of_ble_eq_true rfl) (Nat.le_of_ble_eq_true rfl) ⟨rfl, rfl⟩
    refine whl_go hw_12 (fun σ_11 => YY l E M_X12_comes 5 0 0 (pS (none) σ') 48 [some (vr 277), some (vi at0_0), some (vi x_1)] [] σ_11 0 0) ?_
    rintro σ_11 o_16 H K_17 K_18
    refine z_aload_n (M := M_X12_comes) dX12_comes_48 rfl ?_
    refine z_getI (M := M_X12_comes) (ci := 15) (C := RX12) (T := TX12) (Nf := 135) (ty := tyX12) cl15 dX12_comes_49 ly_277 91 (by decide) t_2482 rfl rfl ?_
    refine z_iload_n (M := M_X12_comes) dX12_comes_52 rfl ?_
    refine z_iconst (M := M_X12_comes) dX12_comes_53 ?_
    refine z_iadd (M := M_X12_comes) dX12_comes_54 ?_
    rcases if_e H with ⟨h_19, H⟩ | ⟨h_19, H⟩
    · refine z_icmp_le_f (M := M_X12_comes) (tgt := 86) dX12_comes_55 (by decide) rfl rfl h_19 ?_
      refine z_aload_n (M := M_X12_comes) dX12_comes_58 rfl ?_
      refine z_dup (M := M_X12_comes) dX12_comes_59 rfl ?_
      refine z_getI (M := M_X12_comes) (ci := 15) (C := RX12) (T := TX12) (Nf := 135) (ty := tyX12) cl15 dX12_comes_60 ly_277 91 (by decide) t_2482 rfl rfl ?_
      refine z_iconst (M := M_X12_comes) dX12_comes_63 ?_
      refine z_isub (M := M_X12_comes) dX12_comes_64 ?_
      obtain ⟨σ_20, σ_20_e, H⟩ := wf_e H
      refine z_putI (M := M_X12_comes) (ci := 15) (C := RX12) (T := TX12) (Nf := 135) (ty := tyX12) cl15 dX12_comes_65 ly_277 91 (by decide) t_2482 rfl rfl rfl rfl σ_20_e ?_
      refine z_aload_n (M := M_X12_comes) dX12_comes_68 rfl ?_
      refine z_getR (M := M_X12_comes) (ci := 15) (C := RX12) (T := TX12) (Nf := 135) (ty := tyX12) cl15 dX12_comes_69 ly_277 92 (by decide) t_2483 rfl ?_
      refine z_aload_n (M := M_X12_comes) dX12_comes_72 rfl ?_
      refine z_getR (M := M_X12_comes) (ci := 15) (C := RX12) (T := TX12) (Nf := 135) (ty := tyX12) cl15 dX12_comes_73 ly_277 90 (by decide) t_2481 rfl ?_
      refine z_aload_n (M := M_X12_comes) dX12_comes_76 rfl ?_
      refine z_getI (M := M_X12_comes) (ci := 15) (C := RX12) (T := TX12) (Nf := 135) (ty := tyX12) cl15 dX12_comes_77 ly_277 91 (by decide) t_2482 rfl rfl ?_
      obtain ⟨x_21, x_21_e, hi_22, H⟩ := rd_e H
      refine z_iald (M := M_X12_comes) dX12_comes_80 ly_329 rfl rfl rfl hi_22 x_21_e ?_
      refine z_iconst (M := M_X12_comes) dX12_comes_81 ?_
      obtain ⟨σ_23, σ_23_e, hi_24, H⟩ := wa_e H
      refine z_iast (M := M_X12_comes) dX12_comes_82 ly_330 rfl rfl rfl hi_24 σ_23_e ?_
      refine z_goto (M := M_X12_comes) (tgt := 48) dX12_comes_83 (by decide) ?_
      exact K_17 _ (Option.some.inj H).symm
    · refine z_icmp_le_t (M := M_X12_comes) (tgt := 86) dX12_comes_55 (by decide) rfl rfl (Int.not_lt.mp h_19) ?_
      exact J_28 _ (K_18 _ (Option.some.inj H).symm).symm
theorem c_X12_goesRound (hl : l.stackTraces = false) {σ : SG} {σ' : SG}  (H : fR_goesRound σ = some σ') : en_S l E M_X12_goesRound 6 0 0 [vr 277] σ (pS (none) σ') := by
  unfold fR_goesRound at H
  refine z_mk (lv := [some (vr 277), none, none, none]) m_X12_goesRound rfl hl (Nat.le_of_ble_eq_true rfl) rfl ?_
  refine z_aload_n (M := M_X12_goesRound) dX12_goesRound_0 rfl ?_
  refine z_iconst (M := M_X12_goesRound) dX12_goesRound_1 ?_
  obtain ⟨σ_1, σ_1_e, H⟩ := wf_e H
  refine z_putI (M := M_X12_goesRound) (ci := 15) (C := RX12) (T := TX12) (Nf := 135) (ty := tyX12) cl15 dX12_goesRound_2 ly_277 94 (by decide) t_2485 rfl rfl rfl rfl σ_1_e ?_
  refine z_aload_n (M := M_X12_goesRound) dX12_goesRound_5 rfl ?_
  refine z_iconst (M := M_X12_goesRound) dX12_goesRound_6 ?_
  obtain ⟨σ_2, σ_2_e, H⟩ := wf_e H
  refine z_putI (M := M_X12_goesRound) (ci := 15) (C := RX12) (T := TX12) (Nf := 135) (ty := tyX12) cl15 dX12_goesRound_7 ly_277 99 (by decide) t_2490 rfl rfl rfl rfl σ_2_e ?_
  refine z_iconst (M := M_X12_goesRound) dX12_goesRound_10 ?_
  refine z_istore_n (M := M_X12_goesRound) (lv' := [some (vr 277), some (vi 0), none, none]) dX12_goesRound_11 (Nat.le_of_ble_eq_true rfl) rfl rfl ?_
  obtain ⟨rl_8, hw_5, hk_6⟩ := bd_e H
  have J_97 : ∀ k_17 σ_18, rl_8 = (k_17, σ_18) → YY l E M_X12_goesRound 6 0 0 (pS (none) σ') 33 [some (vr 277), some (vi k_17), none, none] [] σ_18 0 0 := by
    intro k_17 σ_18 e
    have H := hk_6
    rw [e] at H
    refine z_iconst (M := M_X12_goesRound) dX12_goesRound_33 ?_
    refine z_istore_n (M := M_X12_goesRound) (lv' := [some (vr 277), some (vi 0), none, none]) dX12_goesRound_34 (Nat.le_of_ble_eq_true rfl) rfl rfl ?_
    obtain ⟨rl_24, hw_21, hk_22⟩ := bd_e H
    have J_96 : ∀ k_94 σ_95, rl_24 = (k_94, σ_95) → YY l E M_X12_goesRound 6 0 0 (pS (none) σ') 143 [some (vr 277), some (vi k_94), none, none] [] σ_95 0 0 := by
      intro k_94 σ_95 e
      have H := hk_22
      rw [e] at H
      cases H
      exact z_vret (M := M_X12_goesRound) dX12_goesRound_143 rfl (Nat.le_of_ble_eq_true rfl) (Nat.le_of_ble_eq_true rfl) ⟨rfl, rfl⟩
    refine whl_go hw_21 (fun (k_19, σ_20) => YY l E M_X12_goesRound 6 0 0 (pS (none) σ') 35 [some (vr 277), some (vi k_19), none, none] [] σ_20 0 0) ?_
    rintro ⟨k_19, σ_20⟩ o_25 H K_26 K_27
    refine z_iload_n (M := M_X12_goesRound) dX12_goesRound_35 rfl ?_
    refine z_aload_n (M := M_X12_goesRound) dX12_goesRound_36 rfl ?_
    refine z_getI (M := M_X12_goesRound) (ci := 15) (C := RX12) (T := TX12) (Nf := 135) (ty := tyX12) cl15 dX12_goesRound_37 ly_277 89 (by decide) t_2480 rfl rfl ?_
    rcases if_e H with ⟨h_28, H⟩ | ⟨h_28, H⟩
    · refine z_icmp_ge_f (M := M_X12_goesRound) (tgt := 143) dX12_goesRound_40 (by decide) rfl rfl h_28 ?_
      refine z_aload_n (M := M_X12_goesRound) dX12_goesRound_43 rfl ?_
      refine z_getR (M := M_X12_goesRound) (ci := 15) (C := RX12) (T := TX12) (Nf := 135) (ty := tyX12) cl15 dX12_goesRound_44 ly_277 88 (by decide) t_2479 rfl ?_
      refine z_iload_n (M := M_X12_goesRound) dX12_goesRound_47 rfl ?_
      obtain ⟨x_29, x_29_e, hi_30, H⟩ := rd_e H
      refine z_zald (M := M_X12_goesRound) dX12_goesRound_48 ly_328 rfl rfl rfl hi_30 x_29_e ?_
      rcases if_e H with ⟨h_31, H⟩ | ⟨h_31, H⟩
      · refine z_zeq_f (M := M_X12_goesRound) (tgt := 55) dX12_goesRound_49 (by decide) h_31 ?_
        refine z_goto (M := M_X12_goesRound) (tgt := 137) dX12_goesRound_52 (by decide) ?_
        refine z_iinc (M := M_X12_goesRound) (lv' := [some (vr 277), some (vi (k_19 + 1)), none, none]) dX12_goesRound_137 rfl (Nat.le_of_ble_eq_true rfl) rfl rfl ?_
        refine z_goto (M := M_X12_goesRound) (tgt := 35) dX12_goesRound_140 (by decide) ?_
        exact K_26 _ (Option.some.inj H).symm
      · refine z_zeq_t (M := M_X12_goesRound) (tgt := 55) dX12_goesRound_49 (by decide) h_31 ?_
        refine z_aload_n (M := M_X12_goesRound) dX12_goesRound_55 rfl ?_
        refine z_iconst (M := M_X12_goesRound) dX12_goesRound_56 ?_
        obtain ⟨σ_33, σ_33_e, H⟩ := wf_e H
        refine z_putI (M := M_X12_goesRound) (ci := 15) (C := RX12) (T := TX12) (Nf := 135) (ty := tyX12) cl15 dX12_goesRound_57 ly_277 91 (by decide) t_2482 rfl rfl rfl rfl σ_33_e ?_
        refine z_aload_n (M := M_X12_goesRound) dX12_goesRound_60 rfl ?_
        refine z_aload_n (M := M_X12_goesRound) dX12_goesRound_61 rfl ?_
        refine z_getR (M := M_X12_goesRound) (ci := 15) (C := RX12) (T := TX12) (Nf := 135) (ty := tyX12) cl15 dX12_goesRound_62 ly_277 86 (by decide) t_2477 rfl ?_
        refine z_iload_n (M := M_X12_goesRound) dX12_goesRound_65 rfl ?_
        obtain ⟨x_34, x_34_e, hi_35, H⟩ := rd_e H
        refine z_iald (M := M_X12_goesRound) dX12_goesRound_66 ly_326 rfl rfl rfl hi_35 x_34_e ?_
        obtain ⟨σ_37, hc_36, H⟩ := bd_e H
        refine z_callV (M := M_X12_goesRound) (M' := M_X12_comes) (as := [vi x_34]) (rest := []) rfl rfl dX12_goesRound_67 m_X12_comes t_3435 t_3437 s_268 (c_X12_comes hl  hc_36) rfl rfl ly_277 rfl (Nat.le_of_ble_eq_true rfl) (Nat.le_of_ble_eq_true rfl) (Nat.le_of_ble_eq_true rfl) (Nat.le_of_ble_eq_true rfl) ?_
        refine z_st (st' := []) rfl ?_
        refine z_iload_n (M := M_X12_goesRound) dX12_goesRound_70 rfl ?_
        refine z_istore_n (M := M_X12_goesRound) (lv' := [some (vr 277), some (vi k_19), some (vi k_19), none]) dX12_goesRound_71 (Nat.le_of_ble_eq_true rfl) rfl rfl ?_
        obtain ⟨rl_43, hw_40, hk_41⟩ := bd_e H
        have J_92 : ∀ e_70 σ_71, rl_43 = (e_70, σ_71) → YY l E M_X12_goesRound 6 0 0 (pS (none) σ') 109 [some (vr 277), some (vi k_19), some (vi e_70), none] [] σ_71 0 0 := by
          intro e_70 σ_71 e
          have H := hk_41
          rw [e] at H
          refine z_iconst (M := M_X12_goesRound) dX12_goesRound_109 ?_
          refine z_istore_n (M := M_X12_goesRound) (lv' := [some (vr 277), some (vi k_19), some (vi e_70), some (vi 0)]) dX12_goesRound_110 (Nat.le_of_ble_eq_true rfl) rfl rfl ?_
          obtain ⟨rl_77, hw_74, hk_75⟩ := bd_e H
          have J_91 : ∀ i_88 σ_89, rl_77 = (i_88, σ_89) → YY l E M_X12_goesRound 6 0 0 (pS (none) σ') 137 [some (vr 277), some (vi k_19), some (vi e_70), some (vi i_88)] [] σ_89 0 0 := by
            intro i_88 σ_89 e
            have H := hk_75
            rw [e] at H
            refine z_iinc (M := M_X12_goesRound) (lv' := [some (vr 277), some (vi (k_19 + 1)), some (vi e_70), some (vi i_88)]) dX12_goesRound_137 rfl (Nat.le_of_ble_eq_true rfl) rfl rfl ?_
            refine z_goto (M := M_X12_goesRound) (tgt := 35) dX12_goesRound_140 (by decide) ?_
            refine z_le (lv' := [some (vr 277), some (vi (k_19 + 1)), none, none]) ⟨Or.inr rfl, Or.inr rfl, Or.inl rfl, Or.inl rfl, trivial⟩ ?_
            exact K_26 _ (Option.some.inj H).symm
          refine whl_go hw_74 (fun (i_72, σ_73) => YY l E M_X12_goesRound 6 0 0 (pS (none) σ') 111 [some (vr 277), some (vi k_19), some (vi e_70), some (vi i_72)] [] σ_73 0 0) ?_
          rintro ⟨i_72, σ_73⟩ o_78 H K_79 K_80
          refine z_iload_n (M := M_X12_goesRound) dX12_goesRound_111 rfl ?_
          refine z_aload_n (M := M_X12_goesRound) dX12_goesRound_112 rfl ?_
          refine z_getI (M := M_X12_goesRound) (ci := 15) (C := RX12) (T := TX12) (Nf := 135) (ty := tyX12) cl15 dX12_goesRound_113 ly_277 91 (by decide) t_2482 rfl rfl ?_
          rcases if_e H with ⟨h_81, H⟩ | ⟨h_81, H⟩
          · refine z_icmp_ge_f (M := M_X12_goesRound) (tgt := 137) dX12_goesRound_116 (by decide) rfl rfl h_81 ?_
            refine z_aload_n (M := M_X12_goesRound) dX12_goesRound_119 rfl ?_
            refine z_getR (M := M_X12_goesRound) (ci := 15) (C := RX12) (T := TX12) (Nf := 135) (ty := tyX12) cl15 dX12_goesRound_120 ly_277 92 (by decide) t_2483 rfl ?_
            refine z_aload_n (M := M_X12_goesRound) dX12_goesRound_123 rfl ?_
            refine z_getR (M := M_X12_goesRound) (ci := 15) (C := RX12) (T := TX12) (Nf := 135) (ty := tyX12) cl15 dX12_goesRound_124 ly_277 90 (by decide) t_2481 rfl ?_
            refine z_iload_n (M := M_X12_goesRound) dX12_goesRound_127 rfl ?_
            obtain ⟨x_82, x_82_e, hi_83, H⟩ := rd_e H
            refine z_iald (M := M_X12_goesRound) dX12_goesRound_128 ly_329 rfl rfl rfl hi_83 x_82_e ?_
            refine z_iconst (M := M_X12_goesRound) dX12_goesRound_129 ?_
            obtain ⟨σ_84, σ_84_e, hi_85, H⟩ := wa_e H
            refine z_iast (M := M_X12_goesRound) dX12_goesRound_130 ly_330 rfl rfl rfl hi_85 σ_84_e ?_
            refine z_iinc (M := M_X12_goesRound) (lv' := [some (vr 277), some (vi k_19), some (vi e_70), some (vi (i_72 + 1))]) dX12_goesRound_131 rfl (Nat.le_of_ble_eq_true rfl) rfl rfl ?_
            refine z_goto (M := M_X12_goesRound) (tgt := 111) dX12_goesRound_134 (by decide) ?_
            exact K_79 _ (Option.some.inj H).symm
          · refine z_icmp_ge_t (M := M_X12_goesRound) (tgt := 137) dX12_goesRound_116 (by decide) rfl rfl (Int.not_lt.mp h_81) ?_
            exact J_91 _ _ (K_80 _ (Option.some.inj H).symm).symm
        refine whl_go hw_40 (fun (e_38, σ_39) => YY l E M_X12_goesRound 6 0 0 (pS (none) σ') 72 [some (vr 277), some (vi k_19), some (vi e_38), none] [] σ_39 0 0) ?_
        rintro ⟨e_38, σ_39⟩ o_44 H K_45 K_46
        refine z_aload_n (M := M_X12_goesRound) dX12_goesRound_72 rfl ?_
        refine z_getR (M := M_X12_goesRound) (ci := 15) (C := RX12) (T := TX12) (Nf := 135) (ty := tyX12) cl15 dX12_goesRound_73 ly_277 88 (by decide) t_2479 rfl ?_
        refine z_iload_n (M := M_X12_goesRound) dX12_goesRound_76 rfl ?_
        refine z_zconst (M := M_X12_goesRound) (b := true) dX12_goesRound_77 rfl ?_
        obtain ⟨σ_47, σ_47_e, hi_48, H⟩ := wa_e H
        refine z_zast (M := M_X12_goesRound) dX12_goesRound_78 ly_328 rfl rfl rfl hi_48 σ_47_e ?_
        refine z_aload_n (M := M_X12_goesRound) dX12_goesRound_79 rfl ?_
        refine z_aload_n (M := M_X12_goesRound) dX12_goesRound_80 rfl ?_
        refine z_getR (M := M_X12_goesRound) (ci := 15) (C := RX12) (T := TX12) (Nf := 135) (ty := tyX12) cl15 dX12_goesRound_81 ly_277 87 (by decide) t_2478 rfl ?_
        refine z_iload_n (M := M_X12_goesRound) dX12_goesRound_84 rfl ?_
        obtain ⟨x_49, x_49_e, hi_50, H⟩ := rd_e H
        refine z_iald (M := M_X12_goesRound) dX12_goesRound_85 ly_327 rfl rfl rfl hi_50 x_49_e ?_
        obtain ⟨σ_52, hc_51, H⟩ := bd_e H
        refine z_callV (M := M_X12_goesRound) (M' := M_X12_comes) (as := [vi x_49]) (rest := []) rfl rfl dX12_goesRound_86 m_X12_comes t_3435 t_3437 s_268 (c_X12_comes hl  hc_51) rfl rfl ly_277 rfl (Nat.le_of_ble_eq_true rfl) (Nat.le_of_ble_eq_true rfl) (Nat.le_of_ble_eq_true rfl) (Nat.le_of_ble_eq_true rfl) ?_
        refine z_st (st' := []) rfl ?_
        refine z_aload_n (M := M_X12_goesRound) dX12_goesRound_89 rfl ?_
        refine z_iload_n (M := M_X12_goesRound) dX12_goesRound_90 rfl ?_
        obtain ⟨x_54, hc_53, H⟩ := bd_e H
        refine z_callV (M := M_X12_goesRound) (M' := M_X12_edgeBehind) (as := [vi e_38]) (rest := []) rfl rfl dX12_goesRound_91 m_X12_edgeBehind t_3447 t_3449 s_271 (c_X12_edgeBehind hl  hc_53) rfl rfl ly_277 rfl (Nat.le_of_ble_eq_true rfl) (Nat.le_of_ble_eq_true rfl) (Nat.le_of_ble_eq_true rfl) (Nat.le_of_ble_eq_true rfl) ?_
        refine z_st (st' := [vi x_54]) rfl ?_
        refine z_istore_n (M := M_X12_goesRound) (lv' := [some (vr 277), some (vi k_19), some (vi x_54), none]) dX12_goesRound_94 (Nat.le_of_ble_eq_true rfl) rfl rfl ?_
        refine z_iload_n (M := M_X12_goesRound) dX12_goesRound_95 rfl ?_
        refine z_iload_n (M := M_X12_goesRound) dX12_goesRound_96 rfl ?_
        rcases if_e H with ⟨h_63, H⟩ | ⟨h_63, H⟩
        · refine z_icmp_eq_f (M := M_X12_goesRound) (tgt := 109) dX12_goesRound_97 (by decide) rfl rfl h_63 ?_
          refine z_aload_n (M := M_X12_goesRound) dX12_goesRound_100 rfl ?_
          refine z_getR (M := M_X12_goesRound) (ci := 15) (C := RX12) (T := TX12) (Nf := 135) (ty := tyX12) cl15 dX12_goesRound_101 ly_277 88 (by decide) t_2479 rfl ?_
          refine z_iload_n (M := M_X12_goesRound) dX12_goesRound_104 rfl ?_
          obtain ⟨x_64, x_64_e, hi_65, H⟩ := rd_e H
          refine z_zald (M := M_X12_goesRound) dX12_goesRound_105 ly_328 rfl rfl rfl hi_65 x_64_e ?_
          rcases if_e H with ⟨h_66, H⟩ | ⟨h_66, H⟩
          · refine z_zeq_f (M := M_X12_goesRound) (tgt := 72) dX12_goesRound_106 (by decide) h_66 ?_
            exact J_92 _ _ (K_46 _ (Option.some.inj H).symm).symm
          · refine z_zeq_t (M := M_X12_goesRound) (tgt := 72) dX12_goesRound_106 (by decide) h_66 ?_
            exact K_45 _ (Option.some.inj H).symm
        · refine z_icmp_eq_t (M := M_X12_goesRound) (tgt := 109) dX12_goesRound_97 (by decide) rfl rfl (Decidable.not_not.mp h_63) ?_
          exact J_92 _ _ (K_46 _ (Option.some.inj H).symm).symm
    · refine z_icmp_ge_t (M := M_X12_goesRound) (tgt := 143) dX12_goesRound_40 (by decide) rfl rfl (Int.not_lt.mp h_28) ?_
      exact J_96 _ _ (K_27 _ (Option.some.inj H).symm).symm
  refine whl_go hw_5 (fun (k_3, σ_4) => YY l E M_X12_goesRound 6 0 0 (pS (none) σ') 12 [some (vr 277), some (vi k_3), none, none] [] σ_4 0 0) ?_
  rintro ⟨k_3, σ_4⟩ o_9 H K_10 K_11
  refine z_iload_n (M := M_X12_goesRound) dX12_goesRound_12 rfl ?_
  refine z_aload_n (M := M_X12_goesRound) dX12_goesRound_13 rfl ?_
  refine z_getI (M := M_X12_goesRound) (ci := 15) (C := RX12) (T := TX12) (Nf := 135) (ty := tyX12) cl15 dX12_goesRound_14 ly_277 69 (by decide) t_2460 rfl rfl ?_
  rcases if_e H with ⟨h_12, H⟩ | ⟨h_12, H⟩
  · refine z_icmp_ge_f (M := M_X12_goesRound) (tgt := 33) dX12_goesRound_17 (by decide) rfl rfl h_12 ?_
    refine z_aload_n (M := M_X12_goesRound) dX12_goesRound_20 rfl ?_
    refine z_getR (M := M_X12_goesRound) (ci := 15) (C := RX12) (T := TX12) (Nf := 135) (ty := tyX12) cl15 dX12_goesRound_21 ly_277 92 (by decide) t_2483 rfl ?_
    refine z_iload_n (M := M_X12_goesRound) dX12_goesRound_24 rfl ?_
    refine z_iconst (M := M_X12_goesRound) dX12_goesRound_25 ?_
    obtain ⟨σ_13, σ_13_e, hi_14, H⟩ := wa_e H
    refine z_iast (M := M_X12_goesRound) dX12_goesRound_26 ly_330 rfl rfl rfl hi_14 σ_13_e ?_
    refine z_iinc (M := M_X12_goesRound) (lv' := [some (vr 277), some (vi (k_3 + 1)), none, none]) dX12_goesRound_27 rfl (Nat.le_of_ble_eq_true rfl) rfl rfl ?_
    refine z_goto (M := M_X12_goesRound) (tgt := 12) dX12_goesRound_30 (by decide) ?_
    exact K_10 _ (Option.some.inj H).symm
  · refine z_icmp_ge_t (M := M_X12_goesRound) (tgt := 33) dX12_goesRound_17 (by decide) rfl rfl (Int.not_lt.mp h_12) ?_
    exact J_97 _ _ (K_11 _ (Option.some.inj H).symm).symm
theorem c_X12_whereIn (hl : l.stackTraces = false) {σ : SG} {out_0 : Int} {hot_0 : Int} {r : Int}  (H : fR_whereIn σ out_0 hot_0 = some r) : en_S l E M_X12_whereIn 3 0 0 [vr 277, vi out_0, vi hot_0] σ (pS (some (vi r)) σ) := by
  unfold fR_whereIn at H
  refine z_mk (lv := [some (vr 277), some (vi out_0), some (vi hot_0), none, none, none, none, none, none, none, none, none, none, none, none]) m_X12_whereIn rfl hl (Nat.le_of_ble_eq_true rfl) rfl ?_
  refine z_aload_n (M := M_X12_whereIn) dX12_whereIn_0 rfl ?_
  refine z_getR (M := M_X12_whereIn) (ci := 15) (C := RX12) (T := TX12) (Nf := 135) (ty := tyX12) cl15 dX12_whereIn_1 ly_277 67 (by decide) t_2458 rfl ?_
  refine z_iload_n (M := M_X12_whereIn) dX12_whereIn_4 rfl ?_
  obtain ⟨x_1, x_1_e, hi_2, H⟩ := rd_e H
  refine z_lald (M := M_X12_whereIn) dX12_whereIn_5 ly_317 rfl rfl rfl hi_2 x_1_e ?_
  refine z_lstore_n (M := M_X12_whereIn) (lv' := [some (vr 277), some (vi out_0), some (vi hot_0), some (vl x_1), none, none, none, none, none, none, none, none, none, none, none]) dX12_whereIn_6 (Nat.le_of_ble_eq_true rfl) rfl rfl ?_
  refine z_aload_n (M := M_X12_whereIn) dX12_whereIn_7 rfl ?_
  refine z_getR (M := M_X12_whereIn) (ci := 15) (C := RX12) (T := TX12) (Nf := 135) (ty := tyX12) cl15 dX12_whereIn_8 ly_277 68 (by decide) t_2459 rfl ?_
  refine z_iload_n (M := M_X12_whereIn) dX12_whereIn_11 rfl ?_
  obtain ⟨x_3, x_3_e, hi_4, H⟩ := rd_e H
  refine z_lald (M := M_X12_whereIn) dX12_whereIn_12 ly_318 rfl rfl rfl hi_4 x_3_e ?_
  refine z_lstore (M := M_X12_whereIn) (lv' := [some (vr 277), some (vi out_0), some (vi hot_0), some (vl x_1), none, some (vl x_3), none, none, none, none, none, none, none, none, none]) dX12_whereIn_13 (Nat.le_of_ble_eq_true rfl) rfl rfl ?_
  refine z_zconst (M := M_X12_whereIn) (b := false) dX12_whereIn_15 rfl ?_
  refine z_zstore (M := M_X12_whereIn) (lv' := [some (vr 277), some (vi out_0), some (vi hot_0), some (vl x_1), none, some (vl x_3), none, some (zv false), none, none, none, none, none, none, none]) dX12_whereIn_16 (Nat.le_of_ble_eq_true rfl) rfl rfl ?_
  refine z_iconst (M := M_X12_whereIn) dX12_whereIn_18 ?_
  refine z_istore (M := M_X12_whereIn) (lv' := [some (vr 277), some (vi out_0), some (vi hot_0), some (vl x_1), none, some (vl x_3), none, some (zv false), some (vi 0), none, none, none, none, none, none]) dX12_whereIn_19 (Nat.le_of_ble_eq_true rfl) rfl rfl ?_
  obtain ⟨rl_10, hw_7, hk_8, hk_9⟩ := bx_e H
  have J_204 : ∀ within_200 k_201, rl_10 = (.inl (within_200, k_201)) → YY l E M_X12_whereIn 3 0 0 (pS (some (vi r)) σ) 322 [some (vr 277), some (vi out_0), some (vi hot_0), some (vl x_1), none, some (vl x_3), none, some (zv within_200), some (vi k_201), none, none, none, none, none, none] [] σ 0 0 := by
    intro within_200 k_201 e
    have H := hk_8 _ e
    have J_202 : YY l E M_X12_whereIn 3 0 0 (pS (some (vi r)) σ) 332 [some (vr 277), some (vi out_0), some (vi hot_0), some (vl x_1), none, some (vl x_3), none, some (zv within_200), some (vi k_201), none, none, none, none, none, none] [vi (if within_200 = true then 1 else 2)] σ 0 0 := by
      cases H
      exact z_iret (M := M_X12_whereIn) dX12_whereIn_332 rfl (Nat.le_of_ble_eq_true rfl) (Nat.le_of_ble_eq_true rfl) ⟨rfl, rfl⟩
    refine z_zload (M := M_X12_whereIn) dX12_whereIn_322 rfl ?_
    by_cases h_203 : within_200 = true
    · refine z_zeq_f (M := M_X12_whereIn) (tgt := 331) dX12_whereIn_324 (by decide) h_203 ?_
      refine z_iconst (M := M_X12_whereIn) dX12_whereIn_327 ?_
      refine z_goto (M := M_X12_whereIn) (tgt := 332) dX12_whereIn_328 (by decide) ?_
      exact z_st (by rw [if_pos (c := within_200 = true) h_203]) J_202
    · refine z_zeq_t (M := M_X12_whereIn) (tgt := 331) dX12_whereIn_324 (by decide) h_203 ?_
      refine z_iconst (M := M_X12_whereIn) dX12_whereIn_331 ?_
      exact z_st (by rw [if_neg (c := within_200 = true) h_203]) J_202
  refine whl_go hw_7 (fun (within_5, k_6) => YY l E M_X12_whereIn 3 0 0 (pS (some (vi r)) σ) 21 [some (vr 277), some (vi out_0), some (vi hot_0), some (vl x_1), none, some (vl x_3), none, some (zv within_5), some (vi k_6), none, none, none, none, none, none] [] σ 0 0) ?_
  rintro ⟨within_5, k_6⟩ o_11 H K_12 K_13
  refine z_iload (M := M_X12_whereIn) dX12_whereIn_21 rfl ?_
  refine z_aload_n (M := M_X12_whereIn) dX12_whereIn_23 rfl ?_
  refine z_getR (M := M_X12_whereIn) (ci := 15) (C := RX12) (T := TX12) (Nf := 135) (ty := tyX12) cl15 dX12_whereIn_24 ly_277 96 (by decide) t_2487 rfl ?_
  refine z_iload_n (M := M_X12_whereIn) dX12_whereIn_27 rfl ?_
  obtain ⟨x_14, x_14_e, hi_15, H⟩ := rd_e H
  refine z_iald (M := M_X12_whereIn) dX12_whereIn_28 ly_333 rfl rfl rfl hi_15 x_14_e ?_
  rcases if_e H with ⟨h_16, H⟩ | ⟨h_16, H⟩
  · refine z_icmp_ge_f (M := M_X12_whereIn) (tgt := 322) dX12_whereIn_29 (by decide) rfl rfl h_16 ?_
    refine z_aload_n (M := M_X12_whereIn) dX12_whereIn_32 rfl ?_
    refine z_getR (M := M_X12_whereIn) (ci := 15) (C := RX12) (T := TX12) (Nf := 135) (ty := tyX12) cl15 dX12_whereIn_33 ly_277 93 (by decide) t_2484 rfl ?_
    refine z_aload_n (M := M_X12_whereIn) dX12_whereIn_36 rfl ?_
    refine z_getR (M := M_X12_whereIn) (ci := 15) (C := RX12) (T := TX12) (Nf := 135) (ty := tyX12) cl15 dX12_whereIn_37 ly_277 95 (by decide) t_2486 rfl ?_
    refine z_iload_n (M := M_X12_whereIn) dX12_whereIn_40 rfl ?_
    obtain ⟨x_17, x_17_e, hi_18, H⟩ := rd_e H
    refine z_iald (M := M_X12_whereIn) dX12_whereIn_41 ly_332 rfl rfl rfl hi_18 x_17_e ?_
    refine z_iload (M := M_X12_whereIn) dX12_whereIn_42 rfl ?_
    refine z_iadd (M := M_X12_whereIn) dX12_whereIn_44 ?_
    obtain ⟨x_19, x_19_e, hi_20, H⟩ := rd_e H
    refine z_iald (M := M_X12_whereIn) dX12_whereIn_45 ly_331 rfl rfl rfl hi_20 x_19_e ?_
    refine z_istore (M := M_X12_whereIn) (lv' := [some (vr 277), some (vi out_0), some (vi hot_0), some (vl x_1), none, some (vl x_3), none, some (zv within_5), some (vi k_6), some (vi x_19), none, none, none, none, none]) dX12_whereIn_46 (Nat.le_of_ble_eq_true rfl) rfl rfl ?_
    refine z_aload_n (M := M_X12_whereIn) dX12_whereIn_48 rfl ?_
    refine z_getR (M := M_X12_whereIn) (ci := 15) (C := RX12) (T := TX12) (Nf := 135) (ty := tyX12) cl15 dX12_whereIn_49 ly_277 93 (by decide) t_2484 rfl ?_
    refine z_aload_n (M := M_X12_whereIn) dX12_whereIn_52 rfl ?_
    refine z_getR (M := M_X12_whereIn) (ci := 15) (C := RX12) (T := TX12) (Nf := 135) (ty := tyX12) cl15 dX12_whereIn_53 ly_277 95 (by decide) t_2486 rfl ?_
    refine z_iload_n (M := M_X12_whereIn) dX12_whereIn_56 rfl ?_
    obtain ⟨x_21, x_21_e, hi_22, H⟩ := rd_e H
    refine z_iald (M := M_X12_whereIn) dX12_whereIn_57 ly_332 rfl rfl rfl hi_22 x_21_e ?_
    refine z_iload (M := M_X12_whereIn) dX12_whereIn_58 rfl ?_
    refine z_iconst (M := M_X12_whereIn) dX12_whereIn_60 ?_
    refine z_iadd (M := M_X12_whereIn) dX12_whereIn_61 ?_
    refine z_aload_n (M := M_X12_whereIn) dX12_whereIn_62 rfl ?_
    refine z_getR (M := M_X12_whereIn) (ci := 15) (C := RX12) (T := TX12) (Nf := 135) (ty := tyX12) cl15 dX12_whereIn_63 ly_277 96 (by decide) t_2487 rfl ?_
    refine z_iload_n (M := M_X12_whereIn) dX12_whereIn_66 rfl ?_
    obtain ⟨x_23, x_23_e, hi_24, H⟩ := rd_e H
    refine z_iald (M := M_X12_whereIn) dX12_whereIn_67 ly_333 rfl rfl rfl hi_24 x_23_e ?_
    obtain ⟨hd_25, H⟩ := ck_e H
    refine z_irem (M := M_X12_whereIn) dX12_whereIn_68 hd_25 ?_
    refine z_iadd (M := M_X12_whereIn) dX12_whereIn_69 ?_
    obtain ⟨x_26, x_26_e, hi_27, H⟩ := rd_e H
    refine z_iald (M := M_X12_whereIn) dX12_whereIn_70 ly_331 rfl rfl rfl hi_27 x_26_e ?_
    refine z_istore (M := M_X12_whereIn) (lv' := [some (vr 277), some (vi out_0), some (vi hot_0), some (vl x_1), none, some (vl x_3), none, some (zv within_5), some (vi k_6), some (vi x_19), some (vi x_26), none, none, none, none]) dX12_whereIn_71 (Nat.le_of_ble_eq_true rfl) rfl rfl ?_
    obtain ⟨v_195, he_196, hk_197⟩ := bd_e H
    have J_198 : ∀ x_60, v_195 = x_60 → YY l E M_X12_whereIn 3 0 0 (pS (some (vi r)) σ) 123 [some (vr 277), some (vi out_0), some (vi hot_0), some (vl x_1), none, some (vl x_3), none, some (zv within_5), some (vi k_6), some (vi x_19), some (vi x_26), none, none, none, none] [vi x_60] σ 0 0 := by
      intro x_60 e
      have H := hk_197
      rw [e] at H
      refine z_istore (M := M_X12_whereIn) (lv' := [some (vr 277), some (vi out_0), some (vi hot_0), some (vl x_1), none, some (vl x_3), none, some (zv within_5), some (vi k_6), some (vi x_19), some (vi x_26), some (vi x_60), none, none, none]) dX12_whereIn_123 (Nat.le_of_ble_eq_true rfl) rfl rfl ?_
      have J_61 : YY l E M_X12_whereIn 3 0 0 (pS (some (vi r)) σ) 139 [some (vr 277), some (vi out_0), some (vi hot_0), some (vl x_1), none, some (vl x_3), none, some (zv within_5), some (vi k_6), some (vi x_19), some (vi x_26), some (vi x_60), none, none, none] [vi (if (w32 x_60) = (w32 x_19) then x_26 else x_19)] σ 0 0 := by
        refine z_istore (M := M_X12_whereIn) (lv' := [some (vr 277), some (vi out_0), some (vi hot_0), some (vl x_1), none, some (vl x_3), none, some (zv within_5), some (vi k_6), some (vi x_19), some (vi x_26), some (vi x_60), some (vi (if (w32 x_60) = (w32 x_19) then x_26 else x_19)), none, none]) dX12_whereIn_139 (Nat.le_of_ble_eq_true rfl) rfl rfl ?_
        refine z_aload_n (M := M_X12_whereIn) dX12_whereIn_141 rfl ?_
        refine z_getR (M := M_X12_whereIn) (ci := 15) (C := RX12) (T := TX12) (Nf := 135) (ty := tyX12) cl15 dX12_whereIn_142 ly_277 67 (by decide) t_2458 rfl ?_
        refine z_iload (M := M_X12_whereIn) dX12_whereIn_145 rfl ?_
        obtain ⟨x_62, x_62_e, hi_63, H⟩ := rd_e H
        refine z_lald (M := M_X12_whereIn) dX12_whereIn_147 ly_317 rfl rfl rfl hi_63 x_62_e ?_
        refine z_aload_n (M := M_X12_whereIn) dX12_whereIn_148 rfl ?_
        refine z_getR (M := M_X12_whereIn) (ci := 15) (C := RX12) (T := TX12) (Nf := 135) (ty := tyX12) cl15 dX12_whereIn_149 ly_277 68 (by decide) t_2459 rfl ?_
        refine z_iload (M := M_X12_whereIn) dX12_whereIn_152 rfl ?_
        obtain ⟨x_64, x_64_e, hi_65, H⟩ := rd_e H
        refine z_lald (M := M_X12_whereIn) dX12_whereIn_154 ly_318 rfl rfl rfl hi_65 x_64_e ?_
        refine z_aload_n (M := M_X12_whereIn) dX12_whereIn_155 rfl ?_
        refine z_getR (M := M_X12_whereIn) (ci := 15) (C := RX12) (T := TX12) (Nf := 135) (ty := tyX12) cl15 dX12_whereIn_156 ly_277 67 (by decide) t_2458 rfl ?_
        refine z_iload (M := M_X12_whereIn) dX12_whereIn_159 rfl ?_
        obtain ⟨x_66, x_66_e, hi_67, H⟩ := rd_e H
        refine z_lald (M := M_X12_whereIn) dX12_whereIn_161 ly_317 rfl rfl rfl hi_67 x_66_e ?_
        refine z_aload_n (M := M_X12_whereIn) dX12_whereIn_162 rfl ?_
        refine z_getR (M := M_X12_whereIn) (ci := 15) (C := RX12) (T := TX12) (Nf := 135) (ty := tyX12) cl15 dX12_whereIn_163 ly_277 68 (by decide) t_2459 rfl ?_
        refine z_iload (M := M_X12_whereIn) dX12_whereIn_166 rfl ?_
        obtain ⟨x_68, x_68_e, hi_69, H⟩ := rd_e H
        refine z_lald (M := M_X12_whereIn) dX12_whereIn_168 ly_318 rfl rfl rfl hi_69 x_68_e ?_
        refine z_lload_n (M := M_X12_whereIn) dX12_whereIn_169 rfl ?_
        refine z_lload (M := M_X12_whereIn) dX12_whereIn_170 rfl ?_
        refine z_callS (M := M_X12_whereIn) (M' := M_X12_turn) (as := [vl x_62, vl x_64, vl x_66, vl x_68, vl x_1, vl x_3]) (rest := []) rfl rfl dX12_whereIn_172 m_X12_turn t_3262 t_3263 (c_X12_turn hl  rfl) rfl rfl (Nat.le_of_ble_eq_true rfl) (Nat.le_of_ble_eq_true rfl) (Nat.le_of_ble_eq_true rfl) (Nat.le_of_ble_eq_true rfl) ?_
        refine z_st (st' := [vi (fR_turn x_62 x_64 x_66 x_68 x_1 x_3)]) rfl ?_
        refine z_istore (M := M_X12_whereIn) (lv' := [some (vr 277), some (vi out_0), some (vi hot_0), some (vl x_1), none, some (vl x_3), none, some (zv within_5), some (vi k_6), some (vi x_19), some (vi x_26), some (vi x_60), some (vi (if (w32 x_60) = (w32 x_19) then x_26 else x_19)), some (vi (fR_turn x_62 x_64 x_66 x_68 x_1 x_3)), none]) dX12_whereIn_175 (Nat.le_of_ble_eq_true rfl) rfl rfl ?_
        obtain ⟨v_190, he_191, hk_192⟩ := bd_e H
        have J_193 : ∀ x_77, v_190 = x_77 → YY l E M_X12_whereIn 3 0 0 (pS (some (vi r)) σ) 200 [some (vr 277), some (vi out_0), some (vi hot_0), some (vl x_1), none, some (vl x_3), none, some (zv within_5), some (vi k_6), some (vi x_19), some (vi x_26), some (vi x_60), some (vi (if (w32 x_60) = (w32 x_19) then x_26 else x_19)), some (vi (fR_turn x_62 x_64 x_66 x_68 x_1 x_3)), none] [zv x_77] σ 0 0 := by
          intro x_77 e
          have H := hk_192
          rw [e] at H
          refine z_zstore (M := M_X12_whereIn) (lv' := [some (vr 277), some (vi out_0), some (vi hot_0), some (vl x_1), none, some (vl x_3), none, some (zv within_5), some (vi k_6), some (vi x_19), some (vi x_26), some (vi x_60), some (vi (if (w32 x_60) = (w32 x_19) then x_26 else x_19)), some (vi (fR_turn x_62 x_64 x_66 x_68 x_1 x_3)), some (zv x_77)]) dX12_whereIn_200 (Nat.le_of_ble_eq_true rfl) rfl rfl ?_
          obtain ⟨v_185, he_186, hk_187⟩ := bd_e H
          have J_188 : v_185 = true → YY l E M_X12_whereIn 3 0 0 (pS (some (vi r)) σ) 271 [some (vr 277), some (vi out_0), some (vi hot_0), some (vl x_1), none, some (vl x_3), none, some (zv within_5), some (vi k_6), some (vi x_19), some (vi x_26), some (vi x_60), some (vi (if (w32 x_60) = (w32 x_19) then x_26 else x_19)), some (vi (fR_turn x_62 x_64 x_66 x_68 x_1 x_3)), some (zv x_77)] [] σ 0 0 := by
            intro e
            have H := hk_187
            rw [e] at H
            rcases if_e H with ⟨_, H⟩ | ⟨q, H⟩
            · refine z_iconst (M := M_X12_whereIn) dX12_whereIn_271 ?_
              have H := congrArg some (hk_9 _ ((K_13 _ (Option.some.inj H).symm).symm))
              cases H
              exact z_iret (M := M_X12_whereIn) dX12_whereIn_272 rfl (Nat.le_of_ble_eq_true rfl) (Nat.le_of_ble_eq_true rfl) ⟨rfl, rfl⟩
            · exact absurd rfl q
          have J_189 : v_185 = false → YY l E M_X12_whereIn 3 0 0 (pS (some (vi r)) σ) 273 [some (vr 277), some (vi out_0), some (vi hot_0), some (vl x_1), none, some (vl x_3), none, some (zv within_5), some (vi k_6), some (vi x_19), some (vi x_26), some (vi x_60), some (vi (if (w32 x_60) = (w32 x_19) then x_26 else x_19)), some (vi (fR_turn x_62 x_64 x_66 x_68 x_1 x_3)), some (zv x_77)] [] σ 0 0 := by
            intro e
            have H := hk_187
            rw [e] at H
            rcases if_e H with ⟨q, H⟩ | ⟨_, H⟩
            · exact nomatch q
            · obtain ⟨v_156, he_153, hk_154⟩ := bd_e H
              have J_184 : ∀ within_182, v_156 = within_182 → YY l E M_X12_whereIn 3 0 0 (pS (some (vi r)) σ) 316 [some (vr 277), some (vi out_0), some (vi hot_0), some (vl x_1), none, some (vl x_3), none, some (zv within_182), some (vi k_6), some (vi x_19), some (vi x_26), some (vi x_60), some (vi (if (w32 x_60) = (w32 x_19) then x_26 else x_19)), some (vi (fR_turn x_62 x_64 x_66 x_68 x_1 x_3)), some (zv x_77)] [] σ 0 0 := by
                intro within_182 e
                have H := hk_154
                rw [e] at H
                refine z_iinc (M := M_X12_whereIn) (lv' := [some (vr 277), some (vi out_0), some (vi hot_0), some (vl x_1), none, some (vl x_3), none, some (zv within_182), some (vi (k_6 + 1)), some (vi x_19), some (vi x_26), some (vi x_60), some (vi (if (w32 x_60) = (w32 x_19) then x_26 else x_19)), some (vi (fR_turn x_62 x_64 x_66 x_68 x_1 x_3)), some (zv x_77)]) dX12_whereIn_316 rfl (Nat.le_of_ble_eq_true rfl) rfl rfl ?_
                refine z_goto (M := M_X12_whereIn) (tgt := 21) dX12_whereIn_319 (by decide) ?_
                refine z_le (lv' := [some (vr 277), some (vi out_0), some (vi hot_0), some (vl x_1), none, some (vl x_3), none, some (zv within_182), some (vi (k_6 + 1)), none, none, none, none, none, none]) ⟨Or.inr rfl, Or.inr rfl, Or.inr rfl, Or.inr rfl, Or.inl rfl, Or.inr rfl, Or.inl rfl, Or.inr rfl, Or.inr rfl, Or.inl rfl, Or.inl rfl, Or.inl rfl, Or.inl rfl, Or.inl rfl, Or.inl rfl, trivial⟩ ?_
                exact K_12 _ (Option.some.inj H).symm
              have H := he_153
              refine z_iload (M := M_X12_whereIn) dX12_whereIn_273 rfl ?_
              rcases if_e H with ⟨h_169, H⟩ | ⟨h_169, H⟩
              · refine z_if_le_f (M := M_X12_whereIn) (tgt := 316) dX12_whereIn_275 (by decide) rfl h_169 ?_
                refine z_aload_n (M := M_X12_whereIn) dX12_whereIn_278 rfl ?_
                refine z_getR (M := M_X12_whereIn) (ci := 15) (C := RX12) (T := TX12) (Nf := 135) (ty := tyX12) cl15 dX12_whereIn_279 ly_277 68 (by decide) t_2459 rfl ?_
                refine z_iload (M := M_X12_whereIn) dX12_whereIn_282 rfl ?_
                obtain ⟨x_170, x_170_e, hi_171, H⟩ := rd_e H
                refine z_lald (M := M_X12_whereIn) dX12_whereIn_284 ly_318 rfl rfl rfl hi_171 x_170_e ?_
                refine z_lload (M := M_X12_whereIn) dX12_whereIn_285 rfl ?_
                refine z_lcmp (M := M_X12_whereIn) dX12_whereIn_287 ?_
                rcases if_e H with ⟨h_172, H⟩ | ⟨h_172, H⟩
                · refine z_lif_gt_f (M := M_X12_whereIn) (tgt := 316) dX12_whereIn_288 (by decide) rfl rfl h_172 ?_
                  refine z_lload (M := M_X12_whereIn) dX12_whereIn_291 rfl ?_
                  refine z_aload_n (M := M_X12_whereIn) dX12_whereIn_293 rfl ?_
                  refine z_getR (M := M_X12_whereIn) (ci := 15) (C := RX12) (T := TX12) (Nf := 135) (ty := tyX12) cl15 dX12_whereIn_294 ly_277 68 (by decide) t_2459 rfl ?_
                  refine z_iload (M := M_X12_whereIn) dX12_whereIn_297 rfl ?_
                  obtain ⟨x_173, x_173_e, hi_174, H⟩ := rd_e H
                  refine z_lald (M := M_X12_whereIn) dX12_whereIn_299 ly_318 rfl rfl rfl hi_174 x_173_e ?_
                  refine z_lcmp (M := M_X12_whereIn) dX12_whereIn_300 ?_
                  rcases if_e H with ⟨h_175, H⟩ | ⟨h_175, H⟩
                  · refine z_lif_ge_f (M := M_X12_whereIn) (tgt := 316) dX12_whereIn_301 (by decide) rfl rfl h_175 ?_
                    have J_176 : YY l E M_X12_whereIn 3 0 0 (pS (some (vi r)) σ) 314 [some (vr 277), some (vi out_0), some (vi hot_0), some (vl x_1), none, some (vl x_3), none, some (zv within_5), some (vi k_6), some (vi x_19), some (vi x_26), some (vi x_60), some (vi (if (w32 x_60) = (w32 x_19) then x_26 else x_19)), some (vi (fR_turn x_62 x_64 x_66 x_68 x_1 x_3)), some (zv x_77)] [zv (decide (¬ (within_5 = true)))] σ 0 0 := by
                      refine z_zstore (M := M_X12_whereIn) (lv' := [some (vr 277), some (vi out_0), some (vi hot_0), some (vl x_1), none, some (vl x_3), none, some (zv (decide (¬ (within_5 = true)))), some (vi k_6), some (vi x_19), some (vi x_26), some (vi x_60), some (vi (if (w32 x_60) = (w32 x_19) then x_26 else x_19)), some (vi (fR_turn x_62 x_64 x_66 x_68 x_1 x_3)), some (zv x_77)]) dX12_whereIn_314 (Nat.le_of_ble_eq_true rfl) rfl rfl ?_
                      exact J_184 _ (Option.some.inj H).symm
                    refine z_zload (M := M_X12_whereIn) dX12_whereIn_304 rfl ?_
                    by_cases h_178 : within_5 = true
                    · refine z_zne_t (M := M_X12_whereIn) (tgt := 313) dX12_whereIn_306 (by decide) h_178 ?_
                      refine z_iconst (M := M_X12_whereIn) dX12_whereIn_313 ?_
                      exact z_st (by rw [zv_f (p := ¬ (within_5 = true)) (not_not_intro h_178)]) J_176
                    · refine z_zne_f (M := M_X12_whereIn) (tgt := 313) dX12_whereIn_306 (by decide) h_178 ?_
                      refine z_iconst (M := M_X12_whereIn) dX12_whereIn_309 ?_
                      refine z_goto (M := M_X12_whereIn) (tgt := 314) dX12_whereIn_310 (by decide) ?_
                      exact z_st (by rw [zv_t (p := ¬ (within_5 = true)) h_178]) J_176
                  · refine z_lif_ge_t (M := M_X12_whereIn) (tgt := 316) dX12_whereIn_301 (by decide) rfl rfl (Int.not_lt.mp h_175) ?_
                    exact J_184 _ (Option.some.inj H).symm
                · refine z_lif_gt_t (M := M_X12_whereIn) (tgt := 316) dX12_whereIn_288 (by decide) rfl rfl (Int.not_le.mp h_172) ?_
                  exact J_184 _ (Option.some.inj H).symm
              · refine z_if_le_t (M := M_X12_whereIn) (tgt := 316) dX12_whereIn_275 (by decide) rfl (Int.not_lt.mp h_169) ?_
                exact J_184 _ (Option.some.inj H).symm
          have H := he_186
          refine z_iload (M := M_X12_whereIn) dX12_whereIn_202 rfl ?_
          rcases if_e H with ⟨h_131, H⟩ | ⟨h_131, H⟩
          · refine z_if_ne_f (M := M_X12_whereIn) (tgt := 273) dX12_whereIn_204 (by decide) rfl h_131 ?_
            refine z_zload (M := M_X12_whereIn) dX12_whereIn_207 rfl ?_
            rcases if_e H with ⟨h_132, H⟩ | ⟨h_132, H⟩
            · refine z_zeq_f (M := M_X12_whereIn) (tgt := 249) dX12_whereIn_209 (by decide) h_132 ?_
              refine z_lload (M := M_X12_whereIn) dX12_whereIn_212 rfl ?_
              refine z_aload_n (M := M_X12_whereIn) dX12_whereIn_214 rfl ?_
              refine z_getR (M := M_X12_whereIn) (ci := 15) (C := RX12) (T := TX12) (Nf := 135) (ty := tyX12) cl15 dX12_whereIn_215 ly_277 68 (by decide) t_2459 rfl ?_
              refine z_iload (M := M_X12_whereIn) dX12_whereIn_218 rfl ?_
              obtain ⟨x_133, x_133_e, hi_134, H⟩ := rd_e H
              refine z_lald (M := M_X12_whereIn) dX12_whereIn_220 ly_318 rfl rfl rfl hi_134 x_133_e ?_
              refine z_lcmp (M := M_X12_whereIn) dX12_whereIn_221 ?_
              rcases if_e H with ⟨h_135, H⟩ | ⟨h_135, H⟩
              · refine z_lif_ne_f (M := M_X12_whereIn) (tgt := 273) dX12_whereIn_222 (by decide) rfl rfl h_135 ?_
                refine z_lload_n (M := M_X12_whereIn) dX12_whereIn_225 rfl ?_
                refine z_aload_n (M := M_X12_whereIn) dX12_whereIn_226 rfl ?_
                refine z_getR (M := M_X12_whereIn) (ci := 15) (C := RX12) (T := TX12) (Nf := 135) (ty := tyX12) cl15 dX12_whereIn_227 ly_277 67 (by decide) t_2458 rfl ?_
                refine z_iload (M := M_X12_whereIn) dX12_whereIn_230 rfl ?_
                obtain ⟨x_136, x_136_e, hi_137, H⟩ := rd_e H
                refine z_lald (M := M_X12_whereIn) dX12_whereIn_232 ly_317 rfl rfl rfl hi_137 x_136_e ?_
                refine z_aload_n (M := M_X12_whereIn) dX12_whereIn_233 rfl ?_
                refine z_getR (M := M_X12_whereIn) (ci := 15) (C := RX12) (T := TX12) (Nf := 135) (ty := tyX12) cl15 dX12_whereIn_234 ly_277 67 (by decide) t_2458 rfl ?_
                refine z_iload (M := M_X12_whereIn) dX12_whereIn_237 rfl ?_
                obtain ⟨x_138, x_138_e, hi_139, H⟩ := rd_e H
                refine z_lald (M := M_X12_whereIn) dX12_whereIn_239 ly_317 rfl rfl rfl hi_139 x_138_e ?_
                refine z_callS (M := M_X12_whereIn) (M' := M_X12_in) (as := [vl x_1, vl x_136, vl x_138]) (rest := []) rfl rfl dX12_whereIn_240 m_X12_in t_2818 t_2819 (c_X12_in hl  rfl) rfl rfl (Nat.le_of_ble_eq_true rfl) (Nat.le_of_ble_eq_true rfl) (Nat.le_of_ble_eq_true rfl) (Nat.le_of_ble_eq_true rfl) ?_
                refine z_st (st' := [zv (fR_in x_1 x_136 x_138)]) rfl ?_
                rcases if_e H with ⟨h_140, H⟩ | ⟨h_140, H⟩
                · refine z_zeq_f (M := M_X12_whereIn) (tgt := 273) dX12_whereIn_243 (by decide) h_140 ?_
                  refine z_goto (M := M_X12_whereIn) (tgt := 271) dX12_whereIn_246 (by decide) ?_
                  exact J_188 (Option.some.inj H).symm
                · refine z_zeq_t (M := M_X12_whereIn) (tgt := 273) dX12_whereIn_243 (by decide) h_140 ?_
                  exact J_189 (Option.some.inj H).symm
              · refine z_lif_ne_t (M := M_X12_whereIn) (tgt := 273) dX12_whereIn_222 (by decide) rfl rfl h_135 ?_
                exact J_189 (Option.some.inj H).symm
            · refine z_zeq_t (M := M_X12_whereIn) (tgt := 249) dX12_whereIn_209 (by decide) h_132 ?_
              refine z_lload (M := M_X12_whereIn) dX12_whereIn_249 rfl ?_
              refine z_aload_n (M := M_X12_whereIn) dX12_whereIn_251 rfl ?_
              refine z_getR (M := M_X12_whereIn) (ci := 15) (C := RX12) (T := TX12) (Nf := 135) (ty := tyX12) cl15 dX12_whereIn_252 ly_277 68 (by decide) t_2459 rfl ?_
              refine z_iload (M := M_X12_whereIn) dX12_whereIn_255 rfl ?_
              obtain ⟨x_144, x_144_e, hi_145, H⟩ := rd_e H
              refine z_lald (M := M_X12_whereIn) dX12_whereIn_257 ly_318 rfl rfl rfl hi_145 x_144_e ?_
              refine z_aload_n (M := M_X12_whereIn) dX12_whereIn_258 rfl ?_
              refine z_getR (M := M_X12_whereIn) (ci := 15) (C := RX12) (T := TX12) (Nf := 135) (ty := tyX12) cl15 dX12_whereIn_259 ly_277 68 (by decide) t_2459 rfl ?_
              refine z_iload (M := M_X12_whereIn) dX12_whereIn_262 rfl ?_
              obtain ⟨x_146, x_146_e, hi_147, H⟩ := rd_e H
              refine z_lald (M := M_X12_whereIn) dX12_whereIn_264 ly_318 rfl rfl rfl hi_147 x_146_e ?_
              refine z_callS (M := M_X12_whereIn) (M' := M_X12_in) (as := [vl x_3, vl x_144, vl x_146]) (rest := []) rfl rfl dX12_whereIn_265 m_X12_in t_2818 t_2819 (c_X12_in hl  rfl) rfl rfl (Nat.le_of_ble_eq_true rfl) (Nat.le_of_ble_eq_true rfl) (Nat.le_of_ble_eq_true rfl) (Nat.le_of_ble_eq_true rfl) ?_
              refine z_st (st' := [zv (fR_in x_3 x_144 x_146)]) rfl ?_
              rcases if_e H with ⟨h_148, H⟩ | ⟨h_148, H⟩
              · refine z_zeq_f (M := M_X12_whereIn) (tgt := 273) dX12_whereIn_268 (by decide) h_148 ?_
                exact J_188 (Option.some.inj H).symm
              · refine z_zeq_t (M := M_X12_whereIn) (tgt := 273) dX12_whereIn_268 (by decide) h_148 ?_
                exact J_189 (Option.some.inj H).symm
          · refine z_if_ne_t (M := M_X12_whereIn) (tgt := 273) dX12_whereIn_204 (by decide) rfl h_131 ?_
            exact J_189 (Option.some.inj H).symm
        have H := he_191
        refine z_aload_n (M := M_X12_whereIn) dX12_whereIn_177 rfl ?_
        refine z_getR (M := M_X12_whereIn) (ci := 15) (C := RX12) (T := TX12) (Nf := 135) (ty := tyX12) cl15 dX12_whereIn_178 ly_277 68 (by decide) t_2459 rfl ?_
        refine z_iload (M := M_X12_whereIn) dX12_whereIn_181 rfl ?_
        obtain ⟨x_70, x_70_e, hi_71, H⟩ := rd_e H
        refine z_lald (M := M_X12_whereIn) dX12_whereIn_183 ly_318 rfl rfl rfl hi_71 x_70_e ?_
        refine z_aload_n (M := M_X12_whereIn) dX12_whereIn_184 rfl ?_
        refine z_getR (M := M_X12_whereIn) (ci := 15) (C := RX12) (T := TX12) (Nf := 135) (ty := tyX12) cl15 dX12_whereIn_185 ly_277 68 (by decide) t_2459 rfl ?_
        refine z_iload (M := M_X12_whereIn) dX12_whereIn_188 rfl ?_
        obtain ⟨x_72, x_72_e, hi_73, H⟩ := rd_e H
        refine z_lald (M := M_X12_whereIn) dX12_whereIn_190 ly_318 rfl rfl rfl hi_73 x_72_e ?_
        refine z_lcmp (M := M_X12_whereIn) dX12_whereIn_191 ?_
        rcases if_e H with ⟨h_74, H⟩ | ⟨h_74, H⟩
        · refine z_lif_ne_f (M := M_X12_whereIn) (tgt := 199) dX12_whereIn_192 (by decide) rfl rfl h_74 ?_
          refine z_zconst (M := M_X12_whereIn) (b := true) dX12_whereIn_195 rfl ?_
          refine z_goto (M := M_X12_whereIn) (tgt := 200) dX12_whereIn_196 (by decide) ?_
          exact J_193 _ (Option.some.inj H).symm
        · refine z_lif_ne_t (M := M_X12_whereIn) (tgt := 199) dX12_whereIn_192 (by decide) rfl rfl h_74 ?_
          refine z_zconst (M := M_X12_whereIn) (b := false) dX12_whereIn_199 rfl ?_
          exact J_193 _ (Option.some.inj H).symm
      refine z_iload (M := M_X12_whereIn) dX12_whereIn_125 rfl ?_
      refine z_iload (M := M_X12_whereIn) dX12_whereIn_127 rfl ?_
      by_cases h_194 : (w32 x_60) = (w32 x_19)
      · refine z_icmp_ne_f (M := M_X12_whereIn) (tgt := 137) dX12_whereIn_129 (by decide) rfl rfl h_194 ?_
        refine z_iload (M := M_X12_whereIn) dX12_whereIn_132 rfl ?_
        refine z_goto (M := M_X12_whereIn) (tgt := 139) dX12_whereIn_134 (by decide) ?_
        exact z_st (by rw [if_pos (c := (w32 x_60) = (w32 x_19)) h_194]) J_61
      · refine z_icmp_ne_t (M := M_X12_whereIn) (tgt := 137) dX12_whereIn_129 (by decide) rfl rfl h_194 ?_
        refine z_iload (M := M_X12_whereIn) dX12_whereIn_137 rfl ?_
        exact z_st (by rw [if_neg (c := (w32 x_60) = (w32 x_19)) h_194]) J_61
    have H := he_196
    refine z_aload_n (M := M_X12_whereIn) dX12_whereIn_73 rfl ?_
    refine z_getR (M := M_X12_whereIn) (ci := 15) (C := RX12) (T := TX12) (Nf := 135) (ty := tyX12) cl15 dX12_whereIn_74 ly_277 68 (by decide) t_2459 rfl ?_
    refine z_iload (M := M_X12_whereIn) dX12_whereIn_77 rfl ?_
    obtain ⟨x_45, x_45_e, hi_46, H⟩ := rd_e H
    refine z_lald (M := M_X12_whereIn) dX12_whereIn_79 ly_318 rfl rfl rfl hi_46 x_45_e ?_
    refine z_aload_n (M := M_X12_whereIn) dX12_whereIn_80 rfl ?_
    refine z_getR (M := M_X12_whereIn) (ci := 15) (C := RX12) (T := TX12) (Nf := 135) (ty := tyX12) cl15 dX12_whereIn_81 ly_277 68 (by decide) t_2459 rfl ?_
    refine z_iload (M := M_X12_whereIn) dX12_whereIn_84 rfl ?_
    obtain ⟨x_47, x_47_e, hi_48, H⟩ := rd_e H
    refine z_lald (M := M_X12_whereIn) dX12_whereIn_86 ly_318 rfl rfl rfl hi_48 x_47_e ?_
    refine z_lcmp (M := M_X12_whereIn) dX12_whereIn_87 ?_
    rcases if_e H with ⟨h_49, H⟩ | ⟨h_49, H⟩
    · refine z_lif_lt_t (M := M_X12_whereIn) (tgt := 116) dX12_whereIn_88 (by decide) rfl rfl h_49 ?_
      refine z_iload (M := M_X12_whereIn) dX12_whereIn_116 rfl ?_
      refine z_goto (M := M_X12_whereIn) (tgt := 123) dX12_whereIn_118 (by decide) ?_
      exact J_198 _ (Option.some.inj H).symm
    · refine z_lif_lt_f (M := M_X12_whereIn) (tgt := 116) dX12_whereIn_88 (by decide) rfl rfl (Int.not_lt.mp h_49) ?_
      refine z_aload_n (M := M_X12_whereIn) dX12_whereIn_91 rfl ?_
      refine z_getR (M := M_X12_whereIn) (ci := 15) (C := RX12) (T := TX12) (Nf := 135) (ty := tyX12) cl15 dX12_whereIn_92 ly_277 68 (by decide) t_2459 rfl ?_
      refine z_iload (M := M_X12_whereIn) dX12_whereIn_95 rfl ?_
      obtain ⟨x_51, x_51_e, hi_52, H⟩ := rd_e H
      refine z_lald (M := M_X12_whereIn) dX12_whereIn_97 ly_318 rfl rfl rfl hi_52 x_51_e ?_
      refine z_aload_n (M := M_X12_whereIn) dX12_whereIn_98 rfl ?_
      refine z_getR (M := M_X12_whereIn) (ci := 15) (C := RX12) (T := TX12) (Nf := 135) (ty := tyX12) cl15 dX12_whereIn_99 ly_277 68 (by decide) t_2459 rfl ?_
      refine z_iload (M := M_X12_whereIn) dX12_whereIn_102 rfl ?_
      obtain ⟨x_53, x_53_e, hi_54, H⟩ := rd_e H
      refine z_lald (M := M_X12_whereIn) dX12_whereIn_104 ly_318 rfl rfl rfl hi_54 x_53_e ?_
      refine z_lcmp (M := M_X12_whereIn) dX12_whereIn_105 ?_
      rcases if_e H with ⟨h_55, H⟩ | ⟨h_55, H⟩
      · refine z_lif_ne_f (M := M_X12_whereIn) (tgt := 121) dX12_whereIn_106 (by decide) rfl rfl h_55 ?_
        refine z_iload (M := M_X12_whereIn) dX12_whereIn_109 rfl ?_
        refine z_iload (M := M_X12_whereIn) dX12_whereIn_111 rfl ?_
        rcases if_e H with ⟨h_56, H⟩ | ⟨h_56, H⟩
        · refine z_icmp_ge_f (M := M_X12_whereIn) (tgt := 121) dX12_whereIn_113 (by decide) rfl rfl h_56 ?_
          refine z_iload (M := M_X12_whereIn) dX12_whereIn_116 rfl ?_
          refine z_goto (M := M_X12_whereIn) (tgt := 123) dX12_whereIn_118 (by decide) ?_
          exact J_198 _ (Option.some.inj H).symm
        · refine z_icmp_ge_t (M := M_X12_whereIn) (tgt := 121) dX12_whereIn_113 (by decide) rfl rfl (Int.not_lt.mp h_56) ?_
          refine z_iload (M := M_X12_whereIn) dX12_whereIn_121 rfl ?_
          exact J_198 _ (Option.some.inj H).symm
      · refine z_lif_ne_t (M := M_X12_whereIn) (tgt := 121) dX12_whereIn_106 (by decide) rfl rfl h_55 ?_
        refine z_iload (M := M_X12_whereIn) dX12_whereIn_121 rfl ?_
        exact J_198 _ (Option.some.inj H).symm
  · refine z_icmp_ge_t (M := M_X12_whereIn) (tgt := 322) dX12_whereIn_29 (by decide) rfl rfl (Int.not_lt.mp h_16) ?_
    exact J_204 _ _ (K_13 _ (Option.some.inj H).symm).symm
theorem c_X12_holds (hl : l.stackTraces = false) {σ : SG} {shell_0 : Int} {hole_0 : Int} {r : Bool}  (H : fR_holds σ shell_0 hole_0 = some r) : en_S l E M_X12_holds 4 0 0 [vr 277, vi shell_0, vi hole_0] σ (pS (some (zv r)) σ) := by
  unfold fR_holds at H
  refine z_mk (lv := [some (vr 277), some (vi shell_0), some (vi hole_0), none, none]) m_X12_holds rfl hl (Nat.le_of_ble_eq_true rfl) rfl ?_
  refine z_iconst (M := M_X12_holds) dX12_holds_0 ?_
  refine z_istore_n (M := M_X12_holds) (lv' := [some (vr 277), some (vi shell_0), some (vi hole_0), some (vi 0), none]) dX12_holds_1 (Nat.le_of_ble_eq_true rfl) rfl rfl ?_
  obtain ⟨rl_5, hw_2, hk_3, hk_4⟩ := bx_e H
  have J_24 : ∀ k_23, rl_5 = (.inl k_23) → YY l E M_X12_holds 4 0 0 (pS (some (zv r)) σ) 55 [some (vr 277), some (vi shell_0), some (vi hole_0), some (vi k_23), none] [] σ 0 0 := by
    intro k_23 e
    have H := hk_3 _ e
    refine z_zconst (M := M_X12_holds) (b := false) dX12_holds_55 rfl ?_
    cases H
    exact z_zret (M := M_X12_holds) dX12_holds_56 rfl (Nat.le_of_ble_eq_true rfl) (Nat.le_of_ble_eq_true rfl) ⟨rfl, rfl⟩
  refine whl_go hw_2 (fun k_1 => YY l E M_X12_holds 4 0 0 (pS (some (zv r)) σ) 2 [some (vr 277), some (vi shell_0), some (vi hole_0), some (vi k_1), none] [] σ 0 0) ?_
  rintro k_1 o_6 H K_7 K_8
  refine z_iload_n (M := M_X12_holds) dX12_holds_2 rfl ?_
  refine z_aload_n (M := M_X12_holds) dX12_holds_3 rfl ?_
  refine z_getR (M := M_X12_holds) (ci := 15) (C := RX12) (T := TX12) (Nf := 135) (ty := tyX12) cl15 dX12_holds_4 ly_277 96 (by decide) t_2487 rfl ?_
  refine z_iload_n (M := M_X12_holds) dX12_holds_7 rfl ?_
  obtain ⟨x_9, x_9_e, hi_10, H⟩ := rd_e H
  refine z_iald (M := M_X12_holds) dX12_holds_8 ly_333 rfl rfl rfl hi_10 x_9_e ?_
  rcases if_e H with ⟨h_11, H⟩ | ⟨h_11, H⟩
  · refine z_icmp_ge_f (M := M_X12_holds) (tgt := 55) dX12_holds_9 (by decide) rfl rfl h_11 ?_
    refine z_aload_n (M := M_X12_holds) dX12_holds_12 rfl ?_
    refine z_iload_n (M := M_X12_holds) dX12_holds_13 rfl ?_
    refine z_aload_n (M := M_X12_holds) dX12_holds_14 rfl ?_
    refine z_getR (M := M_X12_holds) (ci := 15) (C := RX12) (T := TX12) (Nf := 135) (ty := tyX12) cl15 dX12_holds_15 ly_277 93 (by decide) t_2484 rfl ?_
    refine z_aload_n (M := M_X12_holds) dX12_holds_18 rfl ?_
    refine z_getR (M := M_X12_holds) (ci := 15) (C := RX12) (T := TX12) (Nf := 135) (ty := tyX12) cl15 dX12_holds_19 ly_277 95 (by decide) t_2486 rfl ?_
    refine z_iload_n (M := M_X12_holds) dX12_holds_22 rfl ?_
    obtain ⟨x_12, x_12_e, hi_13, H⟩ := rd_e H
    refine z_iald (M := M_X12_holds) dX12_holds_23 ly_332 rfl rfl rfl hi_13 x_12_e ?_
    refine z_iload_n (M := M_X12_holds) dX12_holds_24 rfl ?_
    refine z_iadd (M := M_X12_holds) dX12_holds_25 ?_
    obtain ⟨x_14, x_14_e, hi_15, H⟩ := rd_e H
    refine z_iald (M := M_X12_holds) dX12_holds_26 ly_331 rfl rfl rfl hi_15 x_14_e ?_
    obtain ⟨x_17, hc_16, H⟩ := bd_e H
    refine z_callV (M := M_X12_holds) (M' := M_X12_whereIn) (as := [vi shell_0, vi x_14]) (rest := []) rfl rfl dX12_holds_27 m_X12_whereIn t_3462 t_3464 s_274 (c_X12_whereIn hl  hc_16) rfl rfl ly_277 rfl (Nat.le_of_ble_eq_true rfl) (Nat.le_of_ble_eq_true rfl) (Nat.le_of_ble_eq_true rfl) (Nat.le_of_ble_eq_true rfl) ?_
    refine z_st (st' := [vi x_17]) rfl ?_
    refine z_istore (M := M_X12_holds) (lv' := [some (vr 277), some (vi shell_0), some (vi hole_0), some (vi k_1), some (vi x_17)]) dX12_holds_30 (Nat.le_of_ble_eq_true rfl) rfl rfl ?_
    refine z_iload (M := M_X12_holds) dX12_holds_32 rfl ?_
    rcases if_e H with ⟨h_18, H⟩ | ⟨h_18, H⟩
    · refine z_if_le_f (M := M_X12_holds) (tgt := 49) dX12_holds_34 (by decide) rfl h_18 ?_
      have J_19 : YY l E M_X12_holds 4 0 0 (pS (some (zv r)) σ) 48 [some (vr 277), some (vi shell_0), some (vi hole_0), some (vi k_1), some (vi x_17)] [zv (decide ((w32 x_17) = 1))] σ 0 0 := by
        have H := congrArg some (hk_4 _ ((K_8 _ (Option.some.inj H).symm).symm))
        cases H
        exact z_zret (M := M_X12_holds) dX12_holds_48 rfl (Nat.le_of_ble_eq_true rfl) (Nat.le_of_ble_eq_true rfl) ⟨rfl, rfl⟩
      refine z_iload (M := M_X12_holds) dX12_holds_37 rfl ?_
      refine z_iconst (M := M_X12_holds) dX12_holds_39 ?_
      by_cases h_20 : (w32 x_17) = 1
      · refine z_icmp_ne_f (M := M_X12_holds) (tgt := 47) dX12_holds_40 (by decide) rfl (by decide +kernel) h_20 ?_
        refine z_iconst (M := M_X12_holds) dX12_holds_43 ?_
        refine z_goto (M := M_X12_holds) (tgt := 48) dX12_holds_44 (by decide) ?_
        exact z_st (by rw [zv_t (p := (w32 x_17) = 1) h_20]) J_19
      · refine z_icmp_ne_t (M := M_X12_holds) (tgt := 47) dX12_holds_40 (by decide) rfl (by decide +kernel) h_20 ?_
        refine z_iconst (M := M_X12_holds) dX12_holds_47 ?_
        exact z_st (by rw [zv_f (p := (w32 x_17) = 1) h_20]) J_19
    · refine z_if_le_t (M := M_X12_holds) (tgt := 49) dX12_holds_34 (by decide) rfl (Int.not_lt.mp h_18) ?_
      refine z_iinc (M := M_X12_holds) (lv' := [some (vr 277), some (vi shell_0), some (vi hole_0), some (vi (k_1 + 1)), some (vi x_17)]) dX12_holds_49 rfl (Nat.le_of_ble_eq_true rfl) rfl rfl ?_
      refine z_goto (M := M_X12_holds) (tgt := 2) dX12_holds_52 (by decide) ?_
      refine z_le (lv' := [some (vr 277), some (vi shell_0), some (vi hole_0), some (vi (k_1 + 1)), none]) ⟨Or.inr rfl, Or.inr rfl, Or.inr rfl, Or.inr rfl, Or.inl rfl, trivial⟩ ?_
      exact K_7 _ (Option.some.inj H).symm
  · refine z_icmp_ge_t (M := M_X12_holds) (tgt := 55) dX12_holds_9 (by decide) rfl rfl (Int.not_lt.mp h_11) ?_
    exact J_24 _ (K_8 _ (Option.some.inj H).symm).symm
theorem c_X12_giveHoles (hl : l.stackTraces = false) {σ : SG} {σ' : SG}  (H : fR_giveHoles σ = some σ') : en_S l E M_X12_giveHoles 5 0 0 [vr 277] σ (pS (none) σ') := by
  unfold fR_giveHoles at H
  refine z_mk (lv := [some (vr 277), none, none]) m_X12_giveHoles rfl hl (Nat.le_of_ble_eq_true rfl) rfl ?_
  refine z_iconst (M := M_X12_giveHoles) dX12_giveHoles_0 ?_
  refine z_istore_n (M := M_X12_giveHoles) (lv' := [some (vr 277), some (vi 0), none]) dX12_giveHoles_1 (Nat.le_of_ble_eq_true rfl) rfl rfl ?_
  obtain ⟨rl_6, hw_3, hk_4⟩ := bd_e H
  have J_105 : ∀ h_103 σ_104, rl_6 = (h_103, σ_104) → YY l E M_X12_giveHoles 5 0 0 (pS (none) σ') 117 [some (vr 277), some (vi h_103), none] [] σ_104 0 0 := by
    intro h_103 σ_104 e
    have H := hk_4
    rw [e] at H
    cases H
    exact z_vret (M := M_X12_giveHoles) dX12_giveHoles_117 rfl (Nat.le_of_ble_eq_true rfl) (Nat.le_of_ble_eq_true rfl) ⟨rfl, rfl⟩
  refine whl_go hw_3 (fun (h_1, σ_2) => YY l E M_X12_giveHoles 5 0 0 (pS (none) σ') 2 [some (vr 277), some (vi h_1), none] [] σ_2 0 0) ?_
  rintro ⟨h_1, σ_2⟩ o_7 H K_8 K_9
  refine z_iload_n (M := M_X12_giveHoles) dX12_giveHoles_2 rfl ?_
  refine z_aload_n (M := M_X12_giveHoles) dX12_giveHoles_3 rfl ?_
  refine z_getI (M := M_X12_giveHoles) (ci := 15) (C := RX12) (T := TX12) (Nf := 135) (ty := tyX12) cl15 dX12_giveHoles_4 ly_277 99 (by decide) t_2490 rfl rfl ?_
  rcases if_e H with ⟨h_10, H⟩ | ⟨h_10, H⟩
  · refine z_icmp_ge_f (M := M_X12_giveHoles) (tgt := 117) dX12_giveHoles_7 (by decide) rfl rfl h_10 ?_
    refine z_aload_n (M := M_X12_giveHoles) dX12_giveHoles_10 rfl ?_
    refine z_getR (M := M_X12_giveHoles) (ci := 15) (C := RX12) (T := TX12) (Nf := 135) (ty := tyX12) cl15 dX12_giveHoles_11 ly_277 98 (by decide) t_2489 rfl ?_
    refine z_iload_n (M := M_X12_giveHoles) dX12_giveHoles_14 rfl ?_
    refine z_iconst (M := M_X12_giveHoles) dX12_giveHoles_15 ?_
    obtain ⟨σ_11, σ_11_e, hi_12, H⟩ := wa_e H
    refine z_iast (M := M_X12_giveHoles) dX12_giveHoles_16 ly_335 rfl rfl rfl hi_12 σ_11_e ?_
    refine z_iconst (M := M_X12_giveHoles) dX12_giveHoles_17 ?_
    refine z_istore_n (M := M_X12_giveHoles) (lv' := [some (vr 277), some (vi h_1), some (vi 0)]) dX12_giveHoles_18 (Nat.le_of_ble_eq_true rfl) rfl rfl ?_
    obtain ⟨rl_18, hw_15, hk_16⟩ := bd_e H
    have J_101 : ∀ s_98 σ_99, rl_18 = (s_98, σ_99) → YY l E M_X12_giveHoles 5 0 0 (pS (none) σ') 111 [some (vr 277), some (vi h_1), some (vi s_98)] [] σ_99 0 0 := by
      intro s_98 σ_99 e
      have H := hk_16
      rw [e] at H
      refine z_iinc (M := M_X12_giveHoles) (lv' := [some (vr 277), some (vi (h_1 + 1)), some (vi s_98)]) dX12_giveHoles_111 rfl (Nat.le_of_ble_eq_true rfl) rfl rfl ?_
      refine z_goto (M := M_X12_giveHoles) (tgt := 2) dX12_giveHoles_114 (by decide) ?_
      refine z_le (lv' := [some (vr 277), some (vi (h_1 + 1)), none]) ⟨Or.inr rfl, Or.inr rfl, Or.inl rfl, trivial⟩ ?_
      exact K_8 _ (Option.some.inj H).symm
    refine whl_go hw_15 (fun (s_13, σ_14) => YY l E M_X12_giveHoles 5 0 0 (pS (none) σ') 19 [some (vr 277), some (vi h_1), some (vi s_13)] [] σ_14 0 0) ?_
    rintro ⟨s_13, σ_14⟩ o_19 H K_20 K_21
    refine z_iload_n (M := M_X12_giveHoles) dX12_giveHoles_19 rfl ?_
    refine z_aload_n (M := M_X12_giveHoles) dX12_giveHoles_20 rfl ?_
    refine z_getI (M := M_X12_giveHoles) (ci := 15) (C := RX12) (T := TX12) (Nf := 135) (ty := tyX12) cl15 dX12_giveHoles_21 ly_277 99 (by decide) t_2490 rfl rfl ?_
    rcases if_e H with ⟨h_30, H⟩ | ⟨h_30, H⟩
    · refine z_icmp_ge_f (M := M_X12_giveHoles) (tgt := 111) dX12_giveHoles_24 (by decide) rfl rfl h_30 ?_
      refine z_aload_n (M := M_X12_giveHoles) dX12_giveHoles_27 rfl ?_
      refine z_getR (M := M_X12_giveHoles) (ci := 15) (C := RX12) (T := TX12) (Nf := 135) (ty := tyX12) cl15 dX12_giveHoles_28 ly_277 97 (by decide) t_2488 rfl ?_
      refine z_iload_n (M := M_X12_giveHoles) dX12_giveHoles_31 rfl ?_
      obtain ⟨x_31, x_31_e, hi_32, H⟩ := rd_e H
      refine z_lald (M := M_X12_giveHoles) dX12_giveHoles_32 ly_334 rfl rfl rfl hi_32 x_31_e ?_
      refine z_lconst (M := M_X12_giveHoles) (m := 0) dX12_giveHoles_33 (by decide +kernel) ?_
      refine z_lcmp (M := M_X12_giveHoles) dX12_giveHoles_34 ?_
      rcases if_e H with ⟨h_33, H⟩ | ⟨h_33, H⟩
      · refine z_lif_ge_f (M := M_X12_giveHoles) (tgt := 111) dX12_giveHoles_35 (by decide) rfl (by decide +kernel) h_33 ?_
        refine z_aload_n (M := M_X12_giveHoles) dX12_giveHoles_38 rfl ?_
        refine z_getR (M := M_X12_giveHoles) (ci := 15) (C := RX12) (T := TX12) (Nf := 135) (ty := tyX12) cl15 dX12_giveHoles_39 ly_277 97 (by decide) t_2488 rfl ?_
        refine z_iload_n (M := M_X12_giveHoles) dX12_giveHoles_42 rfl ?_
        obtain ⟨x_46, x_46_e, hi_47, H⟩ := rd_e H
        refine z_lald (M := M_X12_giveHoles) dX12_giveHoles_43 ly_334 rfl rfl rfl hi_47 x_46_e ?_
        refine z_aload_n (M := M_X12_giveHoles) dX12_giveHoles_44 rfl ?_
        refine z_getR (M := M_X12_giveHoles) (ci := 15) (C := RX12) (T := TX12) (Nf := 135) (ty := tyX12) cl15 dX12_giveHoles_45 ly_277 97 (by decide) t_2488 rfl ?_
        refine z_iload_n (M := M_X12_giveHoles) dX12_giveHoles_48 rfl ?_
        obtain ⟨x_48, x_48_e, hi_49, H⟩ := rd_e H
        refine z_lald (M := M_X12_giveHoles) dX12_giveHoles_49 ly_334 rfl rfl rfl hi_49 x_48_e ?_
        refine z_lneg (M := M_X12_giveHoles) dX12_giveHoles_50 ?_
        refine z_lcmp (M := M_X12_giveHoles) dX12_giveHoles_51 ?_
        rcases if_e H with ⟨h_50, H⟩ | ⟨h_50, H⟩
        · refine z_lif_le_t (M := M_X12_giveHoles) (tgt := 105) dX12_giveHoles_52 (by decide) rfl rfl h_50 ?_
          refine z_iinc (M := M_X12_giveHoles) (lv' := [some (vr 277), some (vi h_1), some (vi (s_13 + 1))]) dX12_giveHoles_105 rfl (Nat.le_of_ble_eq_true rfl) rfl rfl ?_
          refine z_goto (M := M_X12_giveHoles) (tgt := 19) dX12_giveHoles_108 (by decide) ?_
          exact K_20 _ (Option.some.inj H).symm
        · refine z_lif_le_f (M := M_X12_giveHoles) (tgt := 105) dX12_giveHoles_52 (by decide) rfl rfl (Int.not_le.mp h_50) ?_
          refine z_aload_n (M := M_X12_giveHoles) dX12_giveHoles_55 rfl ?_
          refine z_iload_n (M := M_X12_giveHoles) dX12_giveHoles_56 rfl ?_
          refine z_iload_n (M := M_X12_giveHoles) dX12_giveHoles_57 rfl ?_
          obtain ⟨x_53, hc_52, H⟩ := bd_e H
          refine z_callV (M := M_X12_giveHoles) (M' := M_X12_holds) (as := [vi s_13, vi h_1]) (rest := []) rfl rfl dX12_giveHoles_58 m_X12_holds t_3458 t_3460 s_273 (c_X12_holds hl  hc_52) rfl rfl ly_277 rfl (Nat.le_of_ble_eq_true rfl) (Nat.le_of_ble_eq_true rfl) (Nat.le_of_ble_eq_true rfl) (Nat.le_of_ble_eq_true rfl) ?_
          refine z_st (st' := [zv x_53]) rfl ?_
          rcases if_e H with ⟨h_54, H⟩ | ⟨h_54, H⟩
          · refine z_zne_t (M := M_X12_giveHoles) (tgt := 67) dX12_giveHoles_61 (by decide) h_54 ?_
            obtain ⟨v_58, he_55, hk_56⟩ := bd_e H
            have J_94 : ∀ σ_92, v_58 = σ_92 → YY l E M_X12_giveHoles 5 0 0 (pS (none) σ') 105 [some (vr 277), some (vi h_1), some (vi s_13)] [] σ_92 0 0 := by
              intro σ_92 e
              have H := hk_56
              rw [e] at H
              refine z_iinc (M := M_X12_giveHoles) (lv' := [some (vr 277), some (vi h_1), some (vi (s_13 + 1))]) dX12_giveHoles_105 rfl (Nat.le_of_ble_eq_true rfl) rfl rfl ?_
              refine z_goto (M := M_X12_giveHoles) (tgt := 19) dX12_giveHoles_108 (by decide) ?_
              exact K_20 _ (Option.some.inj H).symm
            have H := he_55
            refine z_aload_n (M := M_X12_giveHoles) dX12_giveHoles_67 rfl ?_
            refine z_getR (M := M_X12_giveHoles) (ci := 15) (C := RX12) (T := TX12) (Nf := 135) (ty := tyX12) cl15 dX12_giveHoles_68 ly_277 98 (by decide) t_2489 rfl ?_
            refine z_iload_n (M := M_X12_giveHoles) dX12_giveHoles_71 rfl ?_
            obtain ⟨x_75, x_75_e, hi_76, H⟩ := rd_e H
            refine z_iald (M := M_X12_giveHoles) dX12_giveHoles_72 ly_335 rfl rfl rfl hi_76 x_75_e ?_
            refine z_iconst (M := M_X12_giveHoles) dX12_giveHoles_73 ?_
            rcases if_e H with ⟨h_77, H⟩ | ⟨h_77, H⟩
            · refine z_icmp_eq_t (M := M_X12_giveHoles) (tgt := 98) dX12_giveHoles_74 (by decide) rfl (by decide +kernel) h_77 ?_
              refine z_aload_n (M := M_X12_giveHoles) dX12_giveHoles_98 rfl ?_
              refine z_getR (M := M_X12_giveHoles) (ci := 15) (C := RX12) (T := TX12) (Nf := 135) (ty := tyX12) cl15 dX12_giveHoles_99 ly_277 98 (by decide) t_2489 rfl ?_
              refine z_iload_n (M := M_X12_giveHoles) dX12_giveHoles_102 rfl ?_
              refine z_iload_n (M := M_X12_giveHoles) dX12_giveHoles_103 rfl ?_
              obtain ⟨σ_78, σ_78_e, hi_79, H⟩ := wa_e H
              refine z_iast (M := M_X12_giveHoles) dX12_giveHoles_104 ly_335 rfl rfl rfl hi_79 σ_78_e ?_
              exact J_94 _ (Option.some.inj H).symm
            · refine z_icmp_eq_f (M := M_X12_giveHoles) (tgt := 98) dX12_giveHoles_74 (by decide) rfl (by decide +kernel) h_77 ?_
              refine z_aload_n (M := M_X12_giveHoles) dX12_giveHoles_77 rfl ?_
              refine z_getR (M := M_X12_giveHoles) (ci := 15) (C := RX12) (T := TX12) (Nf := 135) (ty := tyX12) cl15 dX12_giveHoles_78 ly_277 97 (by decide) t_2488 rfl ?_
              refine z_iload_n (M := M_X12_giveHoles) dX12_giveHoles_81 rfl ?_
              obtain ⟨x_81, x_81_e, hi_82, H⟩ := rd_e H
              refine z_lald (M := M_X12_giveHoles) dX12_giveHoles_82 ly_334 rfl rfl rfl hi_82 x_81_e ?_
              refine z_aload_n (M := M_X12_giveHoles) dX12_giveHoles_83 rfl ?_
              refine z_getR (M := M_X12_giveHoles) (ci := 15) (C := RX12) (T := TX12) (Nf := 135) (ty := tyX12) cl15 dX12_giveHoles_84 ly_277 97 (by decide) t_2488 rfl ?_
              refine z_aload_n (M := M_X12_giveHoles) dX12_giveHoles_87 rfl ?_
              refine z_getR (M := M_X12_giveHoles) (ci := 15) (C := RX12) (T := TX12) (Nf := 135) (ty := tyX12) cl15 dX12_giveHoles_88 ly_277 98 (by decide) t_2489 rfl ?_
              refine z_iload_n (M := M_X12_giveHoles) dX12_giveHoles_91 rfl ?_
              obtain ⟨x_83, x_83_e, hi_84, H⟩ := rd_e H
              refine z_iald (M := M_X12_giveHoles) dX12_giveHoles_92 ly_335 rfl rfl rfl hi_84 x_83_e ?_
              obtain ⟨x_85, x_85_e, hi_86, H⟩ := rd_e H
              refine z_lald (M := M_X12_giveHoles) dX12_giveHoles_93 ly_334 rfl rfl rfl hi_86 x_85_e ?_
              refine z_lcmp (M := M_X12_giveHoles) dX12_giveHoles_94 ?_
              rcases if_e H with ⟨h_87, H⟩ | ⟨h_87, H⟩
              · refine z_lif_ge_f (M := M_X12_giveHoles) (tgt := 105) dX12_giveHoles_95 (by decide) rfl rfl h_87 ?_
                refine z_aload_n (M := M_X12_giveHoles) dX12_giveHoles_98 rfl ?_
                refine z_getR (M := M_X12_giveHoles) (ci := 15) (C := RX12) (T := TX12) (Nf := 135) (ty := tyX12) cl15 dX12_giveHoles_99 ly_277 98 (by decide) t_2489 rfl ?_
                refine z_iload_n (M := M_X12_giveHoles) dX12_giveHoles_102 rfl ?_
                refine z_iload_n (M := M_X12_giveHoles) dX12_giveHoles_103 rfl ?_
                obtain ⟨σ_88, σ_88_e, hi_89, H⟩ := wa_e H
                refine z_iast (M := M_X12_giveHoles) dX12_giveHoles_104 ly_335 rfl rfl rfl hi_89 σ_88_e ?_
                exact J_94 _ (Option.some.inj H).symm
              · refine z_lif_ge_t (M := M_X12_giveHoles) (tgt := 105) dX12_giveHoles_95 (by decide) rfl rfl (Int.not_lt.mp h_87) ?_
                exact J_94 _ (Option.some.inj H).symm
          · refine z_zne_f (M := M_X12_giveHoles) (tgt := 67) dX12_giveHoles_61 (by decide) h_54 ?_
            refine z_goto (M := M_X12_giveHoles) (tgt := 105) dX12_giveHoles_64 (by decide) ?_
            refine z_iinc (M := M_X12_giveHoles) (lv' := [some (vr 277), some (vi h_1), some (vi (s_13 + 1))]) dX12_giveHoles_105 rfl (Nat.le_of_ble_eq_true rfl) rfl rfl ?_
            refine z_goto (M := M_X12_giveHoles) (tgt := 19) dX12_giveHoles_108 (by decide) ?_
            exact K_20 _ (Option.some.inj H).symm
      · refine z_lif_ge_t (M := M_X12_giveHoles) (tgt := 111) dX12_giveHoles_35 (by decide) rfl (by decide +kernel) (Int.not_lt.mp h_33) ?_
        exact J_101 _ _ (K_21 _ (Option.some.inj H).symm).symm
    · refine z_icmp_ge_t (M := M_X12_giveHoles) (tgt := 111) dX12_giveHoles_24 (by decide) rfl rfl (Int.not_lt.mp h_30) ?_
      exact J_101 _ _ (K_21 _ (Option.some.inj H).symm).symm
  · refine z_icmp_ge_t (M := M_X12_giveHoles) (tgt := 117) dX12_giveHoles_7 (by decide) rfl rfl (Int.not_lt.mp h_10) ?_
    exact J_105 _ _ (K_9 _ (Option.some.inj H).symm).symm
theorem c_X12_isEarlier (hl : l.stackTraces = false) {σ : SG} {out_0 : Int} {other_0 : Int} {r : Bool}  (H : fR_isEarlier σ out_0 other_0 = some r) : en_S l E M_X12_isEarlier 1 0 0 [vr 277, vi out_0, vi other_0] σ (pS (some (zv r)) σ) := by
  unfold fR_isEarlier at H
  refine z_mk (lv := [some (vr 277), some (vi out_0), some (vi other_0), none, none]) m_X12_isEarlier rfl hl (Nat.le_of_ble_eq_true rfl) rfl ?_
  refine z_aload_n (M := M_X12_isEarlier) dX12_isEarlier_0 rfl ?_
  refine z_getR (M := M_X12_isEarlier) (ci := 15) (C := RX12) (T := TX12) (Nf := 135) (ty := tyX12) cl15 dX12_isEarlier_1 ly_277 95 (by decide) t_2486 rfl ?_
  refine z_iload_n (M := M_X12_isEarlier) dX12_isEarlier_4 rfl ?_
  obtain ⟨x_1, x_1_e, hi_2, H⟩ := rd_e H
  refine z_iald (M := M_X12_isEarlier) dX12_isEarlier_5 ly_332 rfl rfl rfl hi_2 x_1_e ?_
  refine z_istore_n (M := M_X12_isEarlier) (lv' := [some (vr 277), some (vi out_0), some (vi other_0), some (vi x_1), none]) dX12_isEarlier_6 (Nat.le_of_ble_eq_true rfl) rfl rfl ?_
  refine z_aload_n (M := M_X12_isEarlier) dX12_isEarlier_7 rfl ?_
  refine z_getR (M := M_X12_isEarlier) (ci := 15) (C := RX12) (T := TX12) (Nf := 135) (ty := tyX12) cl15 dX12_isEarlier_8 ly_277 95 (by decide) t_2486 rfl ?_
  refine z_iload_n (M := M_X12_isEarlier) dX12_isEarlier_11 rfl ?_
  obtain ⟨x_3, x_3_e, hi_4, H⟩ := rd_e H
  refine z_iald (M := M_X12_isEarlier) dX12_isEarlier_12 ly_332 rfl rfl rfl hi_4 x_3_e ?_
  refine z_istore (M := M_X12_isEarlier) (lv' := [some (vr 277), some (vi out_0), some (vi other_0), some (vi x_1), some (vi x_3)]) dX12_isEarlier_13 (Nat.le_of_ble_eq_true rfl) rfl rfl ?_
  obtain ⟨v_25, he_26, hk_27⟩ := bd_e H
  have J_28 : ∀ x_24, v_25 = x_24 → YY l E M_X12_isEarlier 1 0 0 (pS (some (zv r)) σ) 72 [some (vr 277), some (vi out_0), some (vi other_0), some (vi x_1), some (vi x_3)] [zv x_24] σ 0 0 := by
    intro x_24 e
    have H := hk_27
    rw [e] at H
    cases H
    exact z_zret (M := M_X12_isEarlier) dX12_isEarlier_72 rfl (Nat.le_of_ble_eq_true rfl) (Nat.le_of_ble_eq_true rfl) ⟨rfl, rfl⟩
  have H := he_26
  refine z_aload_n (M := M_X12_isEarlier) dX12_isEarlier_15 rfl ?_
  refine z_getR (M := M_X12_isEarlier) (ci := 15) (C := RX12) (T := TX12) (Nf := 135) (ty := tyX12) cl15 dX12_isEarlier_16 ly_277 93 (by decide) t_2484 rfl ?_
  refine z_iload_n (M := M_X12_isEarlier) dX12_isEarlier_19 rfl ?_
  obtain ⟨x_5, x_5_e, hi_6, H⟩ := rd_e H
  refine z_iald (M := M_X12_isEarlier) dX12_isEarlier_20 ly_331 rfl rfl rfl hi_6 x_5_e ?_
  refine z_aload_n (M := M_X12_isEarlier) dX12_isEarlier_21 rfl ?_
  refine z_getR (M := M_X12_isEarlier) (ci := 15) (C := RX12) (T := TX12) (Nf := 135) (ty := tyX12) cl15 dX12_isEarlier_22 ly_277 93 (by decide) t_2484 rfl ?_
  refine z_iload (M := M_X12_isEarlier) dX12_isEarlier_25 rfl ?_
  obtain ⟨x_7, x_7_e, hi_8, H⟩ := rd_e H
  refine z_iald (M := M_X12_isEarlier) dX12_isEarlier_27 ly_331 rfl rfl rfl hi_8 x_7_e ?_
  rcases if_e H with ⟨h_9, H⟩ | ⟨h_9, H⟩
  · refine z_icmp_lt_t (M := M_X12_isEarlier) (tgt := 67) dX12_isEarlier_28 (by decide) rfl rfl h_9 ?_
    refine z_zconst (M := M_X12_isEarlier) (b := true) dX12_isEarlier_67 rfl ?_
    refine z_goto (M := M_X12_isEarlier) (tgt := 72) dX12_isEarlier_68 (by decide) ?_
    exact J_28 _ (Option.some.inj H).symm
  · refine z_icmp_lt_f (M := M_X12_isEarlier) (tgt := 67) dX12_isEarlier_28 (by decide) rfl rfl (Int.not_lt.mp h_9) ?_
    refine z_aload_n (M := M_X12_isEarlier) dX12_isEarlier_31 rfl ?_
    refine z_getR (M := M_X12_isEarlier) (ci := 15) (C := RX12) (T := TX12) (Nf := 135) (ty := tyX12) cl15 dX12_isEarlier_32 ly_277 93 (by decide) t_2484 rfl ?_
    refine z_iload_n (M := M_X12_isEarlier) dX12_isEarlier_35 rfl ?_
    obtain ⟨x_11, x_11_e, hi_12, H⟩ := rd_e H
    refine z_iald (M := M_X12_isEarlier) dX12_isEarlier_36 ly_331 rfl rfl rfl hi_12 x_11_e ?_
    refine z_aload_n (M := M_X12_isEarlier) dX12_isEarlier_37 rfl ?_
    refine z_getR (M := M_X12_isEarlier) (ci := 15) (C := RX12) (T := TX12) (Nf := 135) (ty := tyX12) cl15 dX12_isEarlier_38 ly_277 93 (by decide) t_2484 rfl ?_
    refine z_iload (M := M_X12_isEarlier) dX12_isEarlier_41 rfl ?_
    obtain ⟨x_13, x_13_e, hi_14, H⟩ := rd_e H
    refine z_iald (M := M_X12_isEarlier) dX12_isEarlier_43 ly_331 rfl rfl rfl hi_14 x_13_e ?_
    rcases if_e H with ⟨h_15, H⟩ | ⟨h_15, H⟩
    · refine z_icmp_ne_f (M := M_X12_isEarlier) (tgt := 71) dX12_isEarlier_44 (by decide) rfl rfl h_15 ?_
      refine z_aload_n (M := M_X12_isEarlier) dX12_isEarlier_47 rfl ?_
      refine z_getR (M := M_X12_isEarlier) (ci := 15) (C := RX12) (T := TX12) (Nf := 135) (ty := tyX12) cl15 dX12_isEarlier_48 ly_277 93 (by decide) t_2484 rfl ?_
      refine z_iload_n (M := M_X12_isEarlier) dX12_isEarlier_51 rfl ?_
      refine z_iconst (M := M_X12_isEarlier) dX12_isEarlier_52 ?_
      refine z_iadd (M := M_X12_isEarlier) dX12_isEarlier_53 ?_
      obtain ⟨x_16, x_16_e, hi_17, H⟩ := rd_e H
      refine z_iald (M := M_X12_isEarlier) dX12_isEarlier_54 ly_331 rfl rfl rfl hi_17 x_16_e ?_
      refine z_aload_n (M := M_X12_isEarlier) dX12_isEarlier_55 rfl ?_
      refine z_getR (M := M_X12_isEarlier) (ci := 15) (C := RX12) (T := TX12) (Nf := 135) (ty := tyX12) cl15 dX12_isEarlier_56 ly_277 93 (by decide) t_2484 rfl ?_
      refine z_iload (M := M_X12_isEarlier) dX12_isEarlier_59 rfl ?_
      refine z_iconst (M := M_X12_isEarlier) dX12_isEarlier_61 ?_
      refine z_iadd (M := M_X12_isEarlier) dX12_isEarlier_62 ?_
      obtain ⟨x_18, x_18_e, hi_19, H⟩ := rd_e H
      refine z_iald (M := M_X12_isEarlier) dX12_isEarlier_63 ly_331 rfl rfl rfl hi_19 x_18_e ?_
      rcases if_e H with ⟨h_20, H⟩ | ⟨h_20, H⟩
      · refine z_icmp_ge_f (M := M_X12_isEarlier) (tgt := 71) dX12_isEarlier_64 (by decide) rfl rfl h_20 ?_
        refine z_zconst (M := M_X12_isEarlier) (b := true) dX12_isEarlier_67 rfl ?_
        refine z_goto (M := M_X12_isEarlier) (tgt := 72) dX12_isEarlier_68 (by decide) ?_
        exact J_28 _ (Option.some.inj H).symm
      · refine z_icmp_ge_t (M := M_X12_isEarlier) (tgt := 71) dX12_isEarlier_64 (by decide) rfl rfl (Int.not_lt.mp h_20) ?_
        refine z_zconst (M := M_X12_isEarlier) (b := false) dX12_isEarlier_71 rfl ?_
        exact J_28 _ (Option.some.inj H).symm
    · refine z_icmp_ne_t (M := M_X12_isEarlier) (tgt := 71) dX12_isEarlier_44 (by decide) rfl rfl h_15 ?_
      refine z_zconst (M := M_X12_isEarlier) (b := false) dX12_isEarlier_71 rfl ?_
      exact J_28 _ (Option.some.inj H).symm
theorem c_X12_nextOut (hl : l.stackTraces = false) {σ : SG} {shell_0 : Int} {behind_0 : Int} {r : Int}  (H : fR_nextOut σ shell_0 behind_0 = some r) : en_S l E M_X12_nextOut 2 0 0 [vr 277, vi shell_0, vi behind_0] σ (pS (some (vi r)) σ) := by
  unfold fR_nextOut at H
  refine z_mk (lv := [some (vr 277), some (vi shell_0), some (vi behind_0), none, none, none]) m_X12_nextOut rfl hl (Nat.le_of_ble_eq_true rfl) rfl ?_
  refine z_iconst (M := M_X12_nextOut) dX12_nextOut_0 ?_
  refine z_istore_n (M := M_X12_nextOut) (lv' := [some (vr 277), some (vi shell_0), some (vi behind_0), some (vi (-1)), none, none]) dX12_nextOut_1 (Nat.le_of_ble_eq_true rfl) rfl rfl ?_
  refine z_iconst (M := M_X12_nextOut) dX12_nextOut_2 ?_
  refine z_istore (M := M_X12_nextOut) (lv' := [some (vr 277), some (vi shell_0), some (vi behind_0), some (vi (-1)), some (vi 0), none]) dX12_nextOut_3 (Nat.le_of_ble_eq_true rfl) rfl rfl ?_
  obtain ⟨rl_6, hw_3, hk_4⟩ := bd_e H
  have J_153 : ∀ best_151 k_152, rl_6 = (best_151, k_152) → YY l E M_X12_nextOut 2 0 0 (pS (some (vi r)) σ) 116 [some (vr 277), some (vi shell_0), some (vi behind_0), some (vi best_151), some (vi k_152), none] [] σ 0 0 := by
    intro best_151 k_152 e
    have H := hk_4
    rw [e] at H
    refine z_iload_n (M := M_X12_nextOut) dX12_nextOut_116 rfl ?_
    cases H
    exact z_iret (M := M_X12_nextOut) dX12_nextOut_117 rfl (Nat.le_of_ble_eq_true rfl) (Nat.le_of_ble_eq_true rfl) ⟨rfl, rfl⟩
  refine whl_go hw_3 (fun (best_1, k_2) => YY l E M_X12_nextOut 2 0 0 (pS (some (vi r)) σ) 5 [some (vr 277), some (vi shell_0), some (vi behind_0), some (vi best_1), some (vi k_2), none] [] σ 0 0) ?_
  rintro ⟨best_1, k_2⟩ o_7 H K_8 K_9
  refine z_iload (M := M_X12_nextOut) dX12_nextOut_5 rfl ?_
  refine z_aload_n (M := M_X12_nextOut) dX12_nextOut_7 rfl ?_
  refine z_getI (M := M_X12_nextOut) (ci := 15) (C := RX12) (T := TX12) (Nf := 135) (ty := tyX12) cl15 dX12_nextOut_8 ly_277 99 (by decide) t_2490 rfl rfl ?_
  rcases if_e H with ⟨h_10, H⟩ | ⟨h_10, H⟩
  · refine z_icmp_ge_f (M := M_X12_nextOut) (tgt := 116) dX12_nextOut_11 (by decide) rfl rfl h_10 ?_
    obtain ⟨v_146, he_147, hk_148⟩ := bd_e H
    have J_149 : ∀ x_62, v_146 = x_62 → YY l E M_X12_nextOut 2 0 0 (pS (some (vi r)) σ) 67 [some (vr 277), some (vi shell_0), some (vi behind_0), some (vi best_1), some (vi k_2), none] [zv x_62] σ 0 0 := by
      intro x_62 e
      have H := hk_148
      rw [e] at H
      refine z_zstore (M := M_X12_nextOut) (lv' := [some (vr 277), some (vi shell_0), some (vi behind_0), some (vi best_1), some (vi k_2), some (zv x_62)]) dX12_nextOut_67 (Nat.le_of_ble_eq_true rfl) rfl rfl ?_
      refine z_zload (M := M_X12_nextOut) dX12_nextOut_69 rfl ?_
      rcases if_e H with ⟨h_95, H⟩ | ⟨h_95, H⟩
      · refine z_zeq_f (M := M_X12_nextOut) (tgt := 110) dX12_nextOut_71 (by decide) h_95 ?_
        refine z_iload_n (M := M_X12_nextOut) dX12_nextOut_74 rfl ?_
        refine z_iconst (M := M_X12_nextOut) dX12_nextOut_75 ?_
        rcases if_e H with ⟨h_96, H⟩ | ⟨h_96, H⟩
        · refine z_icmp_eq_f (M := M_X12_nextOut) (tgt := 92) dX12_nextOut_76 (by decide) rfl (by decide +kernel) h_96 ?_
          refine z_aload_n (M := M_X12_nextOut) dX12_nextOut_79 rfl ?_
          refine z_iload_n (M := M_X12_nextOut) dX12_nextOut_80 rfl ?_
          refine z_iload (M := M_X12_nextOut) dX12_nextOut_81 rfl ?_
          obtain ⟨x_98, hc_97, H⟩ := bd_e H
          refine z_callV (M := M_X12_nextOut) (M' := M_X12_isEarlier) (as := [vi behind_0, vi k_2]) (rest := []) rfl rfl dX12_nextOut_83 m_X12_isEarlier t_3474 t_3476 s_277 (c_X12_isEarlier hl  hc_97) rfl rfl ly_277 rfl (Nat.le_of_ble_eq_true rfl) (Nat.le_of_ble_eq_true rfl) (Nat.le_of_ble_eq_true rfl) (Nat.le_of_ble_eq_true rfl) ?_
          refine z_st (st' := [zv x_98]) rfl ?_
          rcases if_e H with ⟨h_99, H⟩ | ⟨h_99, H⟩
          · refine z_zne_t (M := M_X12_nextOut) (tgt := 92) dX12_nextOut_86 (by decide) h_99 ?_
            obtain ⟨v_103, he_100, hk_101⟩ := bd_e H
            have J_121 : ∀ best_119, v_103 = best_119 → YY l E M_X12_nextOut 2 0 0 (pS (some (vi r)) σ) 110 [some (vr 277), some (vi shell_0), some (vi behind_0), some (vi best_119), some (vi k_2), some (zv x_62)] [] σ 0 0 := by
              intro best_119 e
              have H := hk_101
              rw [e] at H
              refine z_iinc (M := M_X12_nextOut) (lv' := [some (vr 277), some (vi shell_0), some (vi behind_0), some (vi best_119), some (vi (k_2 + 1)), some (zv x_62)]) dX12_nextOut_110 rfl (Nat.le_of_ble_eq_true rfl) rfl rfl ?_
              refine z_goto (M := M_X12_nextOut) (tgt := 5) dX12_nextOut_113 (by decide) ?_
              refine z_le (lv' := [some (vr 277), some (vi shell_0), some (vi behind_0), some (vi best_119), some (vi (k_2 + 1)), none]) ⟨Or.inr rfl, Or.inr rfl, Or.inr rfl, Or.inr rfl, Or.inr rfl, Or.inl rfl, trivial⟩ ?_
              exact K_8 _ (Option.some.inj H).symm
            have H := he_100
            refine z_iload_n (M := M_X12_nextOut) dX12_nextOut_92 rfl ?_
            refine z_iconst (M := M_X12_nextOut) dX12_nextOut_93 ?_
            rcases if_e H with ⟨h_112, H⟩ | ⟨h_112, H⟩
            · refine z_icmp_eq_t (M := M_X12_nextOut) (tgt := 107) dX12_nextOut_94 (by decide) rfl (by decide +kernel) h_112 ?_
              refine z_iload (M := M_X12_nextOut) dX12_nextOut_107 rfl ?_
              refine z_istore_n (M := M_X12_nextOut) (lv' := [some (vr 277), some (vi shell_0), some (vi behind_0), some (vi k_2), some (vi k_2), some (zv x_62)]) dX12_nextOut_109 (Nat.le_of_ble_eq_true rfl) rfl rfl ?_
              exact J_121 _ (Option.some.inj H).symm
            · refine z_icmp_eq_f (M := M_X12_nextOut) (tgt := 107) dX12_nextOut_94 (by decide) rfl (by decide +kernel) h_112 ?_
              refine z_aload_n (M := M_X12_nextOut) dX12_nextOut_97 rfl ?_
              refine z_iload (M := M_X12_nextOut) dX12_nextOut_98 rfl ?_
              refine z_iload_n (M := M_X12_nextOut) dX12_nextOut_100 rfl ?_
              obtain ⟨x_115, hc_114, H⟩ := bd_e H
              refine z_callV (M := M_X12_nextOut) (M' := M_X12_isEarlier) (as := [vi k_2, vi best_1]) (rest := []) rfl rfl dX12_nextOut_101 m_X12_isEarlier t_3474 t_3476 s_277 (c_X12_isEarlier hl  hc_114) rfl rfl ly_277 rfl (Nat.le_of_ble_eq_true rfl) (Nat.le_of_ble_eq_true rfl) (Nat.le_of_ble_eq_true rfl) (Nat.le_of_ble_eq_true rfl) ?_
              refine z_st (st' := [zv x_115]) rfl ?_
              rcases if_e H with ⟨h_116, H⟩ | ⟨h_116, H⟩
              · refine z_zeq_f (M := M_X12_nextOut) (tgt := 110) dX12_nextOut_104 (by decide) h_116 ?_
                refine z_iload (M := M_X12_nextOut) dX12_nextOut_107 rfl ?_
                refine z_istore_n (M := M_X12_nextOut) (lv' := [some (vr 277), some (vi shell_0), some (vi behind_0), some (vi k_2), some (vi k_2), some (zv x_62)]) dX12_nextOut_109 (Nat.le_of_ble_eq_true rfl) rfl rfl ?_
                exact J_121 _ (Option.some.inj H).symm
              · refine z_zeq_t (M := M_X12_nextOut) (tgt := 110) dX12_nextOut_104 (by decide) h_116 ?_
                exact J_121 _ (Option.some.inj H).symm
          · refine z_zne_f (M := M_X12_nextOut) (tgt := 92) dX12_nextOut_86 (by decide) h_99 ?_
            refine z_goto (M := M_X12_nextOut) (tgt := 110) dX12_nextOut_89 (by decide) ?_
            refine z_iinc (M := M_X12_nextOut) (lv' := [some (vr 277), some (vi shell_0), some (vi behind_0), some (vi best_1), some (vi (k_2 + 1)), some (zv x_62)]) dX12_nextOut_110 rfl (Nat.le_of_ble_eq_true rfl) rfl rfl ?_
            refine z_goto (M := M_X12_nextOut) (tgt := 5) dX12_nextOut_113 (by decide) ?_
            refine z_le (lv' := [some (vr 277), some (vi shell_0), some (vi behind_0), some (vi best_1), some (vi (k_2 + 1)), none]) ⟨Or.inr rfl, Or.inr rfl, Or.inr rfl, Or.inr rfl, Or.inr rfl, Or.inl rfl, trivial⟩ ?_
            exact K_8 _ (Option.some.inj H).symm
        · refine z_icmp_eq_t (M := M_X12_nextOut) (tgt := 92) dX12_nextOut_76 (by decide) rfl (by decide +kernel) (Decidable.not_not.mp h_96) ?_
          obtain ⟨v_126, he_123, hk_124⟩ := bd_e H
          have J_144 : ∀ best_142, v_126 = best_142 → YY l E M_X12_nextOut 2 0 0 (pS (some (vi r)) σ) 110 [some (vr 277), some (vi shell_0), some (vi behind_0), some (vi best_142), some (vi k_2), some (zv x_62)] [] σ 0 0 := by
            intro best_142 e
            have H := hk_124
            rw [e] at H
            refine z_iinc (M := M_X12_nextOut) (lv' := [some (vr 277), some (vi shell_0), some (vi behind_0), some (vi best_142), some (vi (k_2 + 1)), some (zv x_62)]) dX12_nextOut_110 rfl (Nat.le_of_ble_eq_true rfl) rfl rfl ?_
            refine z_goto (M := M_X12_nextOut) (tgt := 5) dX12_nextOut_113 (by decide) ?_
            refine z_le (lv' := [some (vr 277), some (vi shell_0), some (vi behind_0), some (vi best_142), some (vi (k_2 + 1)), none]) ⟨Or.inr rfl, Or.inr rfl, Or.inr rfl, Or.inr rfl, Or.inr rfl, Or.inl rfl, trivial⟩ ?_
            exact K_8 _ (Option.some.inj H).symm
          have H := he_123
          refine z_iload_n (M := M_X12_nextOut) dX12_nextOut_92 rfl ?_
          refine z_iconst (M := M_X12_nextOut) dX12_nextOut_93 ?_
          rcases if_e H with ⟨h_135, H⟩ | ⟨h_135, H⟩
          · refine z_icmp_eq_t (M := M_X12_nextOut) (tgt := 107) dX12_nextOut_94 (by decide) rfl (by decide +kernel) h_135 ?_
            refine z_iload (M := M_X12_nextOut) dX12_nextOut_107 rfl ?_
            refine z_istore_n (M := M_X12_nextOut) (lv' := [some (vr 277), some (vi shell_0), some (vi behind_0), some (vi k_2), some (vi k_2), some (zv x_62)]) dX12_nextOut_109 (Nat.le_of_ble_eq_true rfl) rfl rfl ?_
            exact J_144 _ (Option.some.inj H).symm
          · refine z_icmp_eq_f (M := M_X12_nextOut) (tgt := 107) dX12_nextOut_94 (by decide) rfl (by decide +kernel) h_135 ?_
            refine z_aload_n (M := M_X12_nextOut) dX12_nextOut_97 rfl ?_
            refine z_iload (M := M_X12_nextOut) dX12_nextOut_98 rfl ?_
            refine z_iload_n (M := M_X12_nextOut) dX12_nextOut_100 rfl ?_
            obtain ⟨x_138, hc_137, H⟩ := bd_e H
            refine z_callV (M := M_X12_nextOut) (M' := M_X12_isEarlier) (as := [vi k_2, vi best_1]) (rest := []) rfl rfl dX12_nextOut_101 m_X12_isEarlier t_3474 t_3476 s_277 (c_X12_isEarlier hl  hc_137) rfl rfl ly_277 rfl (Nat.le_of_ble_eq_true rfl) (Nat.le_of_ble_eq_true rfl) (Nat.le_of_ble_eq_true rfl) (Nat.le_of_ble_eq_true rfl) ?_
            refine z_st (st' := [zv x_138]) rfl ?_
            rcases if_e H with ⟨h_139, H⟩ | ⟨h_139, H⟩
            · refine z_zeq_f (M := M_X12_nextOut) (tgt := 110) dX12_nextOut_104 (by decide) h_139 ?_
              refine z_iload (M := M_X12_nextOut) dX12_nextOut_107 rfl ?_
              refine z_istore_n (M := M_X12_nextOut) (lv' := [some (vr 277), some (vi shell_0), some (vi behind_0), some (vi k_2), some (vi k_2), some (zv x_62)]) dX12_nextOut_109 (Nat.le_of_ble_eq_true rfl) rfl rfl ?_
              exact J_144 _ (Option.some.inj H).symm
            · refine z_zeq_t (M := M_X12_nextOut) (tgt := 110) dX12_nextOut_104 (by decide) h_139 ?_
              exact J_144 _ (Option.some.inj H).symm
      · refine z_zeq_t (M := M_X12_nextOut) (tgt := 110) dX12_nextOut_71 (by decide) h_95 ?_
        refine z_iinc (M := M_X12_nextOut) (lv' := [some (vr 277), some (vi shell_0), some (vi behind_0), some (vi best_1), some (vi (k_2 + 1)), some (zv x_62)]) dX12_nextOut_110 rfl (Nat.le_of_ble_eq_true rfl) rfl rfl ?_
        refine z_goto (M := M_X12_nextOut) (tgt := 5) dX12_nextOut_113 (by decide) ?_
        refine z_le (lv' := [some (vr 277), some (vi shell_0), some (vi behind_0), some (vi best_1), some (vi (k_2 + 1)), none]) ⟨Or.inr rfl, Or.inr rfl, Or.inr rfl, Or.inr rfl, Or.inr rfl, Or.inl rfl, trivial⟩ ?_
        exact K_8 _ (Option.some.inj H).symm
    have H := he_147
    refine z_iload_n (M := M_X12_nextOut) dX12_nextOut_14 rfl ?_
    refine z_iconst (M := M_X12_nextOut) dX12_nextOut_15 ?_
    rcases if_e H with ⟨h_35, H⟩ | ⟨h_35, H⟩
    · refine z_icmp_ne_f (M := M_X12_nextOut) (tgt := 39) dX12_nextOut_16 (by decide) rfl (by decide +kernel) h_35 ?_
      obtain ⟨v_43, he_44, hk_45⟩ := bd_e H
      have J_46 : ∀ x_41, v_43 = x_41 → YY l E M_X12_nextOut 2 0 0 (pS (some (vi r)) σ) 67 [some (vr 277), some (vi shell_0), some (vi behind_0), some (vi best_1), some (vi k_2), none] [zv x_41] σ 0 0 := by
        intro x_41 e
        have H := hk_45
        rw [e] at H
        exact J_149 _ (Option.some.inj H).symm
      have H := he_44
      refine z_aload_n (M := M_X12_nextOut) dX12_nextOut_19 rfl ?_
      refine z_getR (M := M_X12_nextOut) (ci := 15) (C := RX12) (T := TX12) (Nf := 135) (ty := tyX12) cl15 dX12_nextOut_20 ly_277 97 (by decide) t_2488 rfl ?_
      refine z_iload (M := M_X12_nextOut) dX12_nextOut_23 rfl ?_
      obtain ⟨x_36, x_36_e, hi_37, H⟩ := rd_e H
      refine z_lald (M := M_X12_nextOut) dX12_nextOut_25 ly_334 rfl rfl rfl hi_37 x_36_e ?_
      refine z_lconst (M := M_X12_nextOut) (m := 0) dX12_nextOut_26 (by decide +kernel) ?_
      refine z_lcmp (M := M_X12_nextOut) dX12_nextOut_27 ?_
      rcases if_e H with ⟨h_38, H⟩ | ⟨h_38, H⟩
      · refine z_lif_le_f (M := M_X12_nextOut) (tgt := 35) dX12_nextOut_28 (by decide) rfl (by decide +kernel) h_38 ?_
        refine z_zconst (M := M_X12_nextOut) (b := true) dX12_nextOut_31 rfl ?_
        refine z_goto (M := M_X12_nextOut) (tgt := 67) dX12_nextOut_32 (by decide) ?_
        exact J_46 _ (Option.some.inj H).symm
      · refine z_lif_le_t (M := M_X12_nextOut) (tgt := 35) dX12_nextOut_28 (by decide) rfl (by decide +kernel) (Int.not_lt.mp h_38) ?_
        refine z_zconst (M := M_X12_nextOut) (b := false) dX12_nextOut_35 rfl ?_
        refine z_goto (M := M_X12_nextOut) (tgt := 67) dX12_nextOut_36 (by decide) ?_
        exact J_46 _ (Option.some.inj H).symm
    · refine z_icmp_ne_t (M := M_X12_nextOut) (tgt := 39) dX12_nextOut_16 (by decide) rfl (by decide +kernel) h_35 ?_
      obtain ⟨v_58, he_59, hk_60⟩ := bd_e H
      have J_61 : ∀ x_56, v_58 = x_56 → YY l E M_X12_nextOut 2 0 0 (pS (some (vi r)) σ) 67 [some (vr 277), some (vi shell_0), some (vi behind_0), some (vi best_1), some (vi k_2), none] [zv x_56] σ 0 0 := by
        intro x_56 e
        have H := hk_60
        rw [e] at H
        exact J_149 _ (Option.some.inj H).symm
      have H := he_59
      refine z_aload_n (M := M_X12_nextOut) dX12_nextOut_39 rfl ?_
      refine z_getR (M := M_X12_nextOut) (ci := 15) (C := RX12) (T := TX12) (Nf := 135) (ty := tyX12) cl15 dX12_nextOut_40 ly_277 97 (by decide) t_2488 rfl ?_
      refine z_iload (M := M_X12_nextOut) dX12_nextOut_43 rfl ?_
      obtain ⟨x_47, x_47_e, hi_48, H⟩ := rd_e H
      refine z_lald (M := M_X12_nextOut) dX12_nextOut_45 ly_334 rfl rfl rfl hi_48 x_47_e ?_
      refine z_lconst (M := M_X12_nextOut) (m := 0) dX12_nextOut_46 (by decide +kernel) ?_
      refine z_lcmp (M := M_X12_nextOut) dX12_nextOut_47 ?_
      rcases if_e H with ⟨h_49, H⟩ | ⟨h_49, H⟩
      · refine z_lif_ge_f (M := M_X12_nextOut) (tgt := 66) dX12_nextOut_48 (by decide) rfl (by decide +kernel) h_49 ?_
        refine z_aload_n (M := M_X12_nextOut) dX12_nextOut_51 rfl ?_
        refine z_getR (M := M_X12_nextOut) (ci := 15) (C := RX12) (T := TX12) (Nf := 135) (ty := tyX12) cl15 dX12_nextOut_52 ly_277 98 (by decide) t_2489 rfl ?_
        refine z_iload (M := M_X12_nextOut) dX12_nextOut_55 rfl ?_
        obtain ⟨x_50, x_50_e, hi_51, H⟩ := rd_e H
        refine z_iald (M := M_X12_nextOut) dX12_nextOut_57 ly_335 rfl rfl rfl hi_51 x_50_e ?_
        refine z_iload_n (M := M_X12_nextOut) dX12_nextOut_58 rfl ?_
        rcases if_e H with ⟨h_52, H⟩ | ⟨h_52, H⟩
        · refine z_icmp_ne_f (M := M_X12_nextOut) (tgt := 66) dX12_nextOut_59 (by decide) rfl rfl h_52 ?_
          refine z_zconst (M := M_X12_nextOut) (b := true) dX12_nextOut_62 rfl ?_
          refine z_goto (M := M_X12_nextOut) (tgt := 67) dX12_nextOut_63 (by decide) ?_
          exact J_61 _ (Option.some.inj H).symm
        · refine z_icmp_ne_t (M := M_X12_nextOut) (tgt := 66) dX12_nextOut_59 (by decide) rfl rfl h_52 ?_
          refine z_zconst (M := M_X12_nextOut) (b := false) dX12_nextOut_66 rfl ?_
          exact J_61 _ (Option.some.inj H).symm
      · refine z_lif_ge_t (M := M_X12_nextOut) (tgt := 66) dX12_nextOut_48 (by decide) rfl (by decide +kernel) (Int.not_lt.mp h_49) ?_
        refine z_zconst (M := M_X12_nextOut) (b := false) dX12_nextOut_66 rfl ?_
        exact J_61 _ (Option.some.inj H).symm
  · refine z_icmp_ge_t (M := M_X12_nextOut) (tgt := 116) dX12_nextOut_11 (by decide) rfl rfl (Int.not_lt.mp h_10) ?_
    exact J_153 _ _ (K_9 _ (Option.some.inj H).symm).symm
theorem c_X12_tellOut (hl : l.stackTraces = false) {σ : SG} {out_0 : Int} {r : Bool} {σ' : SG}  (H : fR_tellOut σ out_0 = some (r, σ')) : en_S l E M_X12_tellOut 2 0 0 [vr 277, vi out_0] σ (pS (some (zv r)) σ') := by
  unfold fR_tellOut at H
  refine z_mk (lv := [some (vr 277), some (vi out_0), none, none]) m_X12_tellOut rfl hl (Nat.le_of_ble_eq_true rfl) rfl ?_
  refine z_aload_n (M := M_X12_tellOut) dX12_tellOut_0 rfl ?_
  refine z_getR (M := M_X12_tellOut) (ci := 15) (C := RX12) (T := TX12) (Nf := 135) (ty := tyX12) cl15 dX12_tellOut_1 ly_277 9 (by decide) t_2400 rfl ?_
  refine z_bipush (M := M_X12_tellOut) dX12_tellOut_4 (by decide +kernel) ?_
  obtain ⟨x_12, x_12_e, hi_13, H⟩ := rd_e H
  refine z_iald (M := M_X12_tellOut) dX12_tellOut_6 ly_280 rfl (by decide +kernel) rfl hi_13 x_12_e ?_
  refine z_iconst (M := M_X12_tellOut) dX12_tellOut_7 ?_
  refine z_iadd (M := M_X12_tellOut) dX12_tellOut_8 ?_
  refine z_sipush (M := M_X12_tellOut) dX12_tellOut_9 (by decide +kernel) ?_
  rcases if_e H with ⟨h_14, H⟩ | ⟨h_14, H⟩
  · refine z_icmp_gt_t (M := M_X12_tellOut) (tgt := 37) dX12_tellOut_12 (by decide) rfl (by decide +kernel) h_14 ?_
    refine z_zconst (M := M_X12_tellOut) (b := false) dX12_tellOut_37 rfl ?_
    cases H
    exact z_zret (M := M_X12_tellOut) dX12_tellOut_38 rfl (Nat.le_of_ble_eq_true rfl) (Nat.le_of_ble_eq_true rfl) ⟨rfl, rfl⟩
  · refine z_icmp_gt_f (M := M_X12_tellOut) (tgt := 37) dX12_tellOut_12 (by decide) rfl (by decide +kernel) (Int.not_lt.mp h_14) ?_
    refine z_aload_n (M := M_X12_tellOut) dX12_tellOut_15 rfl ?_
    refine z_getR (M := M_X12_tellOut) (ci := 15) (C := RX12) (T := TX12) (Nf := 135) (ty := tyX12) cl15 dX12_tellOut_16 ly_277 11 (by decide) t_2402 rfl ?_
    refine z_bipush (M := M_X12_tellOut) dX12_tellOut_19 (by decide +kernel) ?_
    obtain ⟨x_15, x_15_e, hi_16, H⟩ := rd_e H
    refine z_iald (M := M_X12_tellOut) dX12_tellOut_21 ly_282 rfl (by decide +kernel) rfl hi_16 x_15_e ?_
    refine z_aload_n (M := M_X12_tellOut) dX12_tellOut_22 rfl ?_
    refine z_getR (M := M_X12_tellOut) (ci := 15) (C := RX12) (T := TX12) (Nf := 135) (ty := tyX12) cl15 dX12_tellOut_23 ly_277 96 (by decide) t_2487 rfl ?_
    refine z_iload_n (M := M_X12_tellOut) dX12_tellOut_26 rfl ?_
    obtain ⟨x_17, x_17_e, hi_18, H⟩ := rd_e H
    refine z_iald (M := M_X12_tellOut) dX12_tellOut_27 ly_333 rfl rfl rfl hi_18 x_17_e ?_
    refine z_iadd (M := M_X12_tellOut) dX12_tellOut_28 ?_
    refine z_iconst (M := M_X12_tellOut) dX12_tellOut_29 ?_
    refine z_iadd (M := M_X12_tellOut) dX12_tellOut_30 ?_
    refine z_sipush (M := M_X12_tellOut) dX12_tellOut_31 (by decide +kernel) ?_
    rcases if_e H with ⟨h_19, H⟩ | ⟨h_19, H⟩
    · refine z_icmp_le_f (M := M_X12_tellOut) (tgt := 39) dX12_tellOut_34 (by decide) rfl (by decide +kernel) h_19 ?_
      refine z_zconst (M := M_X12_tellOut) (b := false) dX12_tellOut_37 rfl ?_
      cases H
      exact z_zret (M := M_X12_tellOut) dX12_tellOut_38 rfl (Nat.le_of_ble_eq_true rfl) (Nat.le_of_ble_eq_true rfl) ⟨rfl, rfl⟩
    · refine z_icmp_le_t (M := M_X12_tellOut) (tgt := 39) dX12_tellOut_34 (by decide) rfl (by decide +kernel) (Int.not_lt.mp h_19) ?_
      refine z_aload_n (M := M_X12_tellOut) dX12_tellOut_39 rfl ?_
      refine z_aload_n (M := M_X12_tellOut) dX12_tellOut_40 rfl ?_
      refine z_getR (M := M_X12_tellOut) (ci := 15) (C := RX12) (T := TX12) (Nf := 135) (ty := tyX12) cl15 dX12_tellOut_41 ly_277 96 (by decide) t_2487 rfl ?_
      refine z_iload_n (M := M_X12_tellOut) dX12_tellOut_44 rfl ?_
      obtain ⟨x_20, x_20_e, hi_21, H⟩ := rd_e H
      refine z_iald (M := M_X12_tellOut) dX12_tellOut_45 ly_333 rfl rfl rfl hi_21 x_20_e ?_
      refine z_iconst (M := M_X12_tellOut) dX12_tellOut_46 ?_
      refine z_iadd (M := M_X12_tellOut) dX12_tellOut_47 ?_
      obtain ⟨σ_23, hc_22, H⟩ := bd_e H
      refine z_callV (M := M_X12_tellOut) (M' := M_X12_tell) (as := [vi (x_20 + 1)]) (rest := []) rfl rfl dX12_tellOut_48 m_X12_tell t_2902 t_2904 s_170 (c_X12_tell hl  hc_22) rfl rfl ly_277 rfl (Nat.le_of_ble_eq_true rfl) (Nat.le_of_ble_eq_true rfl) (Nat.le_of_ble_eq_true rfl) (Nat.le_of_ble_eq_true rfl) ?_
      refine z_st (st' := []) rfl ?_
      refine z_iconst (M := M_X12_tellOut) dX12_tellOut_51 ?_
      refine z_istore_n (M := M_X12_tellOut) (lv' := [some (vr 277), some (vi out_0), some (vi 0), none]) dX12_tellOut_52 (Nat.le_of_ble_eq_true rfl) rfl rfl ?_
      obtain ⟨rl_29, hw_26, hk_27⟩ := bd_e H
      have J_53 : ∀ k_51 σ_52, rl_29 = (k_51, σ_52) → YY l E M_X12_tellOut 2 0 0 (pS (some (zv r)) σ') 106 [some (vr 277), some (vi out_0), some (vi k_51), none] [] σ_52 0 0 := by
        intro k_51 σ_52 e
        have H := hk_27
        rw [e] at H
        refine z_zconst (M := M_X12_tellOut) (b := true) dX12_tellOut_106 rfl ?_
        cases H
        exact z_zret (M := M_X12_tellOut) dX12_tellOut_107 rfl (Nat.le_of_ble_eq_true rfl) (Nat.le_of_ble_eq_true rfl) ⟨rfl, rfl⟩
      refine whl_go hw_26 (fun (k_24, σ_25) => YY l E M_X12_tellOut 2 0 0 (pS (some (zv r)) σ') 53 [some (vr 277), some (vi out_0), some (vi k_24), none] [] σ_25 0 0) ?_
      rintro ⟨k_24, σ_25⟩ o_30 H K_31 K_32
      refine z_iload_n (M := M_X12_tellOut) dX12_tellOut_53 rfl ?_
      refine z_aload_n (M := M_X12_tellOut) dX12_tellOut_54 rfl ?_
      refine z_getR (M := M_X12_tellOut) (ci := 15) (C := RX12) (T := TX12) (Nf := 135) (ty := tyX12) cl15 dX12_tellOut_55 ly_277 96 (by decide) t_2487 rfl ?_
      refine z_iload_n (M := M_X12_tellOut) dX12_tellOut_58 rfl ?_
      obtain ⟨x_33, x_33_e, hi_34, H⟩ := rd_e H
      refine z_iald (M := M_X12_tellOut) dX12_tellOut_59 ly_333 rfl rfl rfl hi_34 x_33_e ?_
      rcases if_e H with ⟨h_35, H⟩ | ⟨h_35, H⟩
      · refine z_icmp_gt_f (M := M_X12_tellOut) (tgt := 106) dX12_tellOut_60 (by decide) rfl rfl h_35 ?_
        refine z_aload_n (M := M_X12_tellOut) dX12_tellOut_63 rfl ?_
        refine z_getR (M := M_X12_tellOut) (ci := 15) (C := RX12) (T := TX12) (Nf := 135) (ty := tyX12) cl15 dX12_tellOut_64 ly_277 93 (by decide) t_2484 rfl ?_
        refine z_aload_n (M := M_X12_tellOut) dX12_tellOut_67 rfl ?_
        refine z_getR (M := M_X12_tellOut) (ci := 15) (C := RX12) (T := TX12) (Nf := 135) (ty := tyX12) cl15 dX12_tellOut_68 ly_277 95 (by decide) t_2486 rfl ?_
        refine z_iload_n (M := M_X12_tellOut) dX12_tellOut_71 rfl ?_
        obtain ⟨x_36, x_36_e, hi_37, H⟩ := rd_e H
        refine z_iald (M := M_X12_tellOut) dX12_tellOut_72 ly_332 rfl rfl rfl hi_37 x_36_e ?_
        refine z_iload_n (M := M_X12_tellOut) dX12_tellOut_73 rfl ?_
        refine z_aload_n (M := M_X12_tellOut) dX12_tellOut_74 rfl ?_
        refine z_getR (M := M_X12_tellOut) (ci := 15) (C := RX12) (T := TX12) (Nf := 135) (ty := tyX12) cl15 dX12_tellOut_75 ly_277 96 (by decide) t_2487 rfl ?_
        refine z_iload_n (M := M_X12_tellOut) dX12_tellOut_78 rfl ?_
        obtain ⟨x_38, x_38_e, hi_39, H⟩ := rd_e H
        refine z_iald (M := M_X12_tellOut) dX12_tellOut_79 ly_333 rfl rfl rfl hi_39 x_38_e ?_
        obtain ⟨hd_40, H⟩ := ck_e H
        refine z_irem (M := M_X12_tellOut) dX12_tellOut_80 hd_40 ?_
        refine z_iadd (M := M_X12_tellOut) dX12_tellOut_81 ?_
        obtain ⟨x_41, x_41_e, hi_42, H⟩ := rd_e H
        refine z_iald (M := M_X12_tellOut) dX12_tellOut_82 ly_331 rfl rfl rfl hi_42 x_41_e ?_
        refine z_istore_n (M := M_X12_tellOut) (lv' := [some (vr 277), some (vi out_0), some (vi k_24), some (vi x_41)]) dX12_tellOut_83 (Nat.le_of_ble_eq_true rfl) rfl rfl ?_
        refine z_aload_n (M := M_X12_tellOut) dX12_tellOut_84 rfl ?_
        refine z_aload_n (M := M_X12_tellOut) dX12_tellOut_85 rfl ?_
        refine z_getR (M := M_X12_tellOut) (ci := 15) (C := RX12) (T := TX12) (Nf := 135) (ty := tyX12) cl15 dX12_tellOut_86 ly_277 67 (by decide) t_2458 rfl ?_
        refine z_iload_n (M := M_X12_tellOut) dX12_tellOut_89 rfl ?_
        obtain ⟨x_43, x_43_e, hi_44, H⟩ := rd_e H
        refine z_lald (M := M_X12_tellOut) dX12_tellOut_90 ly_317 rfl rfl rfl hi_44 x_43_e ?_
        refine z_aload_n (M := M_X12_tellOut) dX12_tellOut_91 rfl ?_
        refine z_getR (M := M_X12_tellOut) (ci := 15) (C := RX12) (T := TX12) (Nf := 135) (ty := tyX12) cl15 dX12_tellOut_92 ly_277 68 (by decide) t_2459 rfl ?_
        refine z_iload_n (M := M_X12_tellOut) dX12_tellOut_95 rfl ?_
        obtain ⟨x_45, x_45_e, hi_46, H⟩ := rd_e H
        refine z_lald (M := M_X12_tellOut) dX12_tellOut_96 ly_318 rfl rfl rfl hi_46 x_45_e ?_
        obtain ⟨σ_48, hc_47, H⟩ := bd_e H
        refine z_callV (M := M_X12_tellOut) (M' := M_X12_dot) (as := [vl x_43, vl x_45]) (rest := []) rfl rfl dX12_tellOut_97 m_X12_dot t_2938 t_2940 s_178 (c_X12_dot hl  hc_47) rfl rfl ly_277 rfl (Nat.le_of_ble_eq_true rfl) (Nat.le_of_ble_eq_true rfl) (Nat.le_of_ble_eq_true rfl) (Nat.le_of_ble_eq_true rfl) ?_
        refine z_st (st' := []) rfl ?_
        refine z_iinc (M := M_X12_tellOut) (lv' := [some (vr 277), some (vi out_0), some (vi (k_24 + 1)), some (vi x_41)]) dX12_tellOut_100 rfl (Nat.le_of_ble_eq_true rfl) rfl rfl ?_
        refine z_goto (M := M_X12_tellOut) (tgt := 53) dX12_tellOut_103 (by decide) ?_
        refine z_le (lv' := [some (vr 277), some (vi out_0), some (vi (k_24 + 1)), none]) ⟨Or.inr rfl, Or.inr rfl, Or.inr rfl, Or.inl rfl, trivial⟩ ?_
        exact K_31 _ (Option.some.inj H).symm
      · refine z_icmp_gt_t (M := M_X12_tellOut) (tgt := 106) dX12_tellOut_60 (by decide) rfl rfl (Int.not_le.mp h_35) ?_
        exact J_53 _ _ (K_32 _ (Option.some.inj H).symm).symm
theorem c_X12_tellPolygon (hl : l.stackTraces = false) {σ : SG} {shell_0 : Int} {r : Bool} {σ' : SG}  (H : fR_tellPolygon σ shell_0 = some (r, σ')) : en_S l E M_X12_tellPolygon 3 0 0 [vr 277, vi shell_0] σ (pS (some (zv r)) σ') := by
  unfold fR_tellPolygon at H
  refine z_mk (lv := [some (vr 277), some (vi shell_0), none, none]) m_X12_tellPolygon rfl hl (Nat.le_of_ble_eq_true rfl) rfl ?_
  refine z_aload_n (M := M_X12_tellPolygon) dX12_tellPolygon_0 rfl ?_
  refine z_getR (M := M_X12_tellPolygon) (ci := 15) (C := RX12) (T := TX12) (Nf := 135) (ty := tyX12) cl15 dX12_tellPolygon_1 ly_277 9 (by decide) t_2400 rfl ?_
  refine z_bipush (M := M_X12_tellPolygon) dX12_tellPolygon_4 (by decide +kernel) ?_
  obtain ⟨x_1, x_1_e, hi_2, H⟩ := rd_e H
  refine z_iald (M := M_X12_tellPolygon) dX12_tellPolygon_6 ly_280 rfl (by decide +kernel) rfl hi_2 x_1_e ?_
  refine z_iconst (M := M_X12_tellPolygon) dX12_tellPolygon_7 ?_
  refine z_iadd (M := M_X12_tellPolygon) dX12_tellPolygon_8 ?_
  refine z_sipush (M := M_X12_tellPolygon) dX12_tellPolygon_9 (by decide +kernel) ?_
  rcases if_e H with ⟨h_3, H⟩ | ⟨h_3, H⟩
  · refine z_icmp_le_f (M := M_X12_tellPolygon) (tgt := 17) dX12_tellPolygon_12 (by decide) rfl (by decide +kernel) h_3 ?_
    refine z_zconst (M := M_X12_tellPolygon) (b := false) dX12_tellPolygon_15 rfl ?_
    cases H
    exact z_zret (M := M_X12_tellPolygon) dX12_tellPolygon_16 rfl (Nat.le_of_ble_eq_true rfl) (Nat.le_of_ble_eq_true rfl) ⟨rfl, rfl⟩
  · refine z_icmp_le_t (M := M_X12_tellPolygon) (tgt := 17) dX12_tellPolygon_12 (by decide) rfl (by decide +kernel) (Int.not_lt.mp h_3) ?_
    refine z_aload_n (M := M_X12_tellPolygon) dX12_tellPolygon_17 rfl ?_
    refine z_iconst (M := M_X12_tellPolygon) dX12_tellPolygon_18 ?_
    obtain ⟨σ_5, hc_4, H⟩ := bd_e H
    refine z_callV (M := M_X12_tellPolygon) (M' := M_X12_more) (as := [vi 1]) (rest := []) rfl rfl dX12_tellPolygon_19 m_X12_more t_2906 t_2908 s_171 (c_X12_more hl  hc_4) rfl rfl ly_277 rfl (Nat.le_of_ble_eq_true rfl) (Nat.le_of_ble_eq_true rfl) (Nat.le_of_ble_eq_true rfl) (Nat.le_of_ble_eq_true rfl) ?_
    refine z_st (st' := []) rfl ?_
    refine z_aload_n (M := M_X12_tellPolygon) dX12_tellPolygon_22 rfl ?_
    refine z_iconst (M := M_X12_tellPolygon) dX12_tellPolygon_23 ?_
    obtain ⟨σ_7, hc_6, H⟩ := bd_e H
    refine z_callV (M := M_X12_tellPolygon) (M' := M_X12_tell) (as := [vi 3]) (rest := []) rfl rfl dX12_tellPolygon_24 m_X12_tell t_2902 t_2904 s_170 (c_X12_tell hl  hc_6) rfl rfl ly_277 rfl (Nat.le_of_ble_eq_true rfl) (Nat.le_of_ble_eq_true rfl) (Nat.le_of_ble_eq_true rfl) (Nat.le_of_ble_eq_true rfl) ?_
    refine z_st (st' := []) rfl ?_
    refine z_aload_n (M := M_X12_tellPolygon) dX12_tellPolygon_27 rfl ?_
    refine z_iconst (M := M_X12_tellPolygon) dX12_tellPolygon_28 ?_
    obtain ⟨σ_9, hc_8, H⟩ := bd_e H
    refine z_callV (M := M_X12_tellPolygon) (M' := M_X12_tell) (as := [vi 0]) (rest := []) rfl rfl dX12_tellPolygon_29 m_X12_tell t_2902 t_2904 s_170 (c_X12_tell hl  hc_8) rfl rfl ly_277 rfl (Nat.le_of_ble_eq_true rfl) (Nat.le_of_ble_eq_true rfl) (Nat.le_of_ble_eq_true rfl) (Nat.le_of_ble_eq_true rfl) ?_
    refine z_st (st' := []) rfl ?_
    refine z_aload_n (M := M_X12_tellPolygon) dX12_tellPolygon_32 rfl ?_
    refine z_getR (M := M_X12_tellPolygon) (ci := 15) (C := RX12) (T := TX12) (Nf := 135) (ty := tyX12) cl15 dX12_tellPolygon_33 ly_277 9 (by decide) t_2400 rfl ?_
    refine z_bipush (M := M_X12_tellPolygon) dX12_tellPolygon_36 (by decide +kernel) ?_
    obtain ⟨x_10, x_10_e, hi_11, H⟩ := rd_e H
    refine z_iald (M := M_X12_tellPolygon) dX12_tellPolygon_38 ly_280 rfl (by decide +kernel) rfl hi_11 x_10_e ?_
    refine z_iconst (M := M_X12_tellPolygon) dX12_tellPolygon_39 ?_
    refine z_isub (M := M_X12_tellPolygon) dX12_tellPolygon_40 ?_
    refine z_istore_n (M := M_X12_tellPolygon) (lv' := [some (vr 277), some (vi shell_0), some (vi (x_10 - 1)), none]) dX12_tellPolygon_41 (Nat.le_of_ble_eq_true rfl) rfl rfl ?_
    refine z_aload_n (M := M_X12_tellPolygon) dX12_tellPolygon_42 rfl ?_
    refine z_iload_n (M := M_X12_tellPolygon) dX12_tellPolygon_43 rfl ?_
    obtain ⟨σ_13, hc_12, H⟩ := bd_e H
    refine z_callV (M := M_X12_tellPolygon) (M' := M_X12_more) (as := [vi (x_10 - 1)]) (rest := []) rfl rfl dX12_tellPolygon_44 m_X12_more t_2906 t_2908 s_171 (c_X12_more hl  hc_12) rfl rfl ly_277 rfl (Nat.le_of_ble_eq_true rfl) (Nat.le_of_ble_eq_true rfl) (Nat.le_of_ble_eq_true rfl) (Nat.le_of_ble_eq_true rfl) ?_
    refine z_st (st' := []) rfl ?_
    refine z_aload_n (M := M_X12_tellPolygon) dX12_tellPolygon_47 rfl ?_
    refine z_iload_n (M := M_X12_tellPolygon) dX12_tellPolygon_48 rfl ?_
    obtain ⟨⟨x_16, σ_15⟩, hc_14, H⟩ := bd_e H
    refine z_callV (M := M_X12_tellPolygon) (M' := M_X12_tellOut) (as := [vi shell_0]) (rest := []) rfl rfl dX12_tellPolygon_49 m_X12_tellOut t_3482 t_3484 s_279 (c_X12_tellOut hl  hc_14) rfl rfl ly_277 rfl (Nat.le_of_ble_eq_true rfl) (Nat.le_of_ble_eq_true rfl) (Nat.le_of_ble_eq_true rfl) (Nat.le_of_ble_eq_true rfl) ?_
    refine z_st (st' := [zv x_16]) rfl ?_
    rcases if_e H with ⟨h_17, H⟩ | ⟨h_17, H⟩
    · refine z_zne_t (M := M_X12_tellPolygon) (tgt := 57) dX12_tellPolygon_52 (by decide) h_17 ?_
      refine z_aload_n (M := M_X12_tellPolygon) dX12_tellPolygon_57 rfl ?_
      refine z_iload_n (M := M_X12_tellPolygon) dX12_tellPolygon_58 rfl ?_
      refine z_iconst (M := M_X12_tellPolygon) dX12_tellPolygon_59 ?_
      obtain ⟨x_19, hc_18, H⟩ := bd_e H
      refine z_callV (M := M_X12_tellPolygon) (M' := M_X12_nextOut) (as := [vi shell_0, vi (-1)]) (rest := []) rfl rfl dX12_tellPolygon_60 m_X12_nextOut t_3470 t_3472 s_276 (c_X12_nextOut hl  hc_18) rfl rfl ly_277 rfl (Nat.le_of_ble_eq_true rfl) (Nat.le_of_ble_eq_true rfl) (Nat.le_of_ble_eq_true rfl) (Nat.le_of_ble_eq_true rfl) ?_
      refine z_st (st' := [vi x_19]) rfl ?_
      refine z_istore_n (M := M_X12_tellPolygon) (lv' := [some (vr 277), some (vi shell_0), some (vi (x_10 - 1)), some (vi x_19)]) dX12_tellPolygon_63 (Nat.le_of_ble_eq_true rfl) rfl rfl ?_
      obtain ⟨rl_25, hw_22, hk_23, hk_24⟩ := bx_e H
      have J_42 : ∀ h_40 σ_41, rl_25 = (.inl (h_40, σ_41)) → YY l E M_X12_tellPolygon 3 0 0 (pS (some (zv r)) σ') 94 [some (vr 277), some (vi shell_0), some (vi (x_10 - 1)), some (vi h_40)] [] σ_41 0 0 := by
        intro h_40 σ_41 e
        have H := hk_23 _ e
        refine z_zconst (M := M_X12_tellPolygon) (b := true) dX12_tellPolygon_94 rfl ?_
        cases H
        exact z_zret (M := M_X12_tellPolygon) dX12_tellPolygon_95 rfl (Nat.le_of_ble_eq_true rfl) (Nat.le_of_ble_eq_true rfl) ⟨rfl, rfl⟩
      refine whl_go hw_22 (fun (h_20, σ_21) => YY l E M_X12_tellPolygon 3 0 0 (pS (some (zv r)) σ') 64 [some (vr 277), some (vi shell_0), some (vi (x_10 - 1)), some (vi h_20)] [] σ_21 0 0) ?_
      rintro ⟨h_20, σ_21⟩ o_26 H K_27 K_28
      refine z_iload_n (M := M_X12_tellPolygon) dX12_tellPolygon_64 rfl ?_
      refine z_iconst (M := M_X12_tellPolygon) dX12_tellPolygon_65 ?_
      rcases if_e H with ⟨h_29, H⟩ | ⟨h_29, H⟩
      · refine z_icmp_eq_f (M := M_X12_tellPolygon) (tgt := 94) dX12_tellPolygon_66 (by decide) rfl (by decide +kernel) h_29 ?_
        refine z_aload_n (M := M_X12_tellPolygon) dX12_tellPolygon_69 rfl ?_
        refine z_iload_n (M := M_X12_tellPolygon) dX12_tellPolygon_70 rfl ?_
        obtain ⟨σ_31, hc_30, H⟩ := bd_e H
        refine z_callV (M := M_X12_tellPolygon) (M' := M_X12_more) (as := [vi (x_10 - 1)]) (rest := []) rfl rfl dX12_tellPolygon_71 m_X12_more t_2906 t_2908 s_171 (c_X12_more hl  hc_30) rfl rfl ly_277 rfl (Nat.le_of_ble_eq_true rfl) (Nat.le_of_ble_eq_true rfl) (Nat.le_of_ble_eq_true rfl) (Nat.le_of_ble_eq_true rfl) ?_
        refine z_st (st' := []) rfl ?_
        refine z_aload_n (M := M_X12_tellPolygon) dX12_tellPolygon_74 rfl ?_
        refine z_iload_n (M := M_X12_tellPolygon) dX12_tellPolygon_75 rfl ?_
        obtain ⟨⟨x_34, σ_33⟩, hc_32, H⟩ := bd_e H
        refine z_callV (M := M_X12_tellPolygon) (M' := M_X12_tellOut) (as := [vi h_20]) (rest := []) rfl rfl dX12_tellPolygon_76 m_X12_tellOut t_3482 t_3484 s_279 (c_X12_tellOut hl  hc_32) rfl rfl ly_277 rfl (Nat.le_of_ble_eq_true rfl) (Nat.le_of_ble_eq_true rfl) (Nat.le_of_ble_eq_true rfl) (Nat.le_of_ble_eq_true rfl) ?_
        refine z_st (st' := [zv x_34]) rfl ?_
        rcases if_e H with ⟨h_35, H⟩ | ⟨h_35, H⟩
        · refine z_zne_t (M := M_X12_tellPolygon) (tgt := 84) dX12_tellPolygon_79 (by decide) h_35 ?_
          refine z_aload_n (M := M_X12_tellPolygon) dX12_tellPolygon_84 rfl ?_
          refine z_iload_n (M := M_X12_tellPolygon) dX12_tellPolygon_85 rfl ?_
          refine z_iload_n (M := M_X12_tellPolygon) dX12_tellPolygon_86 rfl ?_
          obtain ⟨x_37, hc_36, H⟩ := bd_e H
          refine z_callV (M := M_X12_tellPolygon) (M' := M_X12_nextOut) (as := [vi shell_0, vi h_20]) (rest := []) rfl rfl dX12_tellPolygon_87 m_X12_nextOut t_3470 t_3472 s_276 (c_X12_nextOut hl  hc_36) rfl rfl ly_277 rfl (Nat.le_of_ble_eq_true rfl) (Nat.le_of_ble_eq_true rfl) (Nat.le_of_ble_eq_true rfl) (Nat.le_of_ble_eq_true rfl) ?_
          refine z_st (st' := [vi x_37]) rfl ?_
          refine z_istore_n (M := M_X12_tellPolygon) (lv' := [some (vr 277), some (vi shell_0), some (vi (x_10 - 1)), some (vi x_37)]) dX12_tellPolygon_90 (Nat.le_of_ble_eq_true rfl) rfl rfl ?_
          refine z_goto (M := M_X12_tellPolygon) (tgt := 64) dX12_tellPolygon_91 (by decide) ?_
          exact K_27 _ (Option.some.inj H).symm
        · refine z_zne_f (M := M_X12_tellPolygon) (tgt := 84) dX12_tellPolygon_79 (by decide) h_35 ?_
          refine z_zconst (M := M_X12_tellPolygon) (b := false) dX12_tellPolygon_82 rfl ?_
          have H := congrArg some (hk_24 _ ((K_28 _ (Option.some.inj H).symm).symm))
          cases H
          exact z_zret (M := M_X12_tellPolygon) dX12_tellPolygon_83 rfl (Nat.le_of_ble_eq_true rfl) (Nat.le_of_ble_eq_true rfl) ⟨rfl, rfl⟩
      · refine z_icmp_eq_t (M := M_X12_tellPolygon) (tgt := 94) dX12_tellPolygon_66 (by decide) rfl (by decide +kernel) (Decidable.not_not.mp h_29) ?_
        exact J_42 _ _ (K_28 _ (Option.some.inj H).symm).symm
    · refine z_zne_f (M := M_X12_tellPolygon) (tgt := 57) dX12_tellPolygon_52 (by decide) h_17 ?_
      refine z_zconst (M := M_X12_tellPolygon) (b := false) dX12_tellPolygon_55 rfl ?_
      cases H
      exact z_zret (M := M_X12_tellPolygon) dX12_tellPolygon_56 rfl (Nat.le_of_ble_eq_true rfl) (Nat.le_of_ble_eq_true rfl) ⟨rfl, rfl⟩
theorem c_X12_tellResult (hl : l.stackTraces = false) {σ : SG} {r : Bool} {σ' : SG}  (H : fR_tellResult σ = some (r, σ')) : en_S l E M_X12_tellResult 4 0 0 [vr 277] σ (pS (some (zv r)) σ') := by
  unfold fR_tellResult at H
  refine z_mk (lv := [some (vr 277), none]) m_X12_tellResult rfl hl (Nat.le_of_ble_eq_true rfl) rfl ?_
  refine z_aload_n (M := M_X12_tellResult) dX12_tellResult_0 rfl ?_
  refine z_bipush (M := M_X12_tellResult) dX12_tellResult_1 (by decide +kernel) ?_
  obtain ⟨σ_2, hc_1, H⟩ := bd_e H
  refine z_callV (M := M_X12_tellResult) (M' := M_X12_clear) (as := [vi 32]) (rest := []) rfl rfl dX12_tellResult_3 m_X12_clear t_2848 t_2850 s_161 (c_X12_clear hl  hc_1) rfl rfl ly_277 rfl (Nat.le_of_ble_eq_true rfl) (Nat.le_of_ble_eq_true rfl) (Nat.le_of_ble_eq_true rfl) (Nat.le_of_ble_eq_true rfl) ?_
  refine z_st (st' := []) rfl ?_
  refine z_aload_n (M := M_X12_tellResult) dX12_tellResult_6 rfl ?_
  refine z_bipush (M := M_X12_tellResult) dX12_tellResult_7 (by decide +kernel) ?_
  obtain ⟨σ_4, hc_3, H⟩ := bd_e H
  refine z_callV (M := M_X12_tellResult) (M' := M_X12_tell) (as := [vi 6]) (rest := []) rfl rfl dX12_tellResult_9 m_X12_tell t_2902 t_2904 s_170 (c_X12_tell hl  hc_3) rfl rfl ly_277 rfl (Nat.le_of_ble_eq_true rfl) (Nat.le_of_ble_eq_true rfl) (Nat.le_of_ble_eq_true rfl) (Nat.le_of_ble_eq_true rfl) ?_
  refine z_st (st' := []) rfl ?_
  refine z_aload_n (M := M_X12_tellResult) dX12_tellResult_12 rfl ?_
  refine z_iconst (M := M_X12_tellResult) dX12_tellResult_13 ?_
  obtain ⟨σ_6, hc_5, H⟩ := bd_e H
  refine z_callV (M := M_X12_tellResult) (M' := M_X12_tell) (as := [vi 0]) (rest := []) rfl rfl dX12_tellResult_14 m_X12_tell t_2902 t_2904 s_170 (c_X12_tell hl  hc_5) rfl rfl ly_277 rfl (Nat.le_of_ble_eq_true rfl) (Nat.le_of_ble_eq_true rfl) (Nat.le_of_ble_eq_true rfl) (Nat.le_of_ble_eq_true rfl) ?_
  refine z_st (st' := []) rfl ?_
  refine z_aload_n (M := M_X12_tellResult) dX12_tellResult_17 rfl ?_
  refine z_iconst (M := M_X12_tellResult) dX12_tellResult_18 ?_
  refine z_iconst (M := M_X12_tellResult) dX12_tellResult_19 ?_
  obtain ⟨x_8, hc_7, H⟩ := bd_e H
  refine z_callV (M := M_X12_tellResult) (M' := M_X12_nextOut) (as := [vi (-1), vi (-1)]) (rest := []) rfl rfl dX12_tellResult_20 m_X12_nextOut t_3470 t_3472 s_276 (c_X12_nextOut hl  hc_7) rfl rfl ly_277 rfl (Nat.le_of_ble_eq_true rfl) (Nat.le_of_ble_eq_true rfl) (Nat.le_of_ble_eq_true rfl) (Nat.le_of_ble_eq_true rfl) ?_
  refine z_st (st' := [vi x_8]) rfl ?_
  refine z_istore_n (M := M_X12_tellResult) (lv' := [some (vr 277), some (vi x_8)]) dX12_tellResult_23 (Nat.le_of_ble_eq_true rfl) rfl rfl ?_
  obtain ⟨rl_14, hw_11, hk_12, hk_13⟩ := bx_e H
  have J_29 : ∀ s_27 σ_28, rl_14 = (.inl (s_27, σ_28)) → YY l E M_X12_tellResult 4 0 0 (pS (some (zv r)) σ') 49 [some (vr 277), some (vi s_27)] [] σ_28 0 0 := by
    intro s_27 σ_28 e
    have H := hk_12 _ e
    refine z_zconst (M := M_X12_tellResult) (b := true) dX12_tellResult_49 rfl ?_
    cases H
    exact z_zret (M := M_X12_tellResult) dX12_tellResult_50 rfl (Nat.le_of_ble_eq_true rfl) (Nat.le_of_ble_eq_true rfl) ⟨rfl, rfl⟩
  refine whl_go hw_11 (fun (s_9, σ_10) => YY l E M_X12_tellResult 4 0 0 (pS (some (zv r)) σ') 24 [some (vr 277), some (vi s_9)] [] σ_10 0 0) ?_
  rintro ⟨s_9, σ_10⟩ o_15 H K_16 K_17
  refine z_iload_n (M := M_X12_tellResult) dX12_tellResult_24 rfl ?_
  refine z_iconst (M := M_X12_tellResult) dX12_tellResult_25 ?_
  rcases if_e H with ⟨h_18, H⟩ | ⟨h_18, H⟩
  · refine z_icmp_eq_f (M := M_X12_tellResult) (tgt := 49) dX12_tellResult_26 (by decide) rfl (by decide +kernel) h_18 ?_
    refine z_aload_n (M := M_X12_tellResult) dX12_tellResult_29 rfl ?_
    refine z_iload_n (M := M_X12_tellResult) dX12_tellResult_30 rfl ?_
    obtain ⟨⟨x_21, σ_20⟩, hc_19, H⟩ := bd_e H
    refine z_callV (M := M_X12_tellResult) (M' := M_X12_tellPolygon) (as := [vi s_9]) (rest := []) rfl rfl dX12_tellResult_31 m_X12_tellPolygon t_3478 t_3480 s_278 (c_X12_tellPolygon hl  hc_19) rfl rfl ly_277 rfl (Nat.le_of_ble_eq_true rfl) (Nat.le_of_ble_eq_true rfl) (Nat.le_of_ble_eq_true rfl) (Nat.le_of_ble_eq_true rfl) ?_
    refine z_st (st' := [zv x_21]) rfl ?_
    rcases if_e H with ⟨h_22, H⟩ | ⟨h_22, H⟩
    · refine z_zne_t (M := M_X12_tellResult) (tgt := 39) dX12_tellResult_34 (by decide) h_22 ?_
      refine z_aload_n (M := M_X12_tellResult) dX12_tellResult_39 rfl ?_
      refine z_iconst (M := M_X12_tellResult) dX12_tellResult_40 ?_
      refine z_iload_n (M := M_X12_tellResult) dX12_tellResult_41 rfl ?_
      obtain ⟨x_24, hc_23, H⟩ := bd_e H
      refine z_callV (M := M_X12_tellResult) (M' := M_X12_nextOut) (as := [vi (-1), vi s_9]) (rest := []) rfl rfl dX12_tellResult_42 m_X12_nextOut t_3470 t_3472 s_276 (c_X12_nextOut hl  hc_23) rfl rfl ly_277 rfl (Nat.le_of_ble_eq_true rfl) (Nat.le_of_ble_eq_true rfl) (Nat.le_of_ble_eq_true rfl) (Nat.le_of_ble_eq_true rfl) ?_
      refine z_st (st' := [vi x_24]) rfl ?_
      refine z_istore_n (M := M_X12_tellResult) (lv' := [some (vr 277), some (vi x_24)]) dX12_tellResult_45 (Nat.le_of_ble_eq_true rfl) rfl rfl ?_
      refine z_goto (M := M_X12_tellResult) (tgt := 24) dX12_tellResult_46 (by decide) ?_
      exact K_16 _ (Option.some.inj H).symm
    · refine z_zne_f (M := M_X12_tellResult) (tgt := 39) dX12_tellResult_34 (by decide) h_22 ?_
      refine z_zconst (M := M_X12_tellResult) (b := false) dX12_tellResult_37 rfl ?_
      have H := congrArg some (hk_13 _ ((K_17 _ (Option.some.inj H).symm).symm))
      cases H
      exact z_zret (M := M_X12_tellResult) dX12_tellResult_38 rfl (Nat.le_of_ble_eq_true rfl) (Nat.le_of_ble_eq_true rfl) ⟨rfl, rfl⟩
  · refine z_icmp_eq_t (M := M_X12_tellResult) (tgt := 49) dX12_tellResult_26 (by decide) rfl (by decide +kernel) (Decidable.not_not.mp h_18) ?_
    exact J_29 _ _ (K_17 _ (Option.some.inj H).symm).symm
end LFAY
