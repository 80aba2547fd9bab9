section LFAO
variable {l : Launch} {E : EE}
theorem c_X7_multiply (hl : l.stackTraces = false) {σ : SG} {to_0 : Int} {one_0 : Int} {two_0 : Int} {σ' : SG}  (H : fI_multiply σ to_0 one_0 two_0 = some σ') : en_S l E M_X7_multiply 3 0 0 [vr 252, vi to_0, vi one_0, vi two_0] σ (pS (none) σ') := by
  unfold fI_multiply at H
  refine z_mk (lv := [some (vr 252), some (vi to_0), some (vi one_0), some (vi two_0), none, none, none, none, none, none, none, none, none]) m_X7_multiply rfl hl (Nat.le_of_ble_eq_true rfl) rfl ?_
  refine z_aload_n (M := M_X7_multiply) dX7_multiply_0 rfl ?_
  refine z_getR (M := M_X7_multiply) (ci := 10) (C := RX7) (T := TX7) (Nf := 5) (ty := tyX7) cl10 dX7_multiply_1 ly_252 3 (by decide) t_550 rfl ?_
  refine z_iload_n (M := M_X7_multiply) dX7_multiply_4 rfl ?_
  obtain ⟨x_1, x_1_e, hi_2, H⟩ := rd_e H
  refine z_iald (M := M_X7_multiply) dX7_multiply_5 ly_272 rfl rfl rfl hi_2 x_1_e ?_
  refine z_aload_n (M := M_X7_multiply) dX7_multiply_6 rfl ?_
  refine z_getR (M := M_X7_multiply) (ci := 10) (C := RX7) (T := TX7) (Nf := 5) (ty := tyX7) cl10 dX7_multiply_7 ly_252 3 (by decide) t_550 rfl ?_
  refine z_iload_n (M := M_X7_multiply) dX7_multiply_10 rfl ?_
  obtain ⟨x_3, x_3_e, hi_4, H⟩ := rd_e H
  refine z_iald (M := M_X7_multiply) dX7_multiply_11 ly_272 rfl rfl rfl hi_4 x_3_e ?_
  refine z_iadd (M := M_X7_multiply) dX7_multiply_12 ?_
  refine z_sipush (M := M_X7_multiply) dX7_multiply_13 (by decide +kernel) ?_
  refine z_mmin (M := M_X7_multiply) dX7_multiply_16 t_2351 t_626 t_20 t_627 (Nat.le_of_ble_eq_true rfl) (Nat.le_of_ble_eq_true rfl) (Nat.le_of_ble_eq_true rfl) (Nat.le_of_ble_eq_true rfl) ?_
  refine z_istore (M := M_X7_multiply) (lv' := [some (vr 252), some (vi to_0), some (vi one_0), some (vi two_0), some (vi (q_mni (x_1 + x_3) 280)), none, none, none, none, none, none, none, none]) dX7_multiply_19 (Nat.le_of_ble_eq_true rfl) rfl rfl ?_
  refine z_aload_n (M := M_X7_multiply) dX7_multiply_21 rfl ?_
  refine z_getR (M := M_X7_multiply) (ci := 10) (C := RX7) (T := TX7) (Nf := 5) (ty := tyX7) cl10 dX7_multiply_22 ly_252 2 (by decide) t_549 rfl ?_
  refine z_iload_n (M := M_X7_multiply) dX7_multiply_25 rfl ?_
  obtain ⟨hi_5, H⟩ := ck_e H
  refine z_gald (M := M_X7_multiply) dX7_multiply_26 ly_255 rfl rfl hi_5 (by rw [Nat.one_mul]) ?_
  refine z_iconst (M := M_X7_multiply) dX7_multiply_27 ?_
  refine z_iload (M := M_X7_multiply) dX7_multiply_28 rfl ?_
  refine z_iconst (M := M_X7_multiply) dX7_multiply_30 ?_
  obtain ⟨σ_7, hc_6, H⟩ := bd_e H
  refine z_callS (M := M_X7_multiply) (M' := M_J7_fill_fda19) (as := [vr (256 + (w32 to_0).toNat), vi 0, vi (q_mni (x_1 + x_3) 280), vi 0]) (rest := []) rfl rfl dX7_multiply_31 m_J7_fill_fda19 t_2337 t_1522 (c_J7_fill_fda19 hl (ly_B hi_5) hc_6) rfl rfl (Nat.le_of_ble_eq_true rfl) (Nat.le_of_ble_eq_true rfl) (Nat.le_of_ble_eq_true rfl) (Nat.le_of_ble_eq_true rfl) ?_
  refine z_st (st' := []) rfl ?_
  refine z_iconst (M := M_X7_multiply) dX7_multiply_34 ?_
  refine z_istore (M := M_X7_multiply) (lv' := [some (vr 252), some (vi to_0), some (vi one_0), some (vi two_0), some (vi (q_mni (x_1 + x_3) 280)), some (vi 0), none, none, none, none, none, none, none]) dX7_multiply_35 (Nat.le_of_ble_eq_true rfl) rfl rfl ?_
  obtain ⟨rl_13, hw_10, hk_11⟩ := bd_e H
  have J_76 : ∀ i_64 σ_65, rl_13 = (i_64, σ_65) → YY l E M_X7_multiply 3 0 0 (pS (none) σ') 161 [some (vr 252), some (vi to_0), some (vi one_0), some (vi two_0), some (vi (q_mni (x_1 + x_3) 280)), some (vi i_64), none, none, none, none, none, none, none] [] σ_65 0 0 := by
    intro i_64 σ_65 e
    have H := hk_11
    rw [e] at H
    refine z_aload_n (M := M_X7_multiply) dX7_multiply_161 rfl ?_
    refine z_getR (M := M_X7_multiply) (ci := 10) (C := RX7) (T := TX7) (Nf := 5) (ty := tyX7) cl10 dX7_multiply_162 ly_252 3 (by decide) t_550 rfl ?_
    refine z_iload_n (M := M_X7_multiply) dX7_multiply_165 rfl ?_
    refine z_iload (M := M_X7_multiply) dX7_multiply_166 rfl ?_
    obtain ⟨σ_66, σ_66_e, hi_67, H⟩ := wa_e H
    refine z_iast (M := M_X7_multiply) dX7_multiply_168 ly_272 rfl rfl rfl hi_67 σ_66_e ?_
    refine z_aload_n (M := M_X7_multiply) dX7_multiply_169 rfl ?_
    refine z_getR (M := M_X7_multiply) (ci := 10) (C := RX7) (T := TX7) (Nf := 5) (ty := tyX7) cl10 dX7_multiply_170 ly_252 4 (by decide) t_551 rfl ?_
    refine z_iload_n (M := M_X7_multiply) dX7_multiply_173 rfl ?_
    refine z_aload_n (M := M_X7_multiply) dX7_multiply_174 rfl ?_
    refine z_getR (M := M_X7_multiply) (ci := 10) (C := RX7) (T := TX7) (Nf := 5) (ty := tyX7) cl10 dX7_multiply_175 ly_252 4 (by decide) t_551 rfl ?_
    refine z_iload_n (M := M_X7_multiply) dX7_multiply_178 rfl ?_
    obtain ⟨x_68, x_68_e, hi_69, H⟩ := rd_e H
    refine z_iald (M := M_X7_multiply) dX7_multiply_179 ly_273 rfl rfl rfl hi_69 x_68_e ?_
    refine z_aload_n (M := M_X7_multiply) dX7_multiply_180 rfl ?_
    refine z_getR (M := M_X7_multiply) (ci := 10) (C := RX7) (T := TX7) (Nf := 5) (ty := tyX7) cl10 dX7_multiply_181 ly_252 4 (by decide) t_551 rfl ?_
    refine z_iload_n (M := M_X7_multiply) dX7_multiply_184 rfl ?_
    obtain ⟨x_70, x_70_e, hi_71, H⟩ := rd_e H
    refine z_iald (M := M_X7_multiply) dX7_multiply_185 ly_273 rfl rfl rfl hi_71 x_70_e ?_
    refine z_imul (M := M_X7_multiply) dX7_multiply_186 ?_
    obtain ⟨σ_72, σ_72_e, hi_73, H⟩ := wa_e H
    refine z_iast (M := M_X7_multiply) dX7_multiply_187 ly_273 rfl rfl rfl hi_73 σ_72_e ?_
    refine z_aload_n (M := M_X7_multiply) dX7_multiply_188 rfl ?_
    refine z_iload_n (M := M_X7_multiply) dX7_multiply_189 rfl ?_
    obtain ⟨σ_75, hc_74, H⟩ := bd_e H
    refine z_callV (M := M_X7_multiply) (M' := M_X7_trim) (as := [vi to_0]) (rest := []) rfl rfl dX7_multiply_190 m_X7_trim t_2339 t_2341 s_150 (c_X7_trim hl  hc_74) rfl rfl ly_252 rfl (Nat.le_of_ble_eq_true rfl) (Nat.le_of_ble_eq_true rfl) (Nat.le_of_ble_eq_true rfl) (Nat.le_of_ble_eq_true rfl) ?_
    refine z_st (st' := []) rfl ?_
    cases H
    exact z_vret (M := M_X7_multiply) dX7_multiply_193 rfl (Nat.le_of_ble_eq_true rfl) (Nat.le_of_ble_eq_true rfl) ⟨rfl, rfl⟩
  refine whl_go hw_10 (fun (i_8, σ_9) => YY l E M_X7_multiply 3 0 0 (pS (none) σ') 37 [some (vr 252), some (vi to_0), some (vi one_0), some (vi two_0), some (vi (q_mni (x_1 + x_3) 280)), some (vi i_8), none, none, none, none, none, none, none] [] σ_9 0 0) ?_
  rintro ⟨i_8, σ_9⟩ o_14 H K_15 K_16
  refine z_iload (M := M_X7_multiply) dX7_multiply_37 rfl ?_
  refine z_aload_n (M := M_X7_multiply) dX7_multiply_39 rfl ?_
  refine z_getR (M := M_X7_multiply) (ci := 10) (C := RX7) (T := TX7) (Nf := 5) (ty := tyX7) cl10 dX7_multiply_40 ly_252 3 (by decide) t_550 rfl ?_
  refine z_iload_n (M := M_X7_multiply) dX7_multiply_43 rfl ?_
  obtain ⟨x_17, x_17_e, hi_18, H⟩ := rd_e H
  refine z_iald (M := M_X7_multiply) dX7_multiply_44 ly_272 rfl rfl rfl hi_18 x_17_e ?_
  rcases if_e H with ⟨h_19, H⟩ | ⟨h_19, H⟩
  · refine z_icmp_ge_f (M := M_X7_multiply) (tgt := 161) dX7_multiply_45 (by decide) rfl rfl h_19 ?_
    refine z_aload_n (M := M_X7_multiply) dX7_multiply_48 rfl ?_
    refine z_iload_n (M := M_X7_multiply) dX7_multiply_49 rfl ?_
    refine z_iload (M := M_X7_multiply) dX7_multiply_50 rfl ?_
    obtain ⟨x_21, hc_20, H⟩ := bd_e H
    refine z_callV (M := M_X7_multiply) (M' := M_X7_limbAt) (as := [vi one_0, vi i_8]) (rest := []) rfl rfl dX7_multiply_52 m_X7_limbAt t_2352 t_2354 s_153 (c_X7_limbAt hl  hc_20) rfl rfl ly_252 rfl (Nat.le_of_ble_eq_true rfl) (Nat.le_of_ble_eq_true rfl) (Nat.le_of_ble_eq_true rfl) (Nat.le_of_ble_eq_true rfl) ?_
    refine z_st (st' := [vl x_21]) rfl ?_
    refine z_lstore (M := M_X7_multiply) (lv' := [some (vr 252), some (vi to_0), some (vi one_0), some (vi two_0), some (vi (q_mni (x_1 + x_3) 280)), some (vi i_8), some (vl x_21), none, none, none, none, none, none]) dX7_multiply_55 (Nat.le_of_ble_eq_true rfl) rfl rfl ?_
    refine z_lload (M := M_X7_multiply) dX7_multiply_57 rfl ?_
    refine z_lconst (M := M_X7_multiply) (m := 0) dX7_multiply_59 (by decide +kernel) ?_
    refine z_lcmp (M := M_X7_multiply) dX7_multiply_60 ?_
    rcases if_e H with ⟨h_22, H⟩ | ⟨h_22, H⟩
    · refine z_lif_ne_f (M := M_X7_multiply) (tgt := 67) dX7_multiply_61 (by decide) rfl (by decide +kernel) h_22 ?_
      refine z_goto (M := M_X7_multiply) (tgt := 155) dX7_multiply_64 (by decide) ?_
      refine z_iinc (M := M_X7_multiply) (lv' := [some (vr 252), some (vi to_0), some (vi one_0), some (vi two_0), some (vi (q_mni (x_1 + x_3) 280)), some (vi (i_8 + 1)), some (vl x_21), none, none, none, none, none, none]) dX7_multiply_155 rfl (Nat.le_of_ble_eq_true rfl) rfl rfl ?_
      refine z_goto (M := M_X7_multiply) (tgt := 37) dX7_multiply_158 (by decide) ?_
      refine z_le (lv' := [some (vr 252), some (vi to_0), some (vi one_0), some (vi two_0), some (vi (q_mni (x_1 + x_3) 280)), some (vi (i_8 + 1)), none, none, none, none, none, none, none]) ⟨Or.inr rfl, Or.inr rfl, Or.inr rfl, Or.inr rfl, Or.inr rfl, Or.inr rfl, Or.inl rfl, Or.inl rfl, Or.inl rfl, Or.inl rfl, Or.inl rfl, Or.inl rfl, Or.inl rfl, trivial⟩ ?_
      exact K_15 _ (Option.some.inj H).symm
    · refine z_lif_ne_t (M := M_X7_multiply) (tgt := 67) dX7_multiply_61 (by decide) rfl (by decide +kernel) h_22 ?_
      refine z_lconst (M := M_X7_multiply) (m := 0) dX7_multiply_67 (by decide +kernel) ?_
      refine z_lstore (M := M_X7_multiply) (lv' := [some (vr 252), some (vi to_0), some (vi one_0), some (vi two_0), some (vi (q_mni (x_1 + x_3) 280)), some (vi i_8), some (vl x_21), none, some (vl 0), none, none, none, none]) dX7_multiply_68 (Nat.le_of_ble_eq_true rfl) rfl rfl ?_
      refine z_iconst (M := M_X7_multiply) dX7_multiply_70 ?_
      refine z_istore (M := M_X7_multiply) (lv' := [some (vr 252), some (vi to_0), some (vi one_0), some (vi two_0), some (vi (q_mni (x_1 + x_3) 280)), some (vi i_8), some (vl x_21), none, some (vl 0), none, some (vi 0), none, none]) dX7_multiply_71 (Nat.le_of_ble_eq_true rfl) rfl rfl ?_
      obtain ⟨rl_30, hw_27, hk_28⟩ := bd_e H
      have J_62 : ∀ carry_58 k_59 σ_60, rl_30 = (carry_58, k_59, σ_60) → YY l E M_X7_multiply 3 0 0 (pS (none) σ') 155 [some (vr 252), some (vi to_0), some (vi one_0), some (vi two_0), some (vi (q_mni (x_1 + x_3) 280)), some (vi i_8), some (vl x_21), none, some (vl carry_58), none, some (vi k_59), none, none] [] σ_60 0 0 := by
        intro carry_58 k_59 σ_60 e
        have H := hk_28
        rw [e] at H
        refine z_iinc (M := M_X7_multiply) (lv' := [some (vr 252), some (vi to_0), some (vi one_0), some (vi two_0), some (vi (q_mni (x_1 + x_3) 280)), some (vi (i_8 + 1)), some (vl x_21), none, some (vl carry_58), none, some (vi k_59), none, none]) dX7_multiply_155 rfl (Nat.le_of_ble_eq_true rfl) rfl rfl ?_
        refine z_goto (M := M_X7_multiply) (tgt := 37) dX7_multiply_158 (by decide) ?_
        refine z_le (lv' := [some (vr 252), some (vi to_0), some (vi one_0), some (vi two_0), some (vi (q_mni (x_1 + x_3) 280)), some (vi (i_8 + 1)), none, none, none, none, none, none, none]) ⟨Or.inr rfl, Or.inr rfl, Or.inr rfl, Or.inr rfl, Or.inr rfl, Or.inr rfl, Or.inl rfl, Or.inl rfl, Or.inl rfl, Or.inl rfl, Or.inl rfl, Or.inl rfl, Or.inl rfl, trivial⟩ ?_
        exact K_15 _ (Option.some.inj H).symm
      refine whl_go hw_27 (fun (carry_24, k_25, σ_26) => YY l E M_X7_multiply 3 0 0 (pS (none) σ') 73 [some (vr 252), some (vi to_0), some (vi one_0), some (vi two_0), some (vi (q_mni (x_1 + x_3) 280)), some (vi i_8), some (vl x_21), none, some (vl carry_24), none, some (vi k_25), none, none] [] σ_26 0 0) ?_
      rintro ⟨carry_24, k_25, σ_26⟩ o_31 H K_32 K_33
      refine z_iload (M := M_X7_multiply) dX7_multiply_73 rfl ?_
      refine z_aload_n (M := M_X7_multiply) dX7_multiply_75 rfl ?_
      refine z_getR (M := M_X7_multiply) (ci := 10) (C := RX7) (T := TX7) (Nf := 5) (ty := tyX7) cl10 dX7_multiply_76 ly_252 3 (by decide) t_550 rfl ?_
      refine z_iload_n (M := M_X7_multiply) dX7_multiply_79 rfl ?_
      obtain ⟨x_42, x_42_e, hi_43, H⟩ := rd_e H
      refine z_iald (M := M_X7_multiply) dX7_multiply_80 ly_272 rfl rfl rfl hi_43 x_42_e ?_
      rcases if_e H with ⟨h_44, H⟩ | ⟨h_44, H⟩
      · refine z_icmp_gt_f (M := M_X7_multiply) (tgt := 155) dX7_multiply_81 (by decide) rfl rfl h_44 ?_
        refine z_iload (M := M_X7_multiply) dX7_multiply_84 rfl ?_
        refine z_iload (M := M_X7_multiply) dX7_multiply_86 rfl ?_
        refine z_iadd (M := M_X7_multiply) dX7_multiply_88 ?_
        refine z_iload (M := M_X7_multiply) dX7_multiply_89 rfl ?_
        rcases if_e H with ⟨h_45, H⟩ | ⟨h_45, H⟩
        · refine z_icmp_ge_f (M := M_X7_multiply) (tgt := 155) dX7_multiply_91 (by decide) rfl rfl h_45 ?_
          refine z_lload (M := M_X7_multiply) dX7_multiply_94 rfl ?_
          refine z_aload_n (M := M_X7_multiply) dX7_multiply_96 rfl ?_
          refine z_iload_n (M := M_X7_multiply) dX7_multiply_97 rfl ?_
          refine z_iload (M := M_X7_multiply) dX7_multiply_98 rfl ?_
          obtain ⟨x_47, hc_46, H⟩ := bd_e H
          refine z_callV (M := M_X7_multiply) (M' := M_X7_limbAt) (as := [vi two_0, vi k_25]) (rest := [vl x_21]) rfl rfl dX7_multiply_100 m_X7_limbAt t_2352 t_2354 s_153 (c_X7_limbAt hl  hc_46) rfl rfl ly_252 rfl (Nat.le_of_ble_eq_true rfl) (Nat.le_of_ble_eq_true rfl) (Nat.le_of_ble_eq_true rfl) (Nat.le_of_ble_eq_true rfl) ?_
          refine z_st (st' := [vl x_47, vl x_21]) rfl ?_
          refine z_lmul (M := M_X7_multiply) dX7_multiply_103 ?_
          refine z_aload_n (M := M_X7_multiply) dX7_multiply_104 rfl ?_
          refine z_getR (M := M_X7_multiply) (ci := 10) (C := RX7) (T := TX7) (Nf := 5) (ty := tyX7) cl10 dX7_multiply_105 ly_252 2 (by decide) t_549 rfl ?_
          refine z_iload_n (M := M_X7_multiply) dX7_multiply_108 rfl ?_
          obtain ⟨hi_48, H⟩ := ck_e H
          refine z_gald (M := M_X7_multiply) dX7_multiply_109 ly_255 rfl rfl hi_48 (by rw [Nat.one_mul]) ?_
          refine z_iload (M := M_X7_multiply) dX7_multiply_110 rfl ?_
          refine z_iload (M := M_X7_multiply) dX7_multiply_112 rfl ?_
          refine z_iadd (M := M_X7_multiply) dX7_multiply_114 ?_
          obtain ⟨x_49, x_49_e, hi_50, H⟩ := rd_e H
          refine z_iald (M := M_X7_multiply) dX7_multiply_115 (ly_B hi_48) rfl rfl rfl hi_50 x_49_e ?_
          refine z_i2l (M := M_X7_multiply) dX7_multiply_116 ?_
          refine z_ldc2 (M := M_X7_multiply) (n := 4294967295) dX7_multiply_117 t_2338 (by decide +kernel) ?_
          refine z_land (M := M_X7_multiply) dX7_multiply_120 ?_
          refine z_ladd (M := M_X7_multiply) dX7_multiply_121 ?_
          refine z_lload (M := M_X7_multiply) dX7_multiply_122 rfl ?_
          refine z_ladd (M := M_X7_multiply) dX7_multiply_124 ?_
          obtain ⟨x_51, x_51_e, H⟩ := lt_e H
          refine z_st (congrArg (fun z => vl z :: []) x_51_e) ?_
          refine z_lstore (M := M_X7_multiply) (lv' := [some (vr 252), some (vi to_0), some (vi one_0), some (vi two_0), some (vi (q_mni (x_1 + x_3) 280)), some (vi i_8), some (vl x_21), none, some (vl carry_24), none, some (vi k_25), some (vl x_51), none]) dX7_multiply_125 (Nat.le_of_ble_eq_true rfl) rfl rfl ?_
          refine z_aload_n (M := M_X7_multiply) dX7_multiply_127 rfl ?_
          refine z_getR (M := M_X7_multiply) (ci := 10) (C := RX7) (T := TX7) (Nf := 5) (ty := tyX7) cl10 dX7_multiply_128 ly_252 2 (by decide) t_549 rfl ?_
          refine z_iload_n (M := M_X7_multiply) dX7_multiply_131 rfl ?_
          obtain ⟨hi_52, H⟩ := ck_e H
          refine z_gald (M := M_X7_multiply) dX7_multiply_132 ly_255 rfl rfl hi_52 (by rw [Nat.one_mul]) ?_
          refine z_iload (M := M_X7_multiply) dX7_multiply_133 rfl ?_
          refine z_iload (M := M_X7_multiply) dX7_multiply_135 rfl ?_
          refine z_iadd (M := M_X7_multiply) dX7_multiply_137 ?_
          refine z_lload (M := M_X7_multiply) dX7_multiply_138 rfl ?_
          refine z_l2i (M := M_X7_multiply) dX7_multiply_140 ?_
          obtain ⟨σ_53, σ_53_e, hi_54, H⟩ := wa_e H
          refine z_iast (M := M_X7_multiply) dX7_multiply_141 (ly_B hi_52) rfl rfl rfl hi_54 σ_53_e ?_
          refine z_lload (M := M_X7_multiply) dX7_multiply_142 rfl ?_
          refine z_bipush (M := M_X7_multiply) dX7_multiply_144 (by decide +kernel) ?_
          refine z_lushr (M := M_X7_multiply) dX7_multiply_146 ?_
          refine z_lstore (M := M_X7_multiply) (lv' := [some (vr 252), some (vi to_0), some (vi one_0), some (vi two_0), some (vi (q_mni (x_1 + x_3) 280)), some (vi i_8), some (vl x_21), none, some (vl (q_lus x_51 32)), none, some (vi k_25), some (vl x_51), none]) dX7_multiply_147 (Nat.le_of_ble_eq_true rfl) rfl rfl ?_
          refine z_iinc (M := M_X7_multiply) (lv' := [some (vr 252), some (vi to_0), some (vi one_0), some (vi two_0), some (vi (q_mni (x_1 + x_3) 280)), some (vi i_8), some (vl x_21), none, some (vl (q_lus x_51 32)), none, some (vi (k_25 + 1)), some (vl x_51), none]) dX7_multiply_149 rfl (Nat.le_of_ble_eq_true rfl) rfl rfl ?_
          refine z_goto (M := M_X7_multiply) (tgt := 73) dX7_multiply_152 (by decide) ?_
          refine z_le (lv' := [some (vr 252), some (vi to_0), some (vi one_0), some (vi two_0), some (vi (q_mni (x_1 + x_3) 280)), some (vi i_8), some (vl x_21), none, some (vl (q_lus x_51 32)), none, some (vi (k_25 + 1)), none, none]) ⟨Or.inr rfl, Or.inr rfl, Or.inr rfl, Or.inr rfl, Or.inr rfl, Or.inr rfl, Or.inr rfl, Or.inl rfl, Or.inr rfl, Or.inl rfl, Or.inr rfl, Or.inl rfl, Or.inl rfl, trivial⟩ ?_
          exact K_32 _ (Option.some.inj H).symm
        · refine z_icmp_ge_t (M := M_X7_multiply) (tgt := 155) dX7_multiply_91 (by decide) rfl rfl (Int.not_lt.mp h_45) ?_
          exact J_62 _ _ _ (K_33 _ (Option.some.inj H).symm).symm
      · refine z_icmp_gt_t (M := M_X7_multiply) (tgt := 155) dX7_multiply_81 (by decide) rfl rfl (Int.not_le.mp h_44) ?_
        exact J_62 _ _ _ (K_33 _ (Option.some.inj H).symm).symm
  · refine z_icmp_ge_t (M := M_X7_multiply) (tgt := 161) dX7_multiply_45 (by decide) rfl rfl (Int.not_lt.mp h_19) ?_
    exact J_76 _ _ (K_16 _ (Option.some.inj H).symm).symm
theorem c_X7_sideSign (hl : l.stackTraces = false) {σ : SG} {i_0 : Int} {j_0 : Int} {k_0 : Int} {r : Int} {σ' : SG}  (H : fI_sideSign σ i_0 j_0 k_0 = some (r, σ')) : en_S l E M_X7_sideSign 5 0 0 [vr 252, vi i_0, vi j_0, vi k_0] σ (pS (some (vi r)) σ') := by
  unfold fI_sideSign at H
  refine z_mk (lv := [some (vr 252), some (vi i_0), some (vi j_0), some (vi k_0)]) m_X7_sideSign rfl hl (Nat.le_of_ble_eq_true rfl) rfl ?_
  refine z_aload_n (M := M_X7_sideSign) dX7_sideSign_0 rfl ?_
  refine z_iconst (M := M_X7_sideSign) dX7_sideSign_1 ?_
  refine z_aload_n (M := M_X7_sideSign) dX7_sideSign_2 rfl ?_
  refine z_getR (M := M_X7_sideSign) (ci := 10) (C := RX7) (T := TX7) (Nf := 5) (ty := tyX7) cl10 dX7_sideSign_3 ly_252 0 (by decide) t_545 rfl ?_
  refine z_iload_n (M := M_X7_sideSign) dX7_sideSign_6 rfl ?_
  obtain ⟨x_1, x_1_e, hi_2, H⟩ := rd_e H
  refine z_lald (M := M_X7_sideSign) dX7_sideSign_7 ly_253 rfl rfl rfl hi_2 x_1_e ?_
  refine z_aload_n (M := M_X7_sideSign) dX7_sideSign_8 rfl ?_
  refine z_getR (M := M_X7_sideSign) (ci := 10) (C := RX7) (T := TX7) (Nf := 5) (ty := tyX7) cl10 dX7_sideSign_9 ly_252 0 (by decide) t_545 rfl ?_
  refine z_iload_n (M := M_X7_sideSign) dX7_sideSign_12 rfl ?_
  obtain ⟨x_3, x_3_e, hi_4, H⟩ := rd_e H
  refine z_lald (M := M_X7_sideSign) dX7_sideSign_13 ly_253 rfl rfl rfl hi_4 x_3_e ?_
  obtain ⟨σ_6, hc_5, H⟩ := bd_e H
  refine z_callV (M := M_X7_sideSign) (M' := M_X7_difference) (as := [vi 2, vl x_1, vl x_3]) (rest := []) rfl rfl dX7_sideSign_14 m_X7_difference t_2327 t_2329 s_148 (c_X7_difference hl  hc_5) rfl rfl ly_252 rfl (Nat.le_of_ble_eq_true rfl) (Nat.le_of_ble_eq_true rfl) (Nat.le_of_ble_eq_true rfl) (Nat.le_of_ble_eq_true rfl) ?_
  refine z_st (st' := []) rfl ?_
  refine z_aload_n (M := M_X7_sideSign) dX7_sideSign_17 rfl ?_
  refine z_iconst (M := M_X7_sideSign) dX7_sideSign_18 ?_
  refine z_aload_n (M := M_X7_sideSign) dX7_sideSign_19 rfl ?_
  refine z_getR (M := M_X7_sideSign) (ci := 10) (C := RX7) (T := TX7) (Nf := 5) (ty := tyX7) cl10 dX7_sideSign_20 ly_252 1 (by decide) t_547 rfl ?_
  refine z_iload_n (M := M_X7_sideSign) dX7_sideSign_23 rfl ?_
  obtain ⟨x_7, x_7_e, hi_8, H⟩ := rd_e H
  refine z_lald (M := M_X7_sideSign) dX7_sideSign_24 ly_254 rfl rfl rfl hi_8 x_7_e ?_
  refine z_aload_n (M := M_X7_sideSign) dX7_sideSign_25 rfl ?_
  refine z_getR (M := M_X7_sideSign) (ci := 10) (C := RX7) (T := TX7) (Nf := 5) (ty := tyX7) cl10 dX7_sideSign_26 ly_252 1 (by decide) t_547 rfl ?_
  refine z_iload_n (M := M_X7_sideSign) dX7_sideSign_29 rfl ?_
  obtain ⟨x_9, x_9_e, hi_10, H⟩ := rd_e H
  refine z_lald (M := M_X7_sideSign) dX7_sideSign_30 ly_254 rfl rfl rfl hi_10 x_9_e ?_
  obtain ⟨σ_12, hc_11, H⟩ := bd_e H
  refine z_callV (M := M_X7_sideSign) (M' := M_X7_difference) (as := [vi 3, vl x_7, vl x_9]) (rest := []) rfl rfl dX7_sideSign_31 m_X7_difference t_2327 t_2329 s_148 (c_X7_difference hl  hc_11) rfl rfl ly_252 rfl (Nat.le_of_ble_eq_true rfl) (Nat.le_of_ble_eq_true rfl) (Nat.le_of_ble_eq_true rfl) (Nat.le_of_ble_eq_true rfl) ?_
  refine z_st (st' := []) rfl ?_
  refine z_aload_n (M := M_X7_sideSign) dX7_sideSign_34 rfl ?_
  refine z_iconst (M := M_X7_sideSign) dX7_sideSign_35 ?_
  refine z_aload_n (M := M_X7_sideSign) dX7_sideSign_36 rfl ?_
  refine z_getR (M := M_X7_sideSign) (ci := 10) (C := RX7) (T := TX7) (Nf := 5) (ty := tyX7) cl10 dX7_sideSign_37 ly_252 1 (by decide) t_547 rfl ?_
  refine z_iload_n (M := M_X7_sideSign) dX7_sideSign_40 rfl ?_
  obtain ⟨x_13, x_13_e, hi_14, H⟩ := rd_e H
  refine z_lald (M := M_X7_sideSign) dX7_sideSign_41 ly_254 rfl rfl rfl hi_14 x_13_e ?_
  refine z_aload_n (M := M_X7_sideSign) dX7_sideSign_42 rfl ?_
  refine z_getR (M := M_X7_sideSign) (ci := 10) (C := RX7) (T := TX7) (Nf := 5) (ty := tyX7) cl10 dX7_sideSign_43 ly_252 1 (by decide) t_547 rfl ?_
  refine z_iload_n (M := M_X7_sideSign) dX7_sideSign_46 rfl ?_
  obtain ⟨x_15, x_15_e, hi_16, H⟩ := rd_e H
  refine z_lald (M := M_X7_sideSign) dX7_sideSign_47 ly_254 rfl rfl rfl hi_16 x_15_e ?_
  obtain ⟨σ_18, hc_17, H⟩ := bd_e H
  refine z_callV (M := M_X7_sideSign) (M' := M_X7_difference) (as := [vi 4, vl x_13, vl x_15]) (rest := []) rfl rfl dX7_sideSign_48 m_X7_difference t_2327 t_2329 s_148 (c_X7_difference hl  hc_17) rfl rfl ly_252 rfl (Nat.le_of_ble_eq_true rfl) (Nat.le_of_ble_eq_true rfl) (Nat.le_of_ble_eq_true rfl) (Nat.le_of_ble_eq_true rfl) ?_
  refine z_st (st' := []) rfl ?_
  refine z_aload_n (M := M_X7_sideSign) dX7_sideSign_51 rfl ?_
  refine z_iconst (M := M_X7_sideSign) dX7_sideSign_52 ?_
  refine z_aload_n (M := M_X7_sideSign) dX7_sideSign_53 rfl ?_
  refine z_getR (M := M_X7_sideSign) (ci := 10) (C := RX7) (T := TX7) (Nf := 5) (ty := tyX7) cl10 dX7_sideSign_54 ly_252 0 (by decide) t_545 rfl ?_
  refine z_iload_n (M := M_X7_sideSign) dX7_sideSign_57 rfl ?_
  obtain ⟨x_19, x_19_e, hi_20, H⟩ := rd_e H
  refine z_lald (M := M_X7_sideSign) dX7_sideSign_58 ly_253 rfl rfl rfl hi_20 x_19_e ?_
  refine z_aload_n (M := M_X7_sideSign) dX7_sideSign_59 rfl ?_
  refine z_getR (M := M_X7_sideSign) (ci := 10) (C := RX7) (T := TX7) (Nf := 5) (ty := tyX7) cl10 dX7_sideSign_60 ly_252 0 (by decide) t_545 rfl ?_
  refine z_iload_n (M := M_X7_sideSign) dX7_sideSign_63 rfl ?_
  obtain ⟨x_21, x_21_e, hi_22, H⟩ := rd_e H
  refine z_lald (M := M_X7_sideSign) dX7_sideSign_64 ly_253 rfl rfl rfl hi_22 x_21_e ?_
  obtain ⟨σ_24, hc_23, H⟩ := bd_e H
  refine z_callV (M := M_X7_sideSign) (M' := M_X7_difference) (as := [vi 5, vl x_19, vl x_21]) (rest := []) rfl rfl dX7_sideSign_65 m_X7_difference t_2327 t_2329 s_148 (c_X7_difference hl  hc_23) rfl rfl ly_252 rfl (Nat.le_of_ble_eq_true rfl) (Nat.le_of_ble_eq_true rfl) (Nat.le_of_ble_eq_true rfl) (Nat.le_of_ble_eq_true rfl) ?_
  refine z_st (st' := []) rfl ?_
  refine z_aload_n (M := M_X7_sideSign) dX7_sideSign_68 rfl ?_
  refine z_bipush (M := M_X7_sideSign) dX7_sideSign_69 (by decide +kernel) ?_
  refine z_iconst (M := M_X7_sideSign) dX7_sideSign_71 ?_
  refine z_iconst (M := M_X7_sideSign) dX7_sideSign_72 ?_
  obtain ⟨σ_26, hc_25, H⟩ := bd_e H
  refine z_callV (M := M_X7_sideSign) (M' := M_X7_multiply) (as := [vi 6, vi 2, vi 3]) (rest := []) rfl rfl dX7_sideSign_73 m_X7_multiply t_2360 t_2362 s_155 (c_X7_multiply hl  hc_25) rfl rfl ly_252 rfl (Nat.le_of_ble_eq_true rfl) (Nat.le_of_ble_eq_true rfl) (Nat.le_of_ble_eq_true rfl) (Nat.le_of_ble_eq_true rfl) ?_
  refine z_st (st' := []) rfl ?_
  refine z_aload_n (M := M_X7_sideSign) dX7_sideSign_76 rfl ?_
  refine z_bipush (M := M_X7_sideSign) dX7_sideSign_77 (by decide +kernel) ?_
  refine z_iconst (M := M_X7_sideSign) dX7_sideSign_79 ?_
  refine z_iconst (M := M_X7_sideSign) dX7_sideSign_80 ?_
  obtain ⟨σ_28, hc_27, H⟩ := bd_e H
  refine z_callV (M := M_X7_sideSign) (M' := M_X7_multiply) (as := [vi 7, vi 4, vi 5]) (rest := []) rfl rfl dX7_sideSign_81 m_X7_multiply t_2360 t_2362 s_155 (c_X7_multiply hl  hc_27) rfl rfl ly_252 rfl (Nat.le_of_ble_eq_true rfl) (Nat.le_of_ble_eq_true rfl) (Nat.le_of_ble_eq_true rfl) (Nat.le_of_ble_eq_true rfl) ?_
  refine z_st (st' := []) rfl ?_
  refine z_aload_n (M := M_X7_sideSign) dX7_sideSign_84 rfl ?_
  refine z_bipush (M := M_X7_sideSign) dX7_sideSign_85 (by decide +kernel) ?_
  refine z_bipush (M := M_X7_sideSign) dX7_sideSign_87 (by decide +kernel) ?_
  refine z_bipush (M := M_X7_sideSign) dX7_sideSign_89 (by decide +kernel) ?_
  refine z_iconst (M := M_X7_sideSign) dX7_sideSign_91 ?_
  obtain ⟨σ_30, hc_29, H⟩ := bd_e H
  refine z_callV (M := M_X7_sideSign) (M' := M_X7_addSigned) (as := [vi 8, vi 6, vi 7, vi (-1)]) (rest := []) rfl rfl dX7_sideSign_92 m_X7_addSigned t_2343 t_2345 s_151 (c_X7_addSigned hl  hc_29) rfl rfl ly_252 rfl (Nat.le_of_ble_eq_true rfl) (Nat.le_of_ble_eq_true rfl) (Nat.le_of_ble_eq_true rfl) (Nat.le_of_ble_eq_true rfl) ?_
  refine z_st (st' := []) rfl ?_
  refine z_aload_n (M := M_X7_sideSign) dX7_sideSign_95 rfl ?_
  refine z_getR (M := M_X7_sideSign) (ci := 10) (C := RX7) (T := TX7) (Nf := 5) (ty := tyX7) cl10 dX7_sideSign_96 ly_252 4 (by decide) t_551 rfl ?_
  refine z_bipush (M := M_X7_sideSign) dX7_sideSign_99 (by decide +kernel) ?_
  obtain ⟨x_31, x_31_e, hi_32, H⟩ := rd_e H
  refine z_iald (M := M_X7_sideSign) dX7_sideSign_101 ly_273 rfl (by decide +kernel) rfl hi_32 x_31_e ?_
  cases H
  exact z_iret (M := M_X7_sideSign) dX7_sideSign_102 rfl (Nat.le_of_ble_eq_true rfl) (Nat.le_of_ble_eq_true rfl) ⟨rfl, rfl⟩
theorem c_X11_side (hl : l.stackTraces = false) {σ : SG} {i_0 : Int} {j_0 : Int} {k_0 : Int} {r : Int ⊕ Nat} {σ' : SG}  (H : fQ_side σ i_0 j_0 k_0 = some (r, σ')) : en_S l E M_X11_side 6 1 6 [vr 32, vi i_0, vi j_0, vi k_0] σ (pT (riT r) σ') := by
  unfold fQ_side at H
  refine z_mk (lv := [some (vr 32), some (vi i_0), some (vi j_0), some (vi k_0)]) m_X11_side rfl hl (Nat.le_of_ble_eq_true rfl) rfl ?_
  rcases if_e H with ⟨h_4, H⟩ | ⟨h_4, H⟩
  · have J_5 : YY l E M_X11_side 6 1 6 (pT (riT r) σ') 21 [some (vr 32), some (vi i_0), some (vi j_0), some (vi k_0)] [] σ 0 0 := by
      cases H
      exact z_throw (M := M_X11_side) (names := en_nm) rfl dX11_side_21 dX11_side_24 dX11_side_25 dX11_side_28 (by decide +kernel) en_nm_ok (Or.inl t_748) (Or.inl t_22) at_X11_IndexOutOfBoundsException_139 (Nat.le_of_ble_eq_true rfl) (Nat.le_of_ble_eq_true rfl) (Nat.le_of_ble_eq_true rfl) (Nat.le_of_ble_eq_true rfl) ⟨rfl, rfl⟩
    refine z_iload_n (M := M_X11_side) dX11_side_0 rfl ?_
    refine z_callS (M := M_X11_side) (M' := M_X11_isNoSignPoint) (as := [vi i_0]) (rest := []) rfl rfl dX11_side_1 m_X11_isNoSignPoint t_2309 t_2310 (c_X11_isNoSignPoint hl  rfl) rfl rfl (Nat.le_of_ble_eq_true rfl) (Nat.le_of_ble_eq_true rfl) (Nat.le_of_ble_eq_true rfl) (Nat.le_of_ble_eq_true rfl) ?_
    refine z_st (st' := [zv (fQ_isNoSignPoint i_0)]) rfl ?_
    by_cases h_7 : (fQ_isNoSignPoint i_0) = true
    · refine z_zne_t (M := M_X11_side) (tgt := 21) dX11_side_4 (by decide) h_7 ?_
      exact J_5
    · refine z_zne_f (M := M_X11_side) (tgt := 21) dX11_side_4 (by decide) h_7 ?_
      refine z_iload_n (M := M_X11_side) dX11_side_7 rfl ?_
      refine z_callS (M := M_X11_side) (M' := M_X11_isNoSignPoint) (as := [vi j_0]) (rest := []) rfl rfl dX11_side_8 m_X11_isNoSignPoint t_2309 t_2310 (c_X11_isNoSignPoint hl  rfl) rfl rfl (Nat.le_of_ble_eq_true rfl) (Nat.le_of_ble_eq_true rfl) (Nat.le_of_ble_eq_true rfl) (Nat.le_of_ble_eq_true rfl) ?_
      refine z_st (st' := [zv (fQ_isNoSignPoint j_0)]) rfl ?_
      by_cases h_8 : (fQ_isNoSignPoint j_0) = true
      · refine z_zne_t (M := M_X11_side) (tgt := 21) dX11_side_11 (by decide) h_8 ?_
        exact J_5
      · refine z_zne_f (M := M_X11_side) (tgt := 21) dX11_side_11 (by decide) h_8 ?_
        refine z_iload_n (M := M_X11_side) dX11_side_14 rfl ?_
        refine z_callS (M := M_X11_side) (M' := M_X11_isNoSignPoint) (as := [vi k_0]) (rest := []) rfl rfl dX11_side_15 m_X11_isNoSignPoint t_2309 t_2310 (c_X11_isNoSignPoint hl  rfl) rfl rfl (Nat.le_of_ble_eq_true rfl) (Nat.le_of_ble_eq_true rfl) (Nat.le_of_ble_eq_true rfl) (Nat.le_of_ble_eq_true rfl) ?_
        refine z_st (st' := [zv (fQ_isNoSignPoint k_0)]) rfl ?_
        by_cases h_9 : (fQ_isNoSignPoint k_0) = true
        · refine z_zeq_f (M := M_X11_side) (tgt := 29) dX11_side_18 (by decide) h_9 ?_
          exact J_5
        · refine z_zeq_t (M := M_X11_side) (tgt := 29) dX11_side_18 (by decide) h_9 ?_
          exact absurd h_4 (fun q => q.elim (fun q => q.elim h_7 h_8) h_9)
  · have J_6 : YY l E M_X11_side 6 1 6 (pT (riT r) σ') 29 [some (vr 32), some (vi i_0), some (vi j_0), some (vi k_0)] [] σ 0 0 := by
      refine z_aload_n (M := M_X11_side) dX11_side_29 rfl ?_
      refine z_getR (M := M_X11_side) (ci := 14) (C := RX11) (T := TX11) (Nf := 19) (ty := tyX11) cl14 dX11_side_30 ly_32 14 (by decide) t_577 rfl ?_
      refine z_iload_n (M := M_X11_side) dX11_side_33 rfl ?_
      refine z_iload_n (M := M_X11_side) dX11_side_34 rfl ?_
      refine z_iload_n (M := M_X11_side) dX11_side_35 rfl ?_
      obtain ⟨⟨x_3, σ_2⟩, hc_1, H⟩ := bd_e H
      refine z_callV (M := M_X11_side) (M' := M_X7_sideSign) (as := [vi i_0, vi j_0, vi k_0]) (rest := []) rfl rfl dX11_side_36 m_X7_sideSign t_2323 t_2324 t_2325 (c_X7_sideSign hl  hc_1) rfl rfl ly_252 rfl (Nat.le_of_ble_eq_true rfl) (Nat.le_of_ble_eq_true rfl) (Nat.le_of_ble_eq_true rfl) (Nat.le_of_ble_eq_true rfl) ?_
      refine z_st (st' := [vi x_3]) rfl ?_
      cases H
      exact z_iret (M := M_X11_side) dX11_side_39 rfl (Nat.le_of_ble_eq_true rfl) (Nat.le_of_ble_eq_true rfl) ⟨rfl, rfl⟩
    refine z_iload_n (M := M_X11_side) dX11_side_0 rfl ?_
    refine z_callS (M := M_X11_side) (M' := M_X11_isNoSignPoint) (as := [vi i_0]) (rest := []) rfl rfl dX11_side_1 m_X11_isNoSignPoint t_2309 t_2310 (c_X11_isNoSignPoint hl  rfl) rfl rfl (Nat.le_of_ble_eq_true rfl) (Nat.le_of_ble_eq_true rfl) (Nat.le_of_ble_eq_true rfl) (Nat.le_of_ble_eq_true rfl) ?_
    refine z_st (st' := [zv (fQ_isNoSignPoint i_0)]) rfl ?_
    by_cases h_10 : (fQ_isNoSignPoint i_0) = true
    · refine z_zne_t (M := M_X11_side) (tgt := 21) dX11_side_4 (by decide) h_10 ?_
      exact absurd (Or.inl (Or.inl h_10)) h_4
    · refine z_zne_f (M := M_X11_side) (tgt := 21) dX11_side_4 (by decide) h_10 ?_
      refine z_iload_n (M := M_X11_side) dX11_side_7 rfl ?_
      refine z_callS (M := M_X11_side) (M' := M_X11_isNoSignPoint) (as := [vi j_0]) (rest := []) rfl rfl dX11_side_8 m_X11_isNoSignPoint t_2309 t_2310 (c_X11_isNoSignPoint hl  rfl) rfl rfl (Nat.le_of_ble_eq_true rfl) (Nat.le_of_ble_eq_true rfl) (Nat.le_of_ble_eq_true rfl) (Nat.le_of_ble_eq_true rfl) ?_
      refine z_st (st' := [zv (fQ_isNoSignPoint j_0)]) rfl ?_
      by_cases h_11 : (fQ_isNoSignPoint j_0) = true
      · refine z_zne_t (M := M_X11_side) (tgt := 21) dX11_side_11 (by decide) h_11 ?_
        exact absurd (Or.inl (Or.inr h_11)) h_4
      · refine z_zne_f (M := M_X11_side) (tgt := 21) dX11_side_11 (by decide) h_11 ?_
        refine z_iload_n (M := M_X11_side) dX11_side_14 rfl ?_
        refine z_callS (M := M_X11_side) (M' := M_X11_isNoSignPoint) (as := [vi k_0]) (rest := []) rfl rfl dX11_side_15 m_X11_isNoSignPoint t_2309 t_2310 (c_X11_isNoSignPoint hl  rfl) rfl rfl (Nat.le_of_ble_eq_true rfl) (Nat.le_of_ble_eq_true rfl) (Nat.le_of_ble_eq_true rfl) (Nat.le_of_ble_eq_true rfl) ?_
        refine z_st (st' := [zv (fQ_isNoSignPoint k_0)]) rfl ?_
        by_cases h_12 : (fQ_isNoSignPoint k_0) = true
        · refine z_zeq_f (M := M_X11_side) (tgt := 29) dX11_side_18 (by decide) h_12 ?_
          exact absurd (Or.inr h_12) h_4
        · refine z_zeq_t (M := M_X11_side) (tgt := 29) dX11_side_18 (by decide) h_12 ?_
          exact J_6
theorem c_X7_putTerm (hl : l.stackTraces = false) {σ : SG} {to_0 : Int} {one_0 : Int} {two_0 : Int} {three_0 : Int} {σ' : SG}  (H : fI_putTerm σ to_0 one_0 two_0 three_0 = some σ') : en_S l E M_X7_putTerm 4 0 0 [vr 252, vi to_0, vi one_0, vi two_0, vi three_0] σ (pS (none) σ') := by
  unfold fI_putTerm at H
  refine z_mk (lv := [some (vr 252), some (vi to_0), some (vi one_0), some (vi two_0), some (vi three_0)]) m_X7_putTerm rfl hl (Nat.le_of_ble_eq_true rfl) rfl ?_
  refine z_aload_n (M := M_X7_putTerm) dX7_putTerm_0 rfl ?_
  refine z_bipush (M := M_X7_putTerm) dX7_putTerm_1 (by decide +kernel) ?_
  refine z_iload_n (M := M_X7_putTerm) dX7_putTerm_3 rfl ?_
  refine z_iload_n (M := M_X7_putTerm) dX7_putTerm_4 rfl ?_
  obtain ⟨σ_2, hc_1, H⟩ := bd_e H
  refine z_callV (M := M_X7_putTerm) (M' := M_X7_multiply) (as := [vi 13, vi one_0, vi one_0]) (rest := []) rfl rfl dX7_putTerm_5 m_X7_multiply t_2360 t_2362 s_155 (c_X7_multiply hl  hc_1) rfl rfl ly_252 rfl (Nat.le_of_ble_eq_true rfl) (Nat.le_of_ble_eq_true rfl) (Nat.le_of_ble_eq_true rfl) (Nat.le_of_ble_eq_true rfl) ?_
  refine z_st (st' := []) rfl ?_
  refine z_aload_n (M := M_X7_putTerm) dX7_putTerm_8 rfl ?_
  refine z_bipush (M := M_X7_putTerm) dX7_putTerm_9 (by decide +kernel) ?_
  refine z_iload_n (M := M_X7_putTerm) dX7_putTerm_11 rfl ?_
  refine z_iconst (M := M_X7_putTerm) dX7_putTerm_12 ?_
  refine z_iadd (M := M_X7_putTerm) dX7_putTerm_13 ?_
  refine z_iload_n (M := M_X7_putTerm) dX7_putTerm_14 rfl ?_
  refine z_iconst (M := M_X7_putTerm) dX7_putTerm_15 ?_
  refine z_iadd (M := M_X7_putTerm) dX7_putTerm_16 ?_
  obtain ⟨σ_4, hc_3, H⟩ := bd_e H
  refine z_callV (M := M_X7_putTerm) (M' := M_X7_multiply) (as := [vi 14, vi (one_0 + 1), vi (one_0 + 1)]) (rest := []) rfl rfl dX7_putTerm_17 m_X7_multiply t_2360 t_2362 s_155 (c_X7_multiply hl  hc_3) rfl rfl ly_252 rfl (Nat.le_of_ble_eq_true rfl) (Nat.le_of_ble_eq_true rfl) (Nat.le_of_ble_eq_true rfl) (Nat.le_of_ble_eq_true rfl) ?_
  refine z_st (st' := []) rfl ?_
  refine z_aload_n (M := M_X7_putTerm) dX7_putTerm_20 rfl ?_
  refine z_bipush (M := M_X7_putTerm) dX7_putTerm_21 (by decide +kernel) ?_
  refine z_bipush (M := M_X7_putTerm) dX7_putTerm_23 (by decide +kernel) ?_
  refine z_bipush (M := M_X7_putTerm) dX7_putTerm_25 (by decide +kernel) ?_
  refine z_iconst (M := M_X7_putTerm) dX7_putTerm_27 ?_
  obtain ⟨σ_6, hc_5, H⟩ := bd_e H
  refine z_callV (M := M_X7_putTerm) (M' := M_X7_addSigned) (as := [vi 15, vi 13, vi 14, vi 1]) (rest := []) rfl rfl dX7_putTerm_28 m_X7_addSigned t_2343 t_2345 s_151 (c_X7_addSigned hl  hc_5) rfl rfl ly_252 rfl (Nat.le_of_ble_eq_true rfl) (Nat.le_of_ble_eq_true rfl) (Nat.le_of_ble_eq_true rfl) (Nat.le_of_ble_eq_true rfl) ?_
  refine z_st (st' := []) rfl ?_
  refine z_aload_n (M := M_X7_putTerm) dX7_putTerm_31 rfl ?_
  refine z_bipush (M := M_X7_putTerm) dX7_putTerm_32 (by decide +kernel) ?_
  refine z_iload_n (M := M_X7_putTerm) dX7_putTerm_34 rfl ?_
  refine z_iload (M := M_X7_putTerm) dX7_putTerm_35 rfl ?_
  refine z_iconst (M := M_X7_putTerm) dX7_putTerm_37 ?_
  refine z_iadd (M := M_X7_putTerm) dX7_putTerm_38 ?_
  obtain ⟨σ_8, hc_7, H⟩ := bd_e H
  refine z_callV (M := M_X7_putTerm) (M' := M_X7_multiply) (as := [vi 13, vi two_0, vi (three_0 + 1)]) (rest := []) rfl rfl dX7_putTerm_39 m_X7_multiply t_2360 t_2362 s_155 (c_X7_multiply hl  hc_7) rfl rfl ly_252 rfl (Nat.le_of_ble_eq_true rfl) (Nat.le_of_ble_eq_true rfl) (Nat.le_of_ble_eq_true rfl) (Nat.le_of_ble_eq_true rfl) ?_
  refine z_st (st' := []) rfl ?_
  refine z_aload_n (M := M_X7_putTerm) dX7_putTerm_42 rfl ?_
  refine z_bipush (M := M_X7_putTerm) dX7_putTerm_43 (by decide +kernel) ?_
  refine z_iload_n (M := M_X7_putTerm) dX7_putTerm_45 rfl ?_
  refine z_iconst (M := M_X7_putTerm) dX7_putTerm_46 ?_
  refine z_iadd (M := M_X7_putTerm) dX7_putTerm_47 ?_
  refine z_iload (M := M_X7_putTerm) dX7_putTerm_48 rfl ?_
  obtain ⟨σ_10, hc_9, H⟩ := bd_e H
  refine z_callV (M := M_X7_putTerm) (M' := M_X7_multiply) (as := [vi 14, vi (two_0 + 1), vi three_0]) (rest := []) rfl rfl dX7_putTerm_50 m_X7_multiply t_2360 t_2362 s_155 (c_X7_multiply hl  hc_9) rfl rfl ly_252 rfl (Nat.le_of_ble_eq_true rfl) (Nat.le_of_ble_eq_true rfl) (Nat.le_of_ble_eq_true rfl) (Nat.le_of_ble_eq_true rfl) ?_
  refine z_st (st' := []) rfl ?_
  refine z_aload_n (M := M_X7_putTerm) dX7_putTerm_53 rfl ?_
  refine z_iconst (M := M_X7_putTerm) dX7_putTerm_54 ?_
  refine z_bipush (M := M_X7_putTerm) dX7_putTerm_55 (by decide +kernel) ?_
  refine z_bipush (M := M_X7_putTerm) dX7_putTerm_57 (by decide +kernel) ?_
  refine z_iconst (M := M_X7_putTerm) dX7_putTerm_59 ?_
  obtain ⟨σ_12, hc_11, H⟩ := bd_e H
  refine z_callV (M := M_X7_putTerm) (M' := M_X7_addSigned) (as := [vi 0, vi 13, vi 14, vi (-1)]) (rest := []) rfl rfl dX7_putTerm_60 m_X7_addSigned t_2343 t_2345 s_151 (c_X7_addSigned hl  hc_11) rfl rfl ly_252 rfl (Nat.le_of_ble_eq_true rfl) (Nat.le_of_ble_eq_true rfl) (Nat.le_of_ble_eq_true rfl) (Nat.le_of_ble_eq_true rfl) ?_
  refine z_st (st' := []) rfl ?_
  refine z_aload_n (M := M_X7_putTerm) dX7_putTerm_63 rfl ?_
  refine z_iload_n (M := M_X7_putTerm) dX7_putTerm_64 rfl ?_
  refine z_bipush (M := M_X7_putTerm) dX7_putTerm_65 (by decide +kernel) ?_
  refine z_iconst (M := M_X7_putTerm) dX7_putTerm_67 ?_
  obtain ⟨σ_14, hc_13, H⟩ := bd_e H
  refine z_callV (M := M_X7_putTerm) (M' := M_X7_multiply) (as := [vi to_0, vi 15, vi 0]) (rest := []) rfl rfl dX7_putTerm_68 m_X7_multiply t_2360 t_2362 s_155 (c_X7_multiply hl  hc_13) rfl rfl ly_252 rfl (Nat.le_of_ble_eq_true rfl) (Nat.le_of_ble_eq_true rfl) (Nat.le_of_ble_eq_true rfl) (Nat.le_of_ble_eq_true rfl) ?_
  refine z_st (st' := []) rfl ?_
  cases H
  exact z_vret (M := M_X7_putTerm) dX7_putTerm_71 rfl (Nat.le_of_ble_eq_true rfl) (Nat.le_of_ble_eq_true rfl) ⟨rfl, rfl⟩
theorem c_X7_circleSign (hl : l.stackTraces = false) {σ : SG} {i_0 : Int} {j_0 : Int} {k_0 : Int} {l_0 : Int} {r : Int} {σ' : SG}  (H : fI_circleSign σ i_0 j_0 k_0 l_0 = some (r, σ')) : en_S l E M_X7_circleSign 5 0 0 [vr 252, vi i_0, vi j_0, vi k_0, vi l_0] σ (pS (some (vi r)) σ') := by
  unfold fI_circleSign at H
  refine z_mk (lv := [some (vr 252), some (vi i_0), some (vi j_0), some (vi k_0), some (vi l_0)]) m_X7_circleSign rfl hl (Nat.le_of_ble_eq_true rfl) rfl ?_
  refine z_aload_n (M := M_X7_circleSign) dX7_circleSign_0 rfl ?_
  refine z_iconst (M := M_X7_circleSign) dX7_circleSign_1 ?_
  refine z_aload_n (M := M_X7_circleSign) dX7_circleSign_2 rfl ?_
  refine z_getR (M := M_X7_circleSign) (ci := 10) (C := RX7) (T := TX7) (Nf := 5) (ty := tyX7) cl10 dX7_circleSign_3 ly_252 0 (by decide) t_545 rfl ?_
  refine z_iload_n (M := M_X7_circleSign) dX7_circleSign_6 rfl ?_
  obtain ⟨x_1, x_1_e, hi_2, H⟩ := rd_e H
  refine z_lald (M := M_X7_circleSign) dX7_circleSign_7 ly_253 rfl rfl rfl hi_2 x_1_e ?_
  refine z_aload_n (M := M_X7_circleSign) dX7_circleSign_8 rfl ?_
  refine z_getR (M := M_X7_circleSign) (ci := 10) (C := RX7) (T := TX7) (Nf := 5) (ty := tyX7) cl10 dX7_circleSign_9 ly_252 0 (by decide) t_545 rfl ?_
  refine z_iload (M := M_X7_circleSign) dX7_circleSign_12 rfl ?_
  obtain ⟨x_3, x_3_e, hi_4, H⟩ := rd_e H
  refine z_lald (M := M_X7_circleSign) dX7_circleSign_14 ly_253 rfl rfl rfl hi_4 x_3_e ?_
  obtain ⟨σ_6, hc_5, H⟩ := bd_e H
  refine z_callV (M := M_X7_circleSign) (M' := M_X7_difference) (as := [vi 2, vl x_1, vl x_3]) (rest := []) rfl rfl dX7_circleSign_15 m_X7_difference t_2327 t_2329 s_148 (c_X7_difference hl  hc_5) rfl rfl ly_252 rfl (Nat.le_of_ble_eq_true rfl) (Nat.le_of_ble_eq_true rfl) (Nat.le_of_ble_eq_true rfl) (Nat.le_of_ble_eq_true rfl) ?_
  refine z_st (st' := []) rfl ?_
  refine z_aload_n (M := M_X7_circleSign) dX7_circleSign_18 rfl ?_
  refine z_iconst (M := M_X7_circleSign) dX7_circleSign_19 ?_
  refine z_aload_n (M := M_X7_circleSign) dX7_circleSign_20 rfl ?_
  refine z_getR (M := M_X7_circleSign) (ci := 10) (C := RX7) (T := TX7) (Nf := 5) (ty := tyX7) cl10 dX7_circleSign_21 ly_252 1 (by decide) t_547 rfl ?_
  refine z_iload_n (M := M_X7_circleSign) dX7_circleSign_24 rfl ?_
  obtain ⟨x_7, x_7_e, hi_8, H⟩ := rd_e H
  refine z_lald (M := M_X7_circleSign) dX7_circleSign_25 ly_254 rfl rfl rfl hi_8 x_7_e ?_
  refine z_aload_n (M := M_X7_circleSign) dX7_circleSign_26 rfl ?_
  refine z_getR (M := M_X7_circleSign) (ci := 10) (C := RX7) (T := TX7) (Nf := 5) (ty := tyX7) cl10 dX7_circleSign_27 ly_252 1 (by decide) t_547 rfl ?_
  refine z_iload (M := M_X7_circleSign) dX7_circleSign_30 rfl ?_
  obtain ⟨x_9, x_9_e, hi_10, H⟩ := rd_e H
  refine z_lald (M := M_X7_circleSign) dX7_circleSign_32 ly_254 rfl rfl rfl hi_10 x_9_e ?_
  obtain ⟨σ_12, hc_11, H⟩ := bd_e H
  refine z_callV (M := M_X7_circleSign) (M' := M_X7_difference) (as := [vi 3, vl x_7, vl x_9]) (rest := []) rfl rfl dX7_circleSign_33 m_X7_difference t_2327 t_2329 s_148 (c_X7_difference hl  hc_11) rfl rfl ly_252 rfl (Nat.le_of_ble_eq_true rfl) (Nat.le_of_ble_eq_true rfl) (Nat.le_of_ble_eq_true rfl) (Nat.le_of_ble_eq_true rfl) ?_
  refine z_st (st' := []) rfl ?_
  refine z_aload_n (M := M_X7_circleSign) dX7_circleSign_36 rfl ?_
  refine z_iconst (M := M_X7_circleSign) dX7_circleSign_37 ?_
  refine z_aload_n (M := M_X7_circleSign) dX7_circleSign_38 rfl ?_
  refine z_getR (M := M_X7_circleSign) (ci := 10) (C := RX7) (T := TX7) (Nf := 5) (ty := tyX7) cl10 dX7_circleSign_39 ly_252 0 (by decide) t_545 rfl ?_
  refine z_iload_n (M := M_X7_circleSign) dX7_circleSign_42 rfl ?_
  obtain ⟨x_13, x_13_e, hi_14, H⟩ := rd_e H
  refine z_lald (M := M_X7_circleSign) dX7_circleSign_43 ly_253 rfl rfl rfl hi_14 x_13_e ?_
  refine z_aload_n (M := M_X7_circleSign) dX7_circleSign_44 rfl ?_
  refine z_getR (M := M_X7_circleSign) (ci := 10) (C := RX7) (T := TX7) (Nf := 5) (ty := tyX7) cl10 dX7_circleSign_45 ly_252 0 (by decide) t_545 rfl ?_
  refine z_iload (M := M_X7_circleSign) dX7_circleSign_48 rfl ?_
  obtain ⟨x_15, x_15_e, hi_16, H⟩ := rd_e H
  refine z_lald (M := M_X7_circleSign) dX7_circleSign_50 ly_253 rfl rfl rfl hi_16 x_15_e ?_
  obtain ⟨σ_18, hc_17, H⟩ := bd_e H
  refine z_callV (M := M_X7_circleSign) (M' := M_X7_difference) (as := [vi 4, vl x_13, vl x_15]) (rest := []) rfl rfl dX7_circleSign_51 m_X7_difference t_2327 t_2329 s_148 (c_X7_difference hl  hc_17) rfl rfl ly_252 rfl (Nat.le_of_ble_eq_true rfl) (Nat.le_of_ble_eq_true rfl) (Nat.le_of_ble_eq_true rfl) (Nat.le_of_ble_eq_true rfl) ?_
  refine z_st (st' := []) rfl ?_
  refine z_aload_n (M := M_X7_circleSign) dX7_circleSign_54 rfl ?_
  refine z_iconst (M := M_X7_circleSign) dX7_circleSign_55 ?_
  refine z_aload_n (M := M_X7_circleSign) dX7_circleSign_56 rfl ?_
  refine z_getR (M := M_X7_circleSign) (ci := 10) (C := RX7) (T := TX7) (Nf := 5) (ty := tyX7) cl10 dX7_circleSign_57 ly_252 1 (by decide) t_547 rfl ?_
  refine z_iload_n (M := M_X7_circleSign) dX7_circleSign_60 rfl ?_
  obtain ⟨x_19, x_19_e, hi_20, H⟩ := rd_e H
  refine z_lald (M := M_X7_circleSign) dX7_circleSign_61 ly_254 rfl rfl rfl hi_20 x_19_e ?_
  refine z_aload_n (M := M_X7_circleSign) dX7_circleSign_62 rfl ?_
  refine z_getR (M := M_X7_circleSign) (ci := 10) (C := RX7) (T := TX7) (Nf := 5) (ty := tyX7) cl10 dX7_circleSign_63 ly_252 1 (by decide) t_547 rfl ?_
  refine z_iload (M := M_X7_circleSign) dX7_circleSign_66 rfl ?_
  obtain ⟨x_21, x_21_e, hi_22, H⟩ := rd_e H
  refine z_lald (M := M_X7_circleSign) dX7_circleSign_68 ly_254 rfl rfl rfl hi_22 x_21_e ?_
  obtain ⟨σ_24, hc_23, H⟩ := bd_e H
  refine z_callV (M := M_X7_circleSign) (M' := M_X7_difference) (as := [vi 5, vl x_19, vl x_21]) (rest := []) rfl rfl dX7_circleSign_69 m_X7_difference t_2327 t_2329 s_148 (c_X7_difference hl  hc_23) rfl rfl ly_252 rfl (Nat.le_of_ble_eq_true rfl) (Nat.le_of_ble_eq_true rfl) (Nat.le_of_ble_eq_true rfl) (Nat.le_of_ble_eq_true rfl) ?_
  refine z_st (st' := []) rfl ?_
  refine z_aload_n (M := M_X7_circleSign) dX7_circleSign_72 rfl ?_
  refine z_bipush (M := M_X7_circleSign) dX7_circleSign_73 (by decide +kernel) ?_
  refine z_aload_n (M := M_X7_circleSign) dX7_circleSign_75 rfl ?_
  refine z_getR (M := M_X7_circleSign) (ci := 10) (C := RX7) (T := TX7) (Nf := 5) (ty := tyX7) cl10 dX7_circleSign_76 ly_252 0 (by decide) t_545 rfl ?_
  refine z_iload_n (M := M_X7_circleSign) dX7_circleSign_79 rfl ?_
  obtain ⟨x_25, x_25_e, hi_26, H⟩ := rd_e H
  refine z_lald (M := M_X7_circleSign) dX7_circleSign_80 ly_253 rfl rfl rfl hi_26 x_25_e ?_
  refine z_aload_n (M := M_X7_circleSign) dX7_circleSign_81 rfl ?_
  refine z_getR (M := M_X7_circleSign) (ci := 10) (C := RX7) (T := TX7) (Nf := 5) (ty := tyX7) cl10 dX7_circleSign_82 ly_252 0 (by decide) t_545 rfl ?_
  refine z_iload (M := M_X7_circleSign) dX7_circleSign_85 rfl ?_
  obtain ⟨x_27, x_27_e, hi_28, H⟩ := rd_e H
  refine z_lald (M := M_X7_circleSign) dX7_circleSign_87 ly_253 rfl rfl rfl hi_28 x_27_e ?_
  obtain ⟨σ_30, hc_29, H⟩ := bd_e H
  refine z_callV (M := M_X7_circleSign) (M' := M_X7_difference) (as := [vi 6, vl x_25, vl x_27]) (rest := []) rfl rfl dX7_circleSign_88 m_X7_difference t_2327 t_2329 s_148 (c_X7_difference hl  hc_29) rfl rfl ly_252 rfl (Nat.le_of_ble_eq_true rfl) (Nat.le_of_ble_eq_true rfl) (Nat.le_of_ble_eq_true rfl) (Nat.le_of_ble_eq_true rfl) ?_
  refine z_st (st' := []) rfl ?_
  refine z_aload_n (M := M_X7_circleSign) dX7_circleSign_91 rfl ?_
  refine z_bipush (M := M_X7_circleSign) dX7_circleSign_92 (by decide +kernel) ?_
  refine z_aload_n (M := M_X7_circleSign) dX7_circleSign_94 rfl ?_
  refine z_getR (M := M_X7_circleSign) (ci := 10) (C := RX7) (T := TX7) (Nf := 5) (ty := tyX7) cl10 dX7_circleSign_95 ly_252 1 (by decide) t_547 rfl ?_
  refine z_iload_n (M := M_X7_circleSign) dX7_circleSign_98 rfl ?_
  obtain ⟨x_31, x_31_e, hi_32, H⟩ := rd_e H
  refine z_lald (M := M_X7_circleSign) dX7_circleSign_99 ly_254 rfl rfl rfl hi_32 x_31_e ?_
  refine z_aload_n (M := M_X7_circleSign) dX7_circleSign_100 rfl ?_
  refine z_getR (M := M_X7_circleSign) (ci := 10) (C := RX7) (T := TX7) (Nf := 5) (ty := tyX7) cl10 dX7_circleSign_101 ly_252 1 (by decide) t_547 rfl ?_
  refine z_iload (M := M_X7_circleSign) dX7_circleSign_104 rfl ?_
  obtain ⟨x_33, x_33_e, hi_34, H⟩ := rd_e H
  refine z_lald (M := M_X7_circleSign) dX7_circleSign_106 ly_254 rfl rfl rfl hi_34 x_33_e ?_
  obtain ⟨σ_36, hc_35, H⟩ := bd_e H
  refine z_callV (M := M_X7_circleSign) (M' := M_X7_difference) (as := [vi 7, vl x_31, vl x_33]) (rest := []) rfl rfl dX7_circleSign_107 m_X7_difference t_2327 t_2329 s_148 (c_X7_difference hl  hc_35) rfl rfl ly_252 rfl (Nat.le_of_ble_eq_true rfl) (Nat.le_of_ble_eq_true rfl) (Nat.le_of_ble_eq_true rfl) (Nat.le_of_ble_eq_true rfl) ?_
  refine z_st (st' := []) rfl ?_
  refine z_aload_n (M := M_X7_circleSign) dX7_circleSign_110 rfl ?_
  refine z_bipush (M := M_X7_circleSign) dX7_circleSign_111 (by decide +kernel) ?_
  refine z_iconst (M := M_X7_circleSign) dX7_circleSign_113 ?_
  refine z_iconst (M := M_X7_circleSign) dX7_circleSign_114 ?_
  refine z_bipush (M := M_X7_circleSign) dX7_circleSign_115 (by decide +kernel) ?_
  obtain ⟨σ_38, hc_37, H⟩ := bd_e H
  refine z_callV (M := M_X7_circleSign) (M' := M_X7_putTerm) (as := [vi 8, vi 2, vi 4, vi 6]) (rest := []) rfl rfl dX7_circleSign_117 m_X7_putTerm t_2375 t_2377 s_156 (c_X7_putTerm hl  hc_37) rfl rfl ly_252 rfl (Nat.le_of_ble_eq_true rfl) (Nat.le_of_ble_eq_true rfl) (Nat.le_of_ble_eq_true rfl) (Nat.le_of_ble_eq_true rfl) ?_
  refine z_st (st' := []) rfl ?_
  refine z_aload_n (M := M_X7_circleSign) dX7_circleSign_120 rfl ?_
  refine z_bipush (M := M_X7_circleSign) dX7_circleSign_121 (by decide +kernel) ?_
  refine z_iconst (M := M_X7_circleSign) dX7_circleSign_123 ?_
  refine z_bipush (M := M_X7_circleSign) dX7_circleSign_124 (by decide +kernel) ?_
  refine z_iconst (M := M_X7_circleSign) dX7_circleSign_126 ?_
  obtain ⟨σ_40, hc_39, H⟩ := bd_e H
  refine z_callV (M := M_X7_circleSign) (M' := M_X7_putTerm) (as := [vi 9, vi 4, vi 6, vi 2]) (rest := []) rfl rfl dX7_circleSign_127 m_X7_putTerm t_2375 t_2377 s_156 (c_X7_putTerm hl  hc_39) rfl rfl ly_252 rfl (Nat.le_of_ble_eq_true rfl) (Nat.le_of_ble_eq_true rfl) (Nat.le_of_ble_eq_true rfl) (Nat.le_of_ble_eq_true rfl) ?_
  refine z_st (st' := []) rfl ?_
  refine z_aload_n (M := M_X7_circleSign) dX7_circleSign_130 rfl ?_
  refine z_bipush (M := M_X7_circleSign) dX7_circleSign_131 (by decide +kernel) ?_
  refine z_bipush (M := M_X7_circleSign) dX7_circleSign_133 (by decide +kernel) ?_
  refine z_iconst (M := M_X7_circleSign) dX7_circleSign_135 ?_
  refine z_iconst (M := M_X7_circleSign) dX7_circleSign_136 ?_
  obtain ⟨σ_42, hc_41, H⟩ := bd_e H
  refine z_callV (M := M_X7_circleSign) (M' := M_X7_putTerm) (as := [vi 10, vi 6, vi 2, vi 4]) (rest := []) rfl rfl dX7_circleSign_137 m_X7_putTerm t_2375 t_2377 s_156 (c_X7_putTerm hl  hc_41) rfl rfl ly_252 rfl (Nat.le_of_ble_eq_true rfl) (Nat.le_of_ble_eq_true rfl) (Nat.le_of_ble_eq_true rfl) (Nat.le_of_ble_eq_true rfl) ?_
  refine z_st (st' := []) rfl ?_
  refine z_aload_n (M := M_X7_circleSign) dX7_circleSign_140 rfl ?_
  refine z_bipush (M := M_X7_circleSign) dX7_circleSign_141 (by decide +kernel) ?_
  refine z_bipush (M := M_X7_circleSign) dX7_circleSign_143 (by decide +kernel) ?_
  refine z_bipush (M := M_X7_circleSign) dX7_circleSign_145 (by decide +kernel) ?_
  refine z_iconst (M := M_X7_circleSign) dX7_circleSign_147 ?_
  obtain ⟨σ_44, hc_43, H⟩ := bd_e H
  refine z_callV (M := M_X7_circleSign) (M' := M_X7_addSigned) (as := [vi 11, vi 8, vi 9, vi 1]) (rest := []) rfl rfl dX7_circleSign_148 m_X7_addSigned t_2343 t_2345 s_151 (c_X7_addSigned hl  hc_43) rfl rfl ly_252 rfl (Nat.le_of_ble_eq_true rfl) (Nat.le_of_ble_eq_true rfl) (Nat.le_of_ble_eq_true rfl) (Nat.le_of_ble_eq_true rfl) ?_
  refine z_st (st' := []) rfl ?_
  refine z_aload_n (M := M_X7_circleSign) dX7_circleSign_151 rfl ?_
  refine z_bipush (M := M_X7_circleSign) dX7_circleSign_152 (by decide +kernel) ?_
  refine z_bipush (M := M_X7_circleSign) dX7_circleSign_154 (by decide +kernel) ?_
  refine z_bipush (M := M_X7_circleSign) dX7_circleSign_156 (by decide +kernel) ?_
  refine z_iconst (M := M_X7_circleSign) dX7_circleSign_158 ?_
  obtain ⟨σ_46, hc_45, H⟩ := bd_e H
  refine z_callV (M := M_X7_circleSign) (M' := M_X7_addSigned) (as := [vi 12, vi 11, vi 10, vi 1]) (rest := []) rfl rfl dX7_circleSign_159 m_X7_addSigned t_2343 t_2345 s_151 (c_X7_addSigned hl  hc_45) rfl rfl ly_252 rfl (Nat.le_of_ble_eq_true rfl) (Nat.le_of_ble_eq_true rfl) (Nat.le_of_ble_eq_true rfl) (Nat.le_of_ble_eq_true rfl) ?_
  refine z_st (st' := []) rfl ?_
  refine z_aload_n (M := M_X7_circleSign) dX7_circleSign_162 rfl ?_
  refine z_getR (M := M_X7_circleSign) (ci := 10) (C := RX7) (T := TX7) (Nf := 5) (ty := tyX7) cl10 dX7_circleSign_163 ly_252 4 (by decide) t_551 rfl ?_
  refine z_bipush (M := M_X7_circleSign) dX7_circleSign_166 (by decide +kernel) ?_
  obtain ⟨x_47, x_47_e, hi_48, H⟩ := rd_e H
  refine z_iald (M := M_X7_circleSign) dX7_circleSign_168 ly_273 rfl (by decide +kernel) rfl hi_48 x_47_e ?_
  cases H
  exact z_iret (M := M_X7_circleSign) dX7_circleSign_169 rfl (Nat.le_of_ble_eq_true rfl) (Nat.le_of_ble_eq_true rfl) ⟨rfl, rfl⟩
theorem c_X11_circle (hl : l.stackTraces = false) {σ : SG} {i_0 : Int} {j_0 : Int} {k_0 : Int} {l_0 : Int} {r : Int ⊕ Nat} {σ' : SG}  (H : fQ_circle σ i_0 j_0 k_0 l_0 = some (r, σ')) : en_S l E M_X11_circle 6 1 6 [vr 32, vi i_0, vi j_0, vi k_0, vi l_0] σ (pT (riT r) σ') := by
  unfold fQ_circle at H
  refine z_mk (lv := [some (vr 32), some (vi i_0), some (vi j_0), some (vi k_0), some (vi l_0)]) m_X11_circle rfl hl (Nat.le_of_ble_eq_true rfl) rfl ?_
  rcases if_e H with ⟨h_4, H⟩ | ⟨h_4, H⟩
  · have J_5 : YY l E M_X11_circle 6 1 6 (pT (riT r) σ') 29 [some (vr 32), some (vi i_0), some (vi j_0), some (vi k_0), some (vi l_0)] [] σ 0 0 := by
      cases H
      exact z_throw (M := M_X11_circle) (names := en_nm) rfl dX11_circle_29 dX11_circle_32 dX11_circle_33 dX11_circle_36 (by decide +kernel) en_nm_ok (Or.inl t_748) (Or.inl t_22) at_X11_IndexOutOfBoundsException_139 (Nat.le_of_ble_eq_true rfl) (Nat.le_of_ble_eq_true rfl) (Nat.le_of_ble_eq_true rfl) (Nat.le_of_ble_eq_true rfl) ⟨rfl, rfl⟩
    refine z_iload_n (M := M_X11_circle) dX11_circle_0 rfl ?_
    refine z_callS (M := M_X11_circle) (M' := M_X11_isNoSignPoint) (as := [vi i_0]) (rest := []) rfl rfl dX11_circle_1 m_X11_isNoSignPoint t_2309 t_2310 (c_X11_isNoSignPoint hl  rfl) rfl rfl (Nat.le_of_ble_eq_true rfl) (Nat.le_of_ble_eq_true rfl) (Nat.le_of_ble_eq_true rfl) (Nat.le_of_ble_eq_true rfl) ?_
    refine z_st (st' := [zv (fQ_isNoSignPoint i_0)]) rfl ?_
    by_cases h_7 : (fQ_isNoSignPoint i_0) = true
    · refine z_zne_t (M := M_X11_circle) (tgt := 29) dX11_circle_4 (by decide) h_7 ?_
      exact J_5
    · refine z_zne_f (M := M_X11_circle) (tgt := 29) dX11_circle_4 (by decide) h_7 ?_
      refine z_iload_n (M := M_X11_circle) dX11_circle_7 rfl ?_
      refine z_callS (M := M_X11_circle) (M' := M_X11_isNoSignPoint) (as := [vi j_0]) (rest := []) rfl rfl dX11_circle_8 m_X11_isNoSignPoint t_2309 t_2310 (c_X11_isNoSignPoint hl  rfl) rfl rfl (Nat.le_of_ble_eq_true rfl) (Nat.le_of_ble_eq_true rfl) (Nat.le_of_ble_eq_true rfl) (Nat.le_of_ble_eq_true rfl) ?_
      refine z_st (st' := [zv (fQ_isNoSignPoint j_0)]) rfl ?_
      by_cases h_8 : (fQ_isNoSignPoint j_0) = true
      · refine z_zne_t (M := M_X11_circle) (tgt := 29) dX11_circle_11 (by decide) h_8 ?_
        exact J_5
      · refine z_zne_f (M := M_X11_circle) (tgt := 29) dX11_circle_11 (by decide) h_8 ?_
        refine z_iload_n (M := M_X11_circle) dX11_circle_14 rfl ?_
        refine z_callS (M := M_X11_circle) (M' := M_X11_isNoSignPoint) (as := [vi k_0]) (rest := []) rfl rfl dX11_circle_15 m_X11_isNoSignPoint t_2309 t_2310 (c_X11_isNoSignPoint hl  rfl) rfl rfl (Nat.le_of_ble_eq_true rfl) (Nat.le_of_ble_eq_true rfl) (Nat.le_of_ble_eq_true rfl) (Nat.le_of_ble_eq_true rfl) ?_
        refine z_st (st' := [zv (fQ_isNoSignPoint k_0)]) rfl ?_
        by_cases h_9 : (fQ_isNoSignPoint k_0) = true
        · refine z_zne_t (M := M_X11_circle) (tgt := 29) dX11_circle_18 (by decide) h_9 ?_
          exact J_5
        · refine z_zne_f (M := M_X11_circle) (tgt := 29) dX11_circle_18 (by decide) h_9 ?_
          refine z_iload (M := M_X11_circle) dX11_circle_21 rfl ?_
          refine z_callS (M := M_X11_circle) (M' := M_X11_isNoSignPoint) (as := [vi l_0]) (rest := []) rfl rfl dX11_circle_23 m_X11_isNoSignPoint t_2309 t_2310 (c_X11_isNoSignPoint hl  rfl) rfl rfl (Nat.le_of_ble_eq_true rfl) (Nat.le_of_ble_eq_true rfl) (Nat.le_of_ble_eq_true rfl) (Nat.le_of_ble_eq_true rfl) ?_
          refine z_st (st' := [zv (fQ_isNoSignPoint l_0)]) rfl ?_
          by_cases h_10 : (fQ_isNoSignPoint l_0) = true
          · refine z_zeq_f (M := M_X11_circle) (tgt := 37) dX11_circle_26 (by decide) h_10 ?_
            exact J_5
          · refine z_zeq_t (M := M_X11_circle) (tgt := 37) dX11_circle_26 (by decide) h_10 ?_
            exact absurd h_4 (fun q => q.elim (fun q => q.elim (fun q => q.elim h_7 h_8) h_9) h_10)
  · have J_6 : YY l E M_X11_circle 6 1 6 (pT (riT r) σ') 37 [some (vr 32), some (vi i_0), some (vi j_0), some (vi k_0), some (vi l_0)] [] σ 0 0 := by
      refine z_aload_n (M := M_X11_circle) dX11_circle_37 rfl ?_
      refine z_getR (M := M_X11_circle) (ci := 14) (C := RX11) (T := TX11) (Nf := 19) (ty := tyX11) cl14 dX11_circle_38 ly_32 14 (by decide) t_577 rfl ?_
      refine z_iload_n (M := M_X11_circle) dX11_circle_41 rfl ?_
      refine z_iload_n (M := M_X11_circle) dX11_circle_42 rfl ?_
      refine z_iload_n (M := M_X11_circle) dX11_circle_43 rfl ?_
      refine z_iload (M := M_X11_circle) dX11_circle_44 rfl ?_
      obtain ⟨⟨x_3, σ_2⟩, hc_1, H⟩ := bd_e H
      refine z_callV (M := M_X11_circle) (M' := M_X7_circleSign) (as := [vi i_0, vi j_0, vi k_0, vi l_0]) (rest := []) rfl rfl dX11_circle_46 m_X7_circleSign t_2371 t_2372 t_2373 (c_X7_circleSign hl  hc_1) rfl rfl ly_252 rfl (Nat.le_of_ble_eq_true rfl) (Nat.le_of_ble_eq_true rfl) (Nat.le_of_ble_eq_true rfl) (Nat.le_of_ble_eq_true rfl) ?_
      refine z_st (st' := [vi x_3]) rfl ?_
      cases H
      exact z_iret (M := M_X11_circle) dX11_circle_49 rfl (Nat.le_of_ble_eq_true rfl) (Nat.le_of_ble_eq_true rfl) ⟨rfl, rfl⟩
    refine z_iload_n (M := M_X11_circle) dX11_circle_0 rfl ?_
    refine z_callS (M := M_X11_circle) (M' := M_X11_isNoSignPoint) (as := [vi i_0]) (rest := []) rfl rfl dX11_circle_1 m_X11_isNoSignPoint t_2309 t_2310 (c_X11_isNoSignPoint hl  rfl) rfl rfl (Nat.le_of_ble_eq_true rfl) (Nat.le_of_ble_eq_true rfl) (Nat.le_of_ble_eq_true rfl) (Nat.le_of_ble_eq_true rfl) ?_
    refine z_st (st' := [zv (fQ_isNoSignPoint i_0)]) rfl ?_
    by_cases h_11 : (fQ_isNoSignPoint i_0) = true
    · refine z_zne_t (M := M_X11_circle) (tgt := 29) dX11_circle_4 (by decide) h_11 ?_
      exact absurd (Or.inl (Or.inl (Or.inl h_11))) h_4
    · refine z_zne_f (M := M_X11_circle) (tgt := 29) dX11_circle_4 (by decide) h_11 ?_
      refine z_iload_n (M := M_X11_circle) dX11_circle_7 rfl ?_
      refine z_callS (M := M_X11_circle) (M' := M_X11_isNoSignPoint) (as := [vi j_0]) (rest := []) rfl rfl dX11_circle_8 m_X11_isNoSignPoint t_2309 t_2310 (c_X11_isNoSignPoint hl  rfl) rfl rfl (Nat.le_of_ble_eq_true rfl) (Nat.le_of_ble_eq_true rfl) (Nat.le_of_ble_eq_true rfl) (Nat.le_of_ble_eq_true rfl) ?_
      refine z_st (st' := [zv (fQ_isNoSignPoint j_0)]) rfl ?_
      by_cases h_12 : (fQ_isNoSignPoint j_0) = true
      · refine z_zne_t (M := M_X11_circle) (tgt := 29) dX11_circle_11 (by decide) h_12 ?_
        exact absurd (Or.inl (Or.inl (Or.inr h_12))) h_4
      · refine z_zne_f (M := M_X11_circle) (tgt := 29) dX11_circle_11 (by decide) h_12 ?_
        refine z_iload_n (M := M_X11_circle) dX11_circle_14 rfl ?_
        refine z_callS (M := M_X11_circle) (M' := M_X11_isNoSignPoint) (as := [vi k_0]) (rest := []) rfl rfl dX11_circle_15 m_X11_isNoSignPoint t_2309 t_2310 (c_X11_isNoSignPoint hl  rfl) rfl rfl (Nat.le_of_ble_eq_true rfl) (Nat.le_of_ble_eq_true rfl) (Nat.le_of_ble_eq_true rfl) (Nat.le_of_ble_eq_true rfl) ?_
        refine z_st (st' := [zv (fQ_isNoSignPoint k_0)]) rfl ?_
        by_cases h_13 : (fQ_isNoSignPoint k_0) = true
        · refine z_zne_t (M := M_X11_circle) (tgt := 29) dX11_circle_18 (by decide) h_13 ?_
          exact absurd (Or.inl (Or.inr h_13)) h_4
        · refine z_zne_f (M := M_X11_circle) (tgt := 29) dX11_circle_18 (by decide) h_13 ?_
          refine z_iload (M := M_X11_circle) dX11_circle_21 rfl ?_
          refine z_callS (M := M_X11_circle) (M' := M_X11_isNoSignPoint) (as := [vi l_0]) (rest := []) rfl rfl dX11_circle_23 m_X11_isNoSignPoint t_2309 t_2310 (c_X11_isNoSignPoint hl  rfl) rfl rfl (Nat.le_of_ble_eq_true rfl) (Nat.le_of_ble_eq_true rfl) (Nat.le_of_ble_eq_true rfl) (Nat.le_of_ble_eq_true rfl) ?_
          refine z_st (st' := [zv (fQ_isNoSignPoint l_0)]) rfl ?_
          by_cases h_14 : (fQ_isNoSignPoint l_0) = true
          · refine z_zeq_f (M := M_X11_circle) (tgt := 37) dX11_circle_26 (by decide) h_14 ?_
            exact absurd (Or.inr h_14) h_4
          · refine z_zeq_t (M := M_X11_circle) (tgt := 37) dX11_circle_26 (by decide) h_14 ?_
            exact J_6
theorem c_X12_thrown (hl : l.stackTraces = false) {σ : SG} {r : Int}  (H : fR_thrown σ = r) : en_S l E M_X12_thrown 1 0 0 [vr 277] σ (pS (some (vi r)) σ) := by
  unfold fR_thrown at H
  refine z_mk (lv := [some (vr 277)]) m_X12_thrown rfl hl (Nat.le_of_ble_eq_true rfl) rfl ?_
  refine z_aload_n (M := M_X12_thrown) dX12_thrown_0 rfl ?_
  refine z_getI (M := M_X12_thrown) (ci := 15) (C := RX12) (T := TX12) (Nf := 135) (ty := tyX12) cl15 dX12_thrown_1 ly_277 0 (by decide) t_2391 rfl rfl ?_
  cases H
  exact z_iret (M := M_X12_thrown) dX12_thrown_4 rfl (Nat.le_of_ble_eq_true rfl) (Nat.le_of_ble_eq_true rfl) ⟨rfl, rfl⟩
theorem c_X12_fails (hl : l.stackTraces = false) {σ : SG} {is_0 : Bool} {which_0 : Int} {r : Bool} {σ' : SG}  (H : fR_fails σ is_0 which_0 = some (r, σ')) : en_S l E M_X12_fails 1 0 0 [vr 277, zv is_0, vi which_0] σ (pS (some (zv r)) σ') := by
  unfold fR_fails at H
  refine z_mk (lv := [some (vr 277), some (zv is_0), some (vi which_0)]) m_X12_fails rfl hl (Nat.le_of_ble_eq_true rfl) rfl ?_
  refine z_aload_n (M := M_X12_fails) dX12_fails_0 rfl ?_
  have J_1 : YY l E M_X12_fails 1 0 0 (pS (some (zv r)) σ') 20 [some (vr 277), some (zv is_0), some (vi which_0)] [vi (if (is_0 = true) ∧ ((w32 (σ kR_thrown 0)) = 0) then which_0 else (σ kR_thrown 0)), vr 277] σ 0 0 := by
    obtain ⟨σ_2, σ_2_e, H⟩ := wf_e H
    refine z_putI (M := M_X12_fails) (ci := 15) (C := RX12) (T := TX12) (Nf := 135) (ty := tyX12) cl15 dX12_fails_20 ly_277 0 (by decide) t_2391 rfl rfl rfl rfl σ_2_e ?_
    have J_3 : YY l E M_X12_fails 1 0 0 (pS (some (zv r)) σ') 35 [some (vr 277), some (zv is_0), some (vi which_0)] [zv (decide (¬ (w32 (σ_2 kR_thrown 0)) = 0))] σ_2 0 0 := by
      cases H
      exact z_zret (M := M_X12_fails) dX12_fails_35 rfl (Nat.le_of_ble_eq_true rfl) (Nat.le_of_ble_eq_true rfl) ⟨rfl, rfl⟩
    refine z_aload_n (M := M_X12_fails) dX12_fails_23 rfl ?_
    refine z_getI (M := M_X12_fails) (ci := 15) (C := RX12) (T := TX12) (Nf := 135) (ty := tyX12) cl15 dX12_fails_24 ly_277 0 (by decide) t_2391 rfl rfl ?_
    by_cases h_4 : ¬ (w32 (σ_2 kR_thrown 0)) = 0
    · refine z_if_eq_f (M := M_X12_fails) (tgt := 34) dX12_fails_27 (by decide) rfl h_4 ?_
      refine z_iconst (M := M_X12_fails) dX12_fails_30 ?_
      refine z_goto (M := M_X12_fails) (tgt := 35) dX12_fails_31 (by decide) ?_
      exact z_st (by rw [zv_t (p := ¬ (w32 (σ_2 kR_thrown 0)) = 0) h_4]) J_3
    · refine z_if_eq_t (M := M_X12_fails) (tgt := 34) dX12_fails_27 (by decide) rfl (Decidable.not_not.mp h_4) ?_
      refine z_iconst (M := M_X12_fails) dX12_fails_34 ?_
      exact z_st (by rw [zv_f (p := ¬ (w32 (σ_2 kR_thrown 0)) = 0) h_4]) J_3
  refine z_zload_n (M := M_X12_fails) dX12_fails_1 rfl ?_
  by_cases h_5 : is_0 = true
  · refine z_zeq_f (M := M_X12_fails) (tgt := 16) dX12_fails_2 (by decide) h_5 ?_
    refine z_aload_n (M := M_X12_fails) dX12_fails_5 rfl ?_
    refine z_getI (M := M_X12_fails) (ci := 15) (C := RX12) (T := TX12) (Nf := 135) (ty := tyX12) cl15 dX12_fails_6 ly_277 0 (by decide) t_2391 rfl rfl ?_
    by_cases h_6 : (w32 (σ kR_thrown 0)) = 0
    · refine z_if_ne_f (M := M_X12_fails) (tgt := 16) dX12_fails_9 (by decide) rfl h_6 ?_
      refine z_iload_n (M := M_X12_fails) dX12_fails_12 rfl ?_
      refine z_goto (M := M_X12_fails) (tgt := 20) dX12_fails_13 (by decide) ?_
      exact z_st (by rw [if_pos (c := (is_0 = true) ∧ ((w32 (σ kR_thrown 0)) = 0)) ⟨h_5, h_6⟩]) J_1
    · refine z_if_ne_t (M := M_X12_fails) (tgt := 16) dX12_fails_9 (by decide) rfl h_6 ?_
      refine z_aload_n (M := M_X12_fails) dX12_fails_16 rfl ?_
      refine z_getI (M := M_X12_fails) (ci := 15) (C := RX12) (T := TX12) (Nf := 135) (ty := tyX12) cl15 dX12_fails_17 ly_277 0 (by decide) t_2391 rfl rfl ?_
      exact z_st (by rw [if_neg (c := (is_0 = true) ∧ ((w32 (σ kR_thrown 0)) = 0)) (fun q => h_6 q.2)]) J_1
  · refine z_zeq_t (M := M_X12_fails) (tgt := 16) dX12_fails_2 (by decide) h_5 ?_
    refine z_aload_n (M := M_X12_fails) dX12_fails_16 rfl ?_
    refine z_getI (M := M_X12_fails) (ci := 15) (C := RX12) (T := TX12) (Nf := 135) (ty := tyX12) cl15 dX12_fails_17 ly_277 0 (by decide) t_2391 rfl rfl ?_
    exact z_st (by rw [if_neg (c := (is_0 = true) ∧ ((w32 (σ kR_thrown 0)) = 0)) (fun q => h_5 q.1)]) J_1
theorem c_X12_in (hl : l.stackTraces = false) {σ : SG} {v_0 : Int} {low_0 : Int} {high_0 : Int} {r : Bool}  (H : fR_in v_0 low_0 high_0 = r) : en_S l E M_X12_in 1 0 0 [vl v_0, vl low_0, vl high_0] σ (pS (some (zv r)) σ) := by
  unfold fR_in at H
  refine z_mk (lv := [some (vl v_0), none, some (vl low_0), none, some (vl high_0), none]) m_X12_in rfl hl (Nat.le_of_ble_eq_true rfl) rfl ?_
  have J_1 : YY l E M_X12_in 1 0 0 (pS (some (zv r)) σ) 18 [some (vl v_0), none, some (vl low_0), none, some (vl high_0), none] [zv (decide (((w64 low_0) ≤ (w64 v_0)) ∧ ((w64 v_0) ≤ (w64 high_0))))] σ 0 0 := by
    cases H
    exact z_zret (M := M_X12_in) dX12_in_18 rfl (Nat.le_of_ble_eq_true rfl) (Nat.le_of_ble_eq_true rfl) ⟨rfl, rfl⟩
  refine z_lload_n (M := M_X12_in) dX12_in_0 rfl ?_
  refine z_lload_n (M := M_X12_in) dX12_in_1 rfl ?_
  refine z_lcmp (M := M_X12_in) dX12_in_2 ?_
  by_cases h_2 : (w64 low_0) ≤ (w64 v_0)
  · refine z_lif_lt_f (M := M_X12_in) (tgt := 17) dX12_in_3 (by decide) rfl rfl h_2 ?_
    refine z_lload_n (M := M_X12_in) dX12_in_6 rfl ?_
    refine z_lload (M := M_X12_in) dX12_in_7 rfl ?_
    refine z_lcmp (M := M_X12_in) dX12_in_9 ?_
    by_cases h_3 : (w64 v_0) ≤ (w64 high_0)
    · refine z_lif_gt_f (M := M_X12_in) (tgt := 17) dX12_in_10 (by decide) rfl rfl h_3 ?_
      refine z_iconst (M := M_X12_in) dX12_in_13 ?_
      refine z_goto (M := M_X12_in) (tgt := 18) dX12_in_14 (by decide) ?_
      exact z_st (by rw [zv_t (p := ((w64 low_0) ≤ (w64 v_0)) ∧ ((w64 v_0) ≤ (w64 high_0))) ⟨h_2, h_3⟩]) J_1
    · refine z_lif_gt_t (M := M_X12_in) (tgt := 17) dX12_in_10 (by decide) rfl rfl (Int.not_le.mp h_3) ?_
      refine z_iconst (M := M_X12_in) dX12_in_17 ?_
      exact z_st (by rw [zv_f (p := ((w64 low_0) ≤ (w64 v_0)) ∧ ((w64 v_0) ≤ (w64 high_0))) (fun q => h_3 q.2)]) J_1
  · refine z_lif_lt_t (M := M_X12_in) (tgt := 17) dX12_in_3 (by decide) rfl rfl (Int.not_le.mp h_2) ?_
    refine z_iconst (M := M_X12_in) dX12_in_17 ?_
    exact z_st (by rw [zv_f (p := ((w64 low_0) ≤ (w64 v_0)) ∧ ((w64 v_0) ≤ (w64 high_0))) (fun q => h_2 q.1)]) J_1
theorem c_X12_isSlot (hl : l.stackTraces = false) {σ : SG} {slot_0 : Int} {r : Bool}  (H : fR_isSlot slot_0 = r) : en_S l E M_X12_isSlot 1 0 0 [vi slot_0] σ (pS (some (zv r)) σ) := by
  unfold fR_isSlot at H
  refine z_mk (lv := [some (vi slot_0)]) m_X12_isSlot rfl hl (Nat.le_of_ble_eq_true rfl) rfl ?_
  have J_1 : YY l E M_X12_isSlot 1 0 0 (pS (some (zv r)) σ) 15 [some (vi slot_0)] [zv (decide ((0 ≤ (w32 slot_0)) ∧ ((w32 slot_0) < 32)))] σ 0 0 := by
    cases H
    exact z_zret (M := M_X12_isSlot) dX12_isSlot_15 rfl (Nat.le_of_ble_eq_true rfl) (Nat.le_of_ble_eq_true rfl) ⟨rfl, rfl⟩
  refine z_iload_n (M := M_X12_isSlot) dX12_isSlot_0 rfl ?_
  by_cases h_2 : 0 ≤ (w32 slot_0)
  · refine z_if_lt_f (M := M_X12_isSlot) (tgt := 14) dX12_isSlot_1 (by decide) rfl h_2 ?_
    refine z_iload_n (M := M_X12_isSlot) dX12_isSlot_4 rfl ?_
    refine z_bipush (M := M_X12_isSlot) dX12_isSlot_5 (by decide +kernel) ?_
    by_cases h_3 : (w32 slot_0) < 32
    · refine z_icmp_ge_f (M := M_X12_isSlot) (tgt := 14) dX12_isSlot_7 (by decide) rfl (by decide +kernel) h_3 ?_
      refine z_iconst (M := M_X12_isSlot) dX12_isSlot_10 ?_
      refine z_goto (M := M_X12_isSlot) (tgt := 15) dX12_isSlot_11 (by decide) ?_
      exact z_st (by rw [zv_t (p := (0 ≤ (w32 slot_0)) ∧ ((w32 slot_0) < 32)) ⟨h_2, h_3⟩]) J_1
    · refine z_icmp_ge_t (M := M_X12_isSlot) (tgt := 14) dX12_isSlot_7 (by decide) rfl (by decide +kernel) (Int.not_lt.mp h_3) ?_
      refine z_iconst (M := M_X12_isSlot) dX12_isSlot_14 ?_
      exact z_st (by rw [zv_f (p := (0 ≤ (w32 slot_0)) ∧ ((w32 slot_0) < 32)) (fun q => h_3 q.2)]) J_1
  · refine z_if_lt_t (M := M_X12_isSlot) (tgt := 14) dX12_isSlot_1 (by decide) rfl (Int.not_le.mp h_2) ?_
    refine z_iconst (M := M_X12_isSlot) dX12_isSlot_14 ?_
    exact z_st (by rw [zv_f (p := (0 ≤ (w32 slot_0)) ∧ ((w32 slot_0) < 32)) (fun q => h_2 q.1)]) J_1
theorem c_X12_has (hl : l.stackTraces = false) {σ : SG} {slot_0 : Int} {r : Bool}  (H : fR_has σ slot_0 = some r) : en_S l E M_X12_has 1 0 0 [vr 277, vi slot_0] σ (pS (some (zv r)) σ) := by
  unfold fR_has at H
  refine z_mk (lv := [some (vr 277), some (vi slot_0)]) m_X12_has rfl hl (Nat.le_of_ble_eq_true rfl) rfl ?_
  obtain ⟨v_7, he_8, hk_9⟩ := bd_e H
  have J_10 : ∀ x_6, v_7 = x_6 → YY l E M_X12_has 1 0 0 (pS (some (zv r)) σ) 14 [some (vr 277), some (vi slot_0)] [zv x_6] σ 0 0 := by
    intro x_6 e
    have H := hk_9
    rw [e] at H
    cases H
    exact z_zret (M := M_X12_has) dX12_has_14 rfl (Nat.le_of_ble_eq_true rfl) (Nat.le_of_ble_eq_true rfl) ⟨rfl, rfl⟩
  have H := he_8
  refine z_aload_n (M := M_X12_has) dX12_has_0 rfl ?_
  refine z_getR (M := M_X12_has) (ci := 15) (C := RX12) (T := TX12) (Nf := 135) (ty := tyX12) cl15 dX12_has_1 ly_277 9 (by decide) t_2400 rfl ?_
  refine z_iload_n (M := M_X12_has) dX12_has_4 rfl ?_
  obtain ⟨x_1, x_1_e, hi_2, H⟩ := rd_e H
  refine z_iald (M := M_X12_has) dX12_has_5 ly_280 rfl rfl rfl hi_2 x_1_e ?_
  rcases if_e H with ⟨h_3, H⟩ | ⟨h_3, H⟩
  · refine z_if_le_f (M := M_X12_has) (tgt := 13) dX12_has_6 (by decide) rfl h_3 ?_
    refine z_zconst (M := M_X12_has) (b := true) dX12_has_9 rfl ?_
    refine z_goto (M := M_X12_has) (tgt := 14) dX12_has_10 (by decide) ?_
    exact J_10 _ (Option.some.inj H).symm
  · refine z_if_le_t (M := M_X12_has) (tgt := 13) dX12_has_6 (by decide) rfl (Int.not_lt.mp h_3) ?_
    refine z_zconst (M := M_X12_has) (b := false) dX12_has_13 rfl ?_
    exact J_10 _ (Option.some.inj H).symm
theorem c_X12_clear (hl : l.stackTraces = false) {σ : SG} {slot_0 : Int} {σ' : SG}  (H : fR_clear σ slot_0 = some σ') : en_S l E M_X12_clear 1 0 0 [vr 277, vi slot_0] σ (pS (none) σ') := by
  unfold fR_clear at H
  refine z_mk (lv := [some (vr 277), some (vi slot_0)]) m_X12_clear rfl hl (Nat.le_of_ble_eq_true rfl) rfl ?_
  refine z_aload_n (M := M_X12_clear) dX12_clear_0 rfl ?_
  refine z_getR (M := M_X12_clear) (ci := 15) (C := RX12) (T := TX12) (Nf := 135) (ty := tyX12) cl15 dX12_clear_1 ly_277 9 (by decide) t_2400 rfl ?_
  refine z_iload_n (M := M_X12_clear) dX12_clear_4 rfl ?_
  refine z_iconst (M := M_X12_clear) dX12_clear_5 ?_
  obtain ⟨σ_1, σ_1_e, hi_2, H⟩ := wa_e H
  refine z_iast (M := M_X12_clear) dX12_clear_6 ly_280 rfl rfl rfl hi_2 σ_1_e ?_
  refine z_aload_n (M := M_X12_clear) dX12_clear_7 rfl ?_
  refine z_getR (M := M_X12_clear) (ci := 15) (C := RX12) (T := TX12) (Nf := 135) (ty := tyX12) cl15 dX12_clear_8 ly_277 11 (by decide) t_2402 rfl ?_
  refine z_iload_n (M := M_X12_clear) dX12_clear_11 rfl ?_
  refine z_iconst (M := M_X12_clear) dX12_clear_12 ?_
  obtain ⟨σ_3, σ_3_e, hi_4, H⟩ := wa_e H
  refine z_iast (M := M_X12_clear) dX12_clear_13 ly_282 rfl rfl rfl hi_4 σ_3_e ?_
  cases H
  exact z_vret (M := M_X12_clear) dX12_clear_14 rfl (Nat.le_of_ble_eq_true rfl) (Nat.le_of_ble_eq_true rfl) ⟨rfl, rfl⟩
theorem c_X12_move (hl : l.stackTraces = false) {σ : SG} {from_0 : Int} {to_0 : Int} {σ' : SG}  (H : fR_move σ from_0 to_0 = some σ') : en_S l E M_X12_move 1 0 0 [vr 277, vi from_0, vi to_0] σ (pS (none) σ') := by
  unfold fR_move at H
  refine z_mk (lv := [some (vr 277), some (vi from_0), some (vi to_0), none]) m_X12_move rfl hl (Nat.le_of_ble_eq_true rfl) rfl ?_
  refine z_iconst (M := M_X12_move) dX12_move_0 ?_
  refine z_istore_n (M := M_X12_move) (lv' := [some (vr 277), some (vi from_0), some (vi to_0), some (vi 0)]) dX12_move_1 (Nat.le_of_ble_eq_true rfl) rfl rfl ?_
  obtain ⟨rl_6, hw_3, hk_4⟩ := bd_e H
  have J_54 : ∀ k_19 σ_20, rl_6 = (k_19, σ_20) → YY l E M_X12_move 1 0 0 (pS (none) σ') 42 [some (vr 277), some (vi from_0), some (vi to_0), some (vi k_19)] [] σ_20 0 0 := by
    intro k_19 σ_20 e
    have H := hk_4
    rw [e] at H
    refine z_iconst (M := M_X12_move) dX12_move_42 ?_
    refine z_istore_n (M := M_X12_move) (lv' := [some (vr 277), some (vi from_0), some (vi to_0), some (vi 0)]) dX12_move_43 (Nat.le_of_ble_eq_true rfl) rfl rfl ?_
    obtain ⟨rl_26, hw_23, hk_24⟩ := bd_e H
    have J_53 : ∀ k_43 σ_44, rl_26 = (k_43, σ_44) → YY l E M_X12_move 1 0 0 (pS (none) σ') 108 [some (vr 277), some (vi from_0), some (vi to_0), some (vi k_43)] [] σ_44 0 0 := by
      intro k_43 σ_44 e
      have H := hk_24
      rw [e] at H
      refine z_aload_n (M := M_X12_move) dX12_move_108 rfl ?_
      refine z_getR (M := M_X12_move) (ci := 15) (C := RX12) (T := TX12) (Nf := 135) (ty := tyX12) cl15 dX12_move_109 ly_277 9 (by decide) t_2400 rfl ?_
      refine z_iload_n (M := M_X12_move) dX12_move_112 rfl ?_
      refine z_aload_n (M := M_X12_move) dX12_move_113 rfl ?_
      refine z_getR (M := M_X12_move) (ci := 15) (C := RX12) (T := TX12) (Nf := 135) (ty := tyX12) cl15 dX12_move_114 ly_277 9 (by decide) t_2400 rfl ?_
      refine z_iload_n (M := M_X12_move) dX12_move_117 rfl ?_
      obtain ⟨x_45, x_45_e, hi_46, H⟩ := rd_e H
      refine z_iald (M := M_X12_move) dX12_move_118 ly_280 rfl rfl rfl hi_46 x_45_e ?_
      obtain ⟨σ_47, σ_47_e, hi_48, H⟩ := wa_e H
      refine z_iast (M := M_X12_move) dX12_move_119 ly_280 rfl rfl rfl hi_48 σ_47_e ?_
      refine z_aload_n (M := M_X12_move) dX12_move_120 rfl ?_
      refine z_getR (M := M_X12_move) (ci := 15) (C := RX12) (T := TX12) (Nf := 135) (ty := tyX12) cl15 dX12_move_121 ly_277 11 (by decide) t_2402 rfl ?_
      refine z_iload_n (M := M_X12_move) dX12_move_124 rfl ?_
      refine z_aload_n (M := M_X12_move) dX12_move_125 rfl ?_
      refine z_getR (M := M_X12_move) (ci := 15) (C := RX12) (T := TX12) (Nf := 135) (ty := tyX12) cl15 dX12_move_126 ly_277 11 (by decide) t_2402 rfl ?_
      refine z_iload_n (M := M_X12_move) dX12_move_129 rfl ?_
      obtain ⟨x_49, x_49_e, hi_50, H⟩ := rd_e H
      refine z_iald (M := M_X12_move) dX12_move_130 ly_282 rfl rfl rfl hi_50 x_49_e ?_
      obtain ⟨σ_51, σ_51_e, hi_52, H⟩ := wa_e H
      refine z_iast (M := M_X12_move) dX12_move_131 ly_282 rfl rfl rfl hi_52 σ_51_e ?_
      cases H
      exact z_vret (M := M_X12_move) dX12_move_132 rfl (Nat.le_of_ble_eq_true rfl) (Nat.le_of_ble_eq_true rfl) ⟨rfl, rfl⟩
    refine whl_go hw_23 (fun (k_21, σ_22) => YY l E M_X12_move 1 0 0 (pS (none) σ') 44 [some (vr 277), some (vi from_0), some (vi to_0), some (vi k_21)] [] σ_22 0 0) ?_
    rintro ⟨k_21, σ_22⟩ o_27 H K_28 K_29
    refine z_iload_n (M := M_X12_move) dX12_move_44 rfl ?_
    refine z_aload_n (M := M_X12_move) dX12_move_45 rfl ?_
    refine z_getR (M := M_X12_move) (ci := 15) (C := RX12) (T := TX12) (Nf := 135) (ty := tyX12) cl15 dX12_move_46 ly_277 11 (by decide) t_2402 rfl ?_
    refine z_iload_n (M := M_X12_move) dX12_move_49 rfl ?_
    obtain ⟨x_30, x_30_e, hi_31, H⟩ := rd_e H
    refine z_iald (M := M_X12_move) dX12_move_50 ly_282 rfl rfl rfl hi_31 x_30_e ?_
    rcases if_e H with ⟨h_32, H⟩ | ⟨h_32, H⟩
    · refine z_icmp_ge_f (M := M_X12_move) (tgt := 108) dX12_move_51 (by decide) rfl rfl h_32 ?_
      refine z_aload_n (M := M_X12_move) dX12_move_54 rfl ?_
      refine z_getR (M := M_X12_move) (ci := 15) (C := RX12) (T := TX12) (Nf := 135) (ty := tyX12) cl15 dX12_move_55 ly_277 12 (by decide) t_2403 rfl ?_
      refine z_sipush (M := M_X12_move) dX12_move_58 (by decide +kernel) ?_
      refine z_iload_n (M := M_X12_move) dX12_move_61 rfl ?_
      refine z_imul (M := M_X12_move) dX12_move_62 ?_
      refine z_iload_n (M := M_X12_move) dX12_move_63 rfl ?_
      refine z_iadd (M := M_X12_move) dX12_move_64 ?_
      refine z_aload_n (M := M_X12_move) dX12_move_65 rfl ?_
      refine z_getR (M := M_X12_move) (ci := 15) (C := RX12) (T := TX12) (Nf := 135) (ty := tyX12) cl15 dX12_move_66 ly_277 12 (by decide) t_2403 rfl ?_
      refine z_sipush (M := M_X12_move) dX12_move_69 (by decide +kernel) ?_
      refine z_iload_n (M := M_X12_move) dX12_move_72 rfl ?_
      refine z_imul (M := M_X12_move) dX12_move_73 ?_
      refine z_iload_n (M := M_X12_move) dX12_move_74 rfl ?_
      refine z_iadd (M := M_X12_move) dX12_move_75 ?_
      obtain ⟨x_33, x_33_e, hi_34, H⟩ := rd_e H
      refine z_iald (M := M_X12_move) dX12_move_76 ly_283 rfl rfl rfl hi_34 x_33_e ?_
      obtain ⟨σ_35, σ_35_e, hi_36, H⟩ := wa_e H
      refine z_iast (M := M_X12_move) dX12_move_77 ly_283 rfl rfl rfl hi_36 σ_35_e ?_
      refine z_aload_n (M := M_X12_move) dX12_move_78 rfl ?_
      refine z_getR (M := M_X12_move) (ci := 15) (C := RX12) (T := TX12) (Nf := 135) (ty := tyX12) cl15 dX12_move_79 ly_277 13 (by decide) t_2404 rfl ?_
      refine z_sipush (M := M_X12_move) dX12_move_82 (by decide +kernel) ?_
      refine z_iload_n (M := M_X12_move) dX12_move_85 rfl ?_
      refine z_imul (M := M_X12_move) dX12_move_86 ?_
      refine z_iload_n (M := M_X12_move) dX12_move_87 rfl ?_
      refine z_iadd (M := M_X12_move) dX12_move_88 ?_
      refine z_aload_n (M := M_X12_move) dX12_move_89 rfl ?_
      refine z_getR (M := M_X12_move) (ci := 15) (C := RX12) (T := TX12) (Nf := 135) (ty := tyX12) cl15 dX12_move_90 ly_277 13 (by decide) t_2404 rfl ?_
      refine z_sipush (M := M_X12_move) dX12_move_93 (by decide +kernel) ?_
      refine z_iload_n (M := M_X12_move) dX12_move_96 rfl ?_
      refine z_imul (M := M_X12_move) dX12_move_97 ?_
      refine z_iload_n (M := M_X12_move) dX12_move_98 rfl ?_
      refine z_iadd (M := M_X12_move) dX12_move_99 ?_
      obtain ⟨x_37, x_37_e, hi_38, H⟩ := rd_e H
      refine z_iald (M := M_X12_move) dX12_move_100 ly_284 rfl rfl rfl hi_38 x_37_e ?_
      obtain ⟨σ_39, σ_39_e, hi_40, H⟩ := wa_e H
      refine z_iast (M := M_X12_move) dX12_move_101 ly_284 rfl rfl rfl hi_40 σ_39_e ?_
      refine z_iinc (M := M_X12_move) (lv' := [some (vr 277), some (vi from_0), some (vi to_0), some (vi (k_21 + 1))]) dX12_move_102 rfl (Nat.le_of_ble_eq_true rfl) rfl rfl ?_
      refine z_goto (M := M_X12_move) (tgt := 44) dX12_move_105 (by decide) ?_
      exact K_28 _ (Option.some.inj H).symm
    · refine z_icmp_ge_t (M := M_X12_move) (tgt := 108) dX12_move_51 (by decide) rfl rfl (Int.not_lt.mp h_32) ?_
      exact J_53 _ _ (K_29 _ (Option.some.inj H).symm).symm
  refine whl_go hw_3 (fun (k_1, σ_2) => YY l E M_X12_move 1 0 0 (pS (none) σ') 2 [some (vr 277), some (vi from_0), some (vi to_0), some (vi k_1)] [] σ_2 0 0) ?_
  rintro ⟨k_1, σ_2⟩ o_7 H K_8 K_9
  refine z_iload_n (M := M_X12_move) dX12_move_2 rfl ?_
  refine z_aload_n (M := M_X12_move) dX12_move_3 rfl ?_
  refine z_getR (M := M_X12_move) (ci := 15) (C := RX12) (T := TX12) (Nf := 135) (ty := tyX12) cl15 dX12_move_4 ly_277 9 (by decide) t_2400 rfl ?_
  refine z_iload_n (M := M_X12_move) dX12_move_7 rfl ?_
  obtain ⟨x_10, x_10_e, hi_11, H⟩ := rd_e H
  refine z_iald (M := M_X12_move) dX12_move_8 ly_280 rfl rfl rfl hi_11 x_10_e ?_
  rcases if_e H with ⟨h_12, H⟩ | ⟨h_12, H⟩
  · refine z_icmp_ge_f (M := M_X12_move) (tgt := 42) dX12_move_9 (by decide) rfl rfl h_12 ?_
    refine z_aload_n (M := M_X12_move) dX12_move_12 rfl ?_
    refine z_getR (M := M_X12_move) (ci := 15) (C := RX12) (T := TX12) (Nf := 135) (ty := tyX12) cl15 dX12_move_13 ly_277 10 (by decide) t_2401 rfl ?_
    refine z_sipush (M := M_X12_move) dX12_move_16 (by decide +kernel) ?_
    refine z_iload_n (M := M_X12_move) dX12_move_19 rfl ?_
    refine z_imul (M := M_X12_move) dX12_move_20 ?_
    refine z_iload_n (M := M_X12_move) dX12_move_21 rfl ?_
    refine z_iadd (M := M_X12_move) dX12_move_22 ?_
    refine z_aload_n (M := M_X12_move) dX12_move_23 rfl ?_
    refine z_getR (M := M_X12_move) (ci := 15) (C := RX12) (T := TX12) (Nf := 135) (ty := tyX12) cl15 dX12_move_24 ly_277 10 (by decide) t_2401 rfl ?_
    refine z_sipush (M := M_X12_move) dX12_move_27 (by decide +kernel) ?_
    refine z_iload_n (M := M_X12_move) dX12_move_30 rfl ?_
    refine z_imul (M := M_X12_move) dX12_move_31 ?_
    refine z_iload_n (M := M_X12_move) dX12_move_32 rfl ?_
    refine z_iadd (M := M_X12_move) dX12_move_33 ?_
    obtain ⟨x_13, x_13_e, hi_14, H⟩ := rd_e H
    refine z_iald (M := M_X12_move) dX12_move_34 ly_281 rfl rfl rfl hi_14 x_13_e ?_
    obtain ⟨σ_15, σ_15_e, hi_16, H⟩ := wa_e H
    refine z_iast (M := M_X12_move) dX12_move_35 ly_281 rfl rfl rfl hi_16 σ_15_e ?_
    refine z_iinc (M := M_X12_move) (lv' := [some (vr 277), some (vi from_0), some (vi to_0), some (vi (k_1 + 1))]) dX12_move_36 rfl (Nat.le_of_ble_eq_true rfl) rfl rfl ?_
    refine z_goto (M := M_X12_move) (tgt := 2) dX12_move_39 (by decide) ?_
    exact K_8 _ (Option.some.inj H).symm
  · refine z_icmp_ge_t (M := M_X12_move) (tgt := 42) dX12_move_9 (by decide) rfl rfl (Int.not_lt.mp h_12) ?_
    exact J_54 _ _ (K_9 _ (Option.some.inj H).symm).symm
theorem c_X12_tell (hl : l.stackTraces = false) {σ : SG} {v_0 : Int} {σ' : SG}  (H : fR_tell σ v_0 = some σ') : en_S l E M_X12_tell 1 0 0 [vr 277, vi v_0] σ (pS (none) σ') := by
  unfold fR_tell at H
  refine z_mk (lv := [some (vr 277), some (vi v_0)]) m_X12_tell rfl hl (Nat.le_of_ble_eq_true rfl) rfl ?_
  refine z_aload_n (M := M_X12_tell) dX12_tell_0 rfl ?_
  refine z_getR (M := M_X12_tell) (ci := 15) (C := RX12) (T := TX12) (Nf := 135) (ty := tyX12) cl15 dX12_tell_1 ly_277 10 (by decide) t_2401 rfl ?_
  refine z_ldc (M := M_X12_tell) (n := 65536) dX12_tell_4 t_2385 (by decide +kernel) ?_
  refine z_aload_n (M := M_X12_tell) dX12_tell_6 rfl ?_
  refine z_getR (M := M_X12_tell) (ci := 15) (C := RX12) (T := TX12) (Nf := 135) (ty := tyX12) cl15 dX12_tell_7 ly_277 9 (by decide) t_2400 rfl ?_
  refine z_bipush (M := M_X12_tell) dX12_tell_10 (by decide +kernel) ?_
  obtain ⟨x_1, x_1_e, hi_2, H⟩ := rd_e H
  refine z_iald (M := M_X12_tell) dX12_tell_12 ly_280 rfl (by decide +kernel) rfl hi_2 x_1_e ?_
  refine z_iadd (M := M_X12_tell) dX12_tell_13 ?_
  refine z_iload_n (M := M_X12_tell) dX12_tell_14 rfl ?_
  obtain ⟨σ_3, σ_3_e, hi_4, H⟩ := wa_e H
  refine z_iast (M := M_X12_tell) dX12_tell_15 ly_281 rfl rfl rfl hi_4 σ_3_e ?_
  refine z_aload_n (M := M_X12_tell) dX12_tell_16 rfl ?_
  refine z_getR (M := M_X12_tell) (ci := 15) (C := RX12) (T := TX12) (Nf := 135) (ty := tyX12) cl15 dX12_tell_17 ly_277 9 (by decide) t_2400 rfl ?_
  refine z_bipush (M := M_X12_tell) dX12_tell_20 (by decide +kernel) ?_
  refine z_dup2 (M := M_X12_tell) dX12_tell_22 rfl rfl ?_
  obtain ⟨x_5, x_5_e, hi_6, H⟩ := rd_e H
  refine z_iald (M := M_X12_tell) dX12_tell_23 ly_280 rfl (by decide +kernel) rfl hi_6 x_5_e ?_
  refine z_iconst (M := M_X12_tell) dX12_tell_24 ?_
  refine z_iadd (M := M_X12_tell) dX12_tell_25 ?_
  obtain ⟨σ_7, σ_7_e, hi_8, H⟩ := wa_e H
  refine z_iast (M := M_X12_tell) dX12_tell_26 ly_280 rfl (by decide +kernel) rfl hi_8 σ_7_e ?_
  cases H
  exact z_vret (M := M_X12_tell) dX12_tell_27 rfl (Nat.le_of_ble_eq_true rfl) (Nat.le_of_ble_eq_true rfl) ⟨rfl, rfl⟩
theorem c_X12_dot (hl : l.stackTraces = false) {σ : SG} {x_0 : Int} {y_0 : Int} {σ' : SG}  (H : fR_dot σ x_0 y_0 = some σ') : en_S l E M_X12_dot 1 0 0 [vr 277, vl x_0, vl y_0] σ (pS (none) σ') := by
  unfold fR_dot at H
  refine z_mk (lv := [some (vr 277), some (vl x_0), none, some (vl y_0), none]) m_X12_dot rfl hl (Nat.le_of_ble_eq_true rfl) rfl ?_
  refine z_aload_n (M := M_X12_dot) dX12_dot_0 rfl ?_
  refine z_getR (M := M_X12_dot) (ci := 15) (C := RX12) (T := TX12) (Nf := 135) (ty := tyX12) cl15 dX12_dot_1 ly_277 12 (by decide) t_2403 rfl ?_
  refine z_ldc (M := M_X12_dot) (n := 65536) dX12_dot_4 t_2385 (by decide +kernel) ?_
  refine z_aload_n (M := M_X12_dot) dX12_dot_6 rfl ?_
  refine z_getR (M := M_X12_dot) (ci := 15) (C := RX12) (T := TX12) (Nf := 135) (ty := tyX12) cl15 dX12_dot_7 ly_277 11 (by decide) t_2402 rfl ?_
  refine z_bipush (M := M_X12_dot) dX12_dot_10 (by decide +kernel) ?_
  obtain ⟨x_1, x_1_e, hi_2, H⟩ := rd_e H
  refine z_iald (M := M_X12_dot) dX12_dot_12 ly_282 rfl (by decide +kernel) rfl hi_2 x_1_e ?_
  refine z_iadd (M := M_X12_dot) dX12_dot_13 ?_
  refine z_lload_n (M := M_X12_dot) dX12_dot_14 rfl ?_
  refine z_l2i (M := M_X12_dot) dX12_dot_15 ?_
  obtain ⟨σ_3, σ_3_e, hi_4, H⟩ := wa_e H
  refine z_iast (M := M_X12_dot) dX12_dot_16 ly_283 rfl rfl rfl hi_4 σ_3_e ?_
  refine z_aload_n (M := M_X12_dot) dX12_dot_17 rfl ?_
  refine z_getR (M := M_X12_dot) (ci := 15) (C := RX12) (T := TX12) (Nf := 135) (ty := tyX12) cl15 dX12_dot_18 ly_277 13 (by decide) t_2404 rfl ?_
  refine z_ldc (M := M_X12_dot) (n := 65536) dX12_dot_21 t_2385 (by decide +kernel) ?_
  refine z_aload_n (M := M_X12_dot) dX12_dot_23 rfl ?_
  refine z_getR (M := M_X12_dot) (ci := 15) (C := RX12) (T := TX12) (Nf := 135) (ty := tyX12) cl15 dX12_dot_24 ly_277 11 (by decide) t_2402 rfl ?_
  refine z_bipush (M := M_X12_dot) dX12_dot_27 (by decide +kernel) ?_
  obtain ⟨x_5, x_5_e, hi_6, H⟩ := rd_e H
  refine z_iald (M := M_X12_dot) dX12_dot_29 ly_282 rfl (by decide +kernel) rfl hi_6 x_5_e ?_
  refine z_iadd (M := M_X12_dot) dX12_dot_30 ?_
  refine z_lload_n (M := M_X12_dot) dX12_dot_31 rfl ?_
  refine z_l2i (M := M_X12_dot) dX12_dot_32 ?_
  obtain ⟨σ_7, σ_7_e, hi_8, H⟩ := wa_e H
  refine z_iast (M := M_X12_dot) dX12_dot_33 ly_284 rfl rfl rfl hi_8 σ_7_e ?_
  refine z_aload_n (M := M_X12_dot) dX12_dot_34 rfl ?_
  refine z_getR (M := M_X12_dot) (ci := 15) (C := RX12) (T := TX12) (Nf := 135) (ty := tyX12) cl15 dX12_dot_35 ly_277 11 (by decide) t_2402 rfl ?_
  refine z_bipush (M := M_X12_dot) dX12_dot_38 (by decide +kernel) ?_
  refine z_dup2 (M := M_X12_dot) dX12_dot_40 rfl rfl ?_
  obtain ⟨x_9, x_9_e, hi_10, H⟩ := rd_e H
  refine z_iald (M := M_X12_dot) dX12_dot_41 ly_282 rfl (by decide +kernel) rfl hi_10 x_9_e ?_
  refine z_iconst (M := M_X12_dot) dX12_dot_42 ?_
  refine z_iadd (M := M_X12_dot) dX12_dot_43 ?_
  obtain ⟨σ_11, σ_11_e, hi_12, H⟩ := wa_e H
  refine z_iast (M := M_X12_dot) dX12_dot_44 ly_282 rfl (by decide +kernel) rfl hi_12 σ_11_e ?_
  cases H
  exact z_vret (M := M_X12_dot) dX12_dot_45 rfl (Nat.le_of_ble_eq_true rfl) (Nat.le_of_ble_eq_true rfl) ⟨rfl, rfl⟩
theorem c_X12_four (hl : l.stackTraces = false) {σ : SG} {v_0 : Int} {σ' : SG}  (H : fR_four σ v_0 = some σ') : en_S l E M_X12_four 1 0 0 [vr 277, vi v_0] σ (pS (none) σ') := by
  unfold fR_four at H
  refine z_mk (lv := [some (vr 277), some (vi v_0), none]) m_X12_four rfl hl (Nat.le_of_ble_eq_true rfl) rfl ?_
  refine z_bipush (M := M_X12_four) dX12_four_0 (by decide +kernel) ?_
  refine z_istore_n (M := M_X12_four) (lv' := [some (vr 277), some (vi v_0), some (vi 24)]) dX12_four_2 (Nat.le_of_ble_eq_true rfl) rfl rfl ?_
  obtain ⟨rl_6, hw_3, hk_4⟩ := bd_e H
  have J_18 : ∀ k_16 σ_17, rl_6 = (k_16, σ_17) → YY l E M_X12_four 1 0 0 (pS (none) σ') 36 [some (vr 277), some (vi v_0), some (vi k_16)] [] σ_17 0 0 := by
    intro k_16 σ_17 e
    have H := hk_4
    rw [e] at H
    cases H
    exact z_vret (M := M_X12_four) dX12_four_36 rfl (Nat.le_of_ble_eq_true rfl) (Nat.le_of_ble_eq_true rfl) ⟨rfl, rfl⟩
  refine whl_go hw_3 (fun (k_1, σ_2) => YY l E M_X12_four 1 0 0 (pS (none) σ') 3 [some (vr 277), some (vi v_0), some (vi k_1)] [] σ_2 0 0) ?_
  rintro ⟨k_1, σ_2⟩ o_7 H K_8 K_9
  refine z_iload_n (M := M_X12_four) dX12_four_3 rfl ?_
  rcases if_e H with ⟨h_10, H⟩ | ⟨h_10, H⟩
  · refine z_if_lt_f (M := M_X12_four) (tgt := 36) dX12_four_4 (by decide) rfl h_10 ?_
    refine z_aload_n (M := M_X12_four) dX12_four_7 rfl ?_
    refine z_getR (M := M_X12_four) (ci := 15) (C := RX12) (T := TX12) (Nf := 135) (ty := tyX12) cl15 dX12_four_8 ly_277 3 (by decide) t_2394 rfl ?_
    refine z_aload_n (M := M_X12_four) dX12_four_11 rfl ?_
    refine z_getI (M := M_X12_four) (ci := 15) (C := RX12) (T := TX12) (Nf := 135) (ty := tyX12) cl15 dX12_four_12 ly_277 4 (by decide) t_2395 rfl rfl ?_
    refine z_iload_n (M := M_X12_four) dX12_four_15 rfl ?_
    refine z_iload_n (M := M_X12_four) dX12_four_16 rfl ?_
    refine z_ishr (M := M_X12_four) dX12_four_17 ?_
    refine z_i2b (M := M_X12_four) dX12_four_18 ?_
    obtain ⟨σ_11, σ_11_e, hi_12, H⟩ := wa_e H
    refine z_bast (M := M_X12_four) dX12_four_19 ly_278 rfl rfl rfl hi_12 σ_11_e ?_
    refine z_aload_n (M := M_X12_four) dX12_four_20 rfl ?_
    refine z_dup (M := M_X12_four) dX12_four_21 rfl ?_
    refine z_getI (M := M_X12_four) (ci := 15) (C := RX12) (T := TX12) (Nf := 135) (ty := tyX12) cl15 dX12_four_22 ly_277 4 (by decide) t_2395 rfl rfl ?_
    refine z_iconst (M := M_X12_four) dX12_four_25 ?_
    refine z_iadd (M := M_X12_four) dX12_four_26 ?_
    obtain ⟨σ_13, σ_13_e, H⟩ := wf_e H
    refine z_putI (M := M_X12_four) (ci := 15) (C := RX12) (T := TX12) (Nf := 135) (ty := tyX12) cl15 dX12_four_27 ly_277 4 (by decide) t_2395 rfl rfl rfl rfl σ_13_e ?_
    refine z_iinc (M := M_X12_four) (lv' := [some (vr 277), some (vi v_0), some (vi (k_1 + (-8)))]) dX12_four_30 rfl (Nat.le_of_ble_eq_true rfl) rfl rfl ?_
    refine z_goto (M := M_X12_four) (tgt := 3) dX12_four_33 (by decide) ?_
    exact K_8 _ (Option.some.inj H).symm
  · refine z_if_lt_t (M := M_X12_four) (tgt := 36) dX12_four_4 (by decide) rfl (Int.not_le.mp h_10) ?_
    exact J_18 _ _ (K_9 _ (Option.some.inj H).symm).symm
theorem c_X12_feed (hl : l.stackTraces = false) {σ : SG} {a_0 : Int} {b_0 : Int} {c_0 : Int} {d_0 : Int} {e_0 : Int} {r : Int} {σ' : SG}  (H : fR_feed σ a_0 b_0 c_0 d_0 e_0 = some (r, σ')) : en_S l E M_X12_feed 2 0 0 [vr 277, vi a_0, vi b_0, vi c_0, vi d_0, vi e_0] σ (pS (some (vi r)) σ') := by
  unfold fR_feed at H
  refine z_mk (lv := [some (vr 277), some (vi a_0), some (vi b_0), some (vi c_0), some (vi d_0), some (vi e_0)]) m_X12_feed rfl hl (Nat.le_of_ble_eq_true rfl) rfl ?_
  refine z_aload_n (M := M_X12_feed) dX12_feed_0 rfl ?_
  refine z_iconst (M := M_X12_feed) dX12_feed_1 ?_
  obtain ⟨σ_1, σ_1_e, H⟩ := wf_e H
  refine z_putI (M := M_X12_feed) (ci := 15) (C := RX12) (T := TX12) (Nf := 135) (ty := tyX12) cl15 dX12_feed_2 ly_277 0 (by decide) t_2391 rfl rfl rfl rfl σ_1_e ?_
  refine z_aload_n (M := M_X12_feed) dX12_feed_5 rfl ?_
  have J_2 : YY l E M_X12_feed 2 0 0 (pS (some (vi r)) σ') 23 [some (vr 277), some (vi a_0), some (vi b_0), some (vi c_0), some (vi d_0), some (vi e_0)] [zv (decide (65536 < (w32 ((σ_1 kR_tapeMany 0) + 20)))), vr 277] σ_1 0 0 := by
    refine z_iconst (M := M_X12_feed) dX12_feed_23 ?_
    obtain ⟨⟨x_5, σ_4⟩, hc_3, H⟩ := bd_e H
    refine z_callV (M := M_X12_feed) (M' := M_X12_fails) (as := [zv (decide (65536 < (w32 ((σ_1 kR_tapeMany 0) + 20)))), vi 1]) (rest := []) rfl rfl dX12_feed_24 m_X12_fails t_2805 t_2807 s_157 (c_X12_fails hl  hc_3) rfl rfl ly_277 rfl (Nat.le_of_ble_eq_true rfl) (Nat.le_of_ble_eq_true rfl) (Nat.le_of_ble_eq_true rfl) (Nat.le_of_ble_eq_true rfl) ?_
    refine z_st (st' := [zv x_5]) rfl ?_
    rcases if_e H with ⟨h_6, H⟩ | ⟨h_6, H⟩
    · refine z_zeq_f (M := M_X12_feed) (tgt := 32) dX12_feed_27 (by decide) h_6 ?_
      refine z_iconst (M := M_X12_feed) dX12_feed_30 ?_
      cases H
      exact z_iret (M := M_X12_feed) dX12_feed_31 rfl (Nat.le_of_ble_eq_true rfl) (Nat.le_of_ble_eq_true rfl) ⟨rfl, rfl⟩
    · refine z_zeq_t (M := M_X12_feed) (tgt := 32) dX12_feed_27 (by decide) h_6 ?_
      refine z_aload_n (M := M_X12_feed) dX12_feed_32 rfl ?_
      refine z_iload_n (M := M_X12_feed) dX12_feed_33 rfl ?_
      obtain ⟨σ_8, hc_7, H⟩ := bd_e H
      refine z_callV (M := M_X12_feed) (M' := M_X12_four) (as := [vi a_0]) (rest := []) rfl rfl dX12_feed_34 m_X12_four t_2809 t_2811 s_158 (c_X12_four hl  hc_7) rfl rfl ly_277 rfl (Nat.le_of_ble_eq_true rfl) (Nat.le_of_ble_eq_true rfl) (Nat.le_of_ble_eq_true rfl) (Nat.le_of_ble_eq_true rfl) ?_
      refine z_st (st' := []) rfl ?_
      refine z_aload_n (M := M_X12_feed) dX12_feed_37 rfl ?_
      refine z_iload_n (M := M_X12_feed) dX12_feed_38 rfl ?_
      obtain ⟨σ_10, hc_9, H⟩ := bd_e H
      refine z_callV (M := M_X12_feed) (M' := M_X12_four) (as := [vi b_0]) (rest := []) rfl rfl dX12_feed_39 m_X12_four t_2809 t_2811 s_158 (c_X12_four hl  hc_9) rfl rfl ly_277 rfl (Nat.le_of_ble_eq_true rfl) (Nat.le_of_ble_eq_true rfl) (Nat.le_of_ble_eq_true rfl) (Nat.le_of_ble_eq_true rfl) ?_
      refine z_st (st' := []) rfl ?_
      refine z_aload_n (M := M_X12_feed) dX12_feed_42 rfl ?_
      refine z_iload_n (M := M_X12_feed) dX12_feed_43 rfl ?_
      obtain ⟨σ_12, hc_11, H⟩ := bd_e H
      refine z_callV (M := M_X12_feed) (M' := M_X12_four) (as := [vi c_0]) (rest := []) rfl rfl dX12_feed_44 m_X12_four t_2809 t_2811 s_158 (c_X12_four hl  hc_11) rfl rfl ly_277 rfl (Nat.le_of_ble_eq_true rfl) (Nat.le_of_ble_eq_true rfl) (Nat.le_of_ble_eq_true rfl) (Nat.le_of_ble_eq_true rfl) ?_
      refine z_st (st' := []) rfl ?_
      refine z_aload_n (M := M_X12_feed) dX12_feed_47 rfl ?_
      refine z_iload (M := M_X12_feed) dX12_feed_48 rfl ?_
      obtain ⟨σ_14, hc_13, H⟩ := bd_e H
      refine z_callV (M := M_X12_feed) (M' := M_X12_four) (as := [vi d_0]) (rest := []) rfl rfl dX12_feed_50 m_X12_four t_2809 t_2811 s_158 (c_X12_four hl  hc_13) rfl rfl ly_277 rfl (Nat.le_of_ble_eq_true rfl) (Nat.le_of_ble_eq_true rfl) (Nat.le_of_ble_eq_true rfl) (Nat.le_of_ble_eq_true rfl) ?_
      refine z_st (st' := []) rfl ?_
      refine z_aload_n (M := M_X12_feed) dX12_feed_53 rfl ?_
      refine z_iload (M := M_X12_feed) dX12_feed_54 rfl ?_
      obtain ⟨σ_16, hc_15, H⟩ := bd_e H
      refine z_callV (M := M_X12_feed) (M' := M_X12_four) (as := [vi e_0]) (rest := []) rfl rfl dX12_feed_56 m_X12_four t_2809 t_2811 s_158 (c_X12_four hl  hc_15) rfl rfl ly_277 rfl (Nat.le_of_ble_eq_true rfl) (Nat.le_of_ble_eq_true rfl) (Nat.le_of_ble_eq_true rfl) (Nat.le_of_ble_eq_true rfl) ?_
      refine z_st (st' := []) rfl ?_
      refine z_aload_n (M := M_X12_feed) dX12_feed_59 rfl ?_
      refine z_getI (M := M_X12_feed) (ci := 15) (C := RX12) (T := TX12) (Nf := 135) (ty := tyX12) cl15 dX12_feed_60 ly_277 4 (by decide) t_2395 rfl rfl ?_
      cases H
      exact z_iret (M := M_X12_feed) dX12_feed_63 rfl (Nat.le_of_ble_eq_true rfl) (Nat.le_of_ble_eq_true rfl) ⟨rfl, rfl⟩
  refine z_aload_n (M := M_X12_feed) dX12_feed_6 rfl ?_
  refine z_getI (M := M_X12_feed) (ci := 15) (C := RX12) (T := TX12) (Nf := 135) (ty := tyX12) cl15 dX12_feed_7 ly_277 4 (by decide) t_2395 rfl rfl ?_
  refine z_bipush (M := M_X12_feed) dX12_feed_10 (by decide +kernel) ?_
  refine z_iadd (M := M_X12_feed) dX12_feed_12 ?_
  refine z_ldc (M := M_X12_feed) (n := 65536) dX12_feed_13 t_2385 (by decide +kernel) ?_
  by_cases h_17 : 65536 < (w32 ((σ_1 kR_tapeMany 0) + 20))
  · refine z_icmp_le_f (M := M_X12_feed) (tgt := 22) dX12_feed_15 (by decide) rfl (by decide +kernel) h_17 ?_
    refine z_iconst (M := M_X12_feed) dX12_feed_18 ?_
    refine z_goto (M := M_X12_feed) (tgt := 23) dX12_feed_19 (by decide) ?_
    exact z_st (by rw [zv_t (p := 65536 < (w32 ((σ_1 kR_tapeMany 0) + 20))) h_17]) J_2
  · refine z_icmp_le_t (M := M_X12_feed) (tgt := 22) dX12_feed_15 (by decide) rfl (by decide +kernel) (Int.not_lt.mp h_17) ?_
    refine z_iconst (M := M_X12_feed) dX12_feed_22 ?_
    exact z_st (by rw [zv_f (p := 65536 < (w32 ((σ_1 kR_tapeMany 0) + 20))) h_17]) J_2
theorem c_X12_end (hl : l.stackTraces = false) {σ : SG} {n_0 : Int} {r : Int} {σ' : SG}  (H : fR_end σ n_0 = some (r, σ')) : en_S l E M_X12_end 2 0 0 [vr 277, vi n_0] σ (pS (some (vi r)) σ') := by
  unfold fR_end at H
  refine z_mk (lv := [some (vr 277), some (vi n_0)]) m_X12_end rfl hl (Nat.le_of_ble_eq_true rfl) rfl ?_
  refine z_aload_n (M := M_X12_end) dX12_end_0 rfl ?_
  refine z_iconst (M := M_X12_end) dX12_end_1 ?_
  obtain ⟨σ_1, σ_1_e, H⟩ := wf_e H
  refine z_putI (M := M_X12_end) (ci := 15) (C := RX12) (T := TX12) (Nf := 135) (ty := tyX12) cl15 dX12_end_2 ly_277 0 (by decide) t_2391 rfl rfl rfl rfl σ_1_e ?_
  refine z_aload_n (M := M_X12_end) dX12_end_5 rfl ?_
  have J_17 : YY l E M_X12_end 2 0 0 (pS (some (vi r)) σ') 23 [some (vr 277), some (vi n_0)] [zv (decide (¬ ((fR_in (w32 n_0) 0 20) = true))), vr 277] σ_1 0 0 := by
    refine z_iconst (M := M_X12_end) dX12_end_23 ?_
    obtain ⟨⟨x_20, σ_19⟩, hc_18, H⟩ := bd_e H
    refine z_callV (M := M_X12_end) (M' := M_X12_fails) (as := [zv (decide (¬ ((fR_in (w32 n_0) 0 20) = true))), vi 1]) (rest := []) rfl rfl dX12_end_24 m_X12_fails t_2805 t_2807 s_157 (c_X12_fails hl  hc_18) rfl rfl ly_277 rfl (Nat.le_of_ble_eq_true rfl) (Nat.le_of_ble_eq_true rfl) (Nat.le_of_ble_eq_true rfl) (Nat.le_of_ble_eq_true rfl) ?_
    refine z_st (st' := [zv x_20]) rfl ?_
    rcases if_e H with ⟨h_21, H⟩ | ⟨h_21, H⟩
    · refine z_zne_t (M := M_X12_end) (tgt := 52) dX12_end_27 (by decide) h_21 ?_
      refine z_iconst (M := M_X12_end) dX12_end_52 ?_
      cases H
      exact z_iret (M := M_X12_end) dX12_end_53 rfl (Nat.le_of_ble_eq_true rfl) (Nat.le_of_ble_eq_true rfl) ⟨rfl, rfl⟩
    · refine z_zne_f (M := M_X12_end) (tgt := 52) dX12_end_27 (by decide) h_21 ?_
      refine z_aload_n (M := M_X12_end) dX12_end_30 rfl ?_
      have J_22 : YY l E M_X12_end 2 0 0 (pS (some (vi r)) σ') 45 [some (vr 277), some (vi n_0)] [zv (decide ((w32 (σ_19 kR_tapeMany 0)) < 20)), vr 277] σ_19 0 0 := by
        refine z_iconst (M := M_X12_end) dX12_end_45 ?_
        obtain ⟨⟨x_25, σ_24⟩, hc_23, H⟩ := bd_e H
        refine z_callV (M := M_X12_end) (M' := M_X12_fails) (as := [zv (decide ((w32 (σ_19 kR_tapeMany 0)) < 20)), vi 2]) (rest := []) rfl rfl dX12_end_46 m_X12_fails t_2805 t_2807 s_157 (c_X12_fails hl  hc_23) rfl rfl ly_277 rfl (Nat.le_of_ble_eq_true rfl) (Nat.le_of_ble_eq_true rfl) (Nat.le_of_ble_eq_true rfl) (Nat.le_of_ble_eq_true rfl) ?_
        refine z_st (st' := [zv x_25]) rfl ?_
        rcases if_e H with ⟨h_26, H⟩ | ⟨h_26, H⟩
        · refine z_zeq_f (M := M_X12_end) (tgt := 54) dX12_end_49 (by decide) h_26 ?_
          refine z_iconst (M := M_X12_end) dX12_end_52 ?_
          cases H
          exact z_iret (M := M_X12_end) dX12_end_53 rfl (Nat.le_of_ble_eq_true rfl) (Nat.le_of_ble_eq_true rfl) ⟨rfl, rfl⟩
        · refine z_zeq_t (M := M_X12_end) (tgt := 54) dX12_end_49 (by decide) h_26 ?_
          refine z_aload_n (M := M_X12_end) dX12_end_54 rfl ?_
          refine z_dup (M := M_X12_end) dX12_end_55 rfl ?_
          refine z_getI (M := M_X12_end) (ci := 15) (C := RX12) (T := TX12) (Nf := 135) (ty := tyX12) cl15 dX12_end_56 ly_277 4 (by decide) t_2395 rfl rfl ?_
          refine z_bipush (M := M_X12_end) dX12_end_59 (by decide +kernel) ?_
          refine z_iload_n (M := M_X12_end) dX12_end_61 rfl ?_
          refine z_isub (M := M_X12_end) dX12_end_62 ?_
          refine z_isub (M := M_X12_end) dX12_end_63 ?_
          obtain ⟨σ_27, σ_27_e, H⟩ := wf_e H
          refine z_putI (M := M_X12_end) (ci := 15) (C := RX12) (T := TX12) (Nf := 135) (ty := tyX12) cl15 dX12_end_64 ly_277 4 (by decide) t_2395 rfl rfl rfl rfl σ_27_e ?_
          refine z_aload_n (M := M_X12_end) dX12_end_67 rfl ?_
          refine z_getI (M := M_X12_end) (ci := 15) (C := RX12) (T := TX12) (Nf := 135) (ty := tyX12) cl15 dX12_end_68 ly_277 4 (by decide) t_2395 rfl rfl ?_
          cases H
          exact z_iret (M := M_X12_end) dX12_end_71 rfl (Nat.le_of_ble_eq_true rfl) (Nat.le_of_ble_eq_true rfl) ⟨rfl, rfl⟩
      refine z_aload_n (M := M_X12_end) dX12_end_31 rfl ?_
      refine z_getI (M := M_X12_end) (ci := 15) (C := RX12) (T := TX12) (Nf := 135) (ty := tyX12) cl15 dX12_end_32 ly_277 4 (by decide) t_2395 rfl rfl ?_
      refine z_bipush (M := M_X12_end) dX12_end_35 (by decide +kernel) ?_
      by_cases h_28 : (w32 (σ_19 kR_tapeMany 0)) < 20
      · refine z_icmp_ge_f (M := M_X12_end) (tgt := 44) dX12_end_37 (by decide) rfl (by decide +kernel) h_28 ?_
        refine z_iconst (M := M_X12_end) dX12_end_40 ?_
        refine z_goto (M := M_X12_end) (tgt := 45) dX12_end_41 (by decide) ?_
        exact z_st (by rw [zv_t (p := (w32 (σ_19 kR_tapeMany 0)) < 20) h_28]) J_22
      · refine z_icmp_ge_t (M := M_X12_end) (tgt := 44) dX12_end_37 (by decide) rfl (by decide +kernel) (Int.not_lt.mp h_28) ?_
        refine z_iconst (M := M_X12_end) dX12_end_44 ?_
        exact z_st (by rw [zv_f (p := (w32 (σ_19 kR_tapeMany 0)) < 20) h_28]) J_22
  refine z_iload_n (M := M_X12_end) dX12_end_6 rfl ?_
  refine z_i2l (M := M_X12_end) dX12_end_7 ?_
  refine z_lconst (M := M_X12_end) (m := 0) dX12_end_8 (by decide +kernel) ?_
  refine z_ldc2 (M := M_X12_end) (n := 20) dX12_end_9 t_2817 (by decide +kernel) ?_
  refine z_callS (M := M_X12_end) (M' := M_X12_in) (as := [vl (w32 n_0), vl 0, vl 20]) (rest := [vr 277]) rfl rfl dX12_end_12 m_X12_in t_2818 t_2819 (c_X12_in hl  rfl) rfl rfl (Nat.le_of_ble_eq_true rfl) (Nat.le_of_ble_eq_true rfl) (Nat.le_of_ble_eq_true rfl) (Nat.le_of_ble_eq_true rfl) ?_
  refine z_st (st' := [zv (fR_in (w32 n_0) 0 20), vr 277]) rfl ?_
  by_cases h_29 : (fR_in (w32 n_0) 0 20) = true
  · refine z_zne_t (M := M_X12_end) (tgt := 22) dX12_end_15 (by decide) h_29 ?_
    refine z_iconst (M := M_X12_end) dX12_end_22 ?_
    exact z_st (by rw [zv_f (p := ¬ ((fR_in (w32 n_0) 0 20) = true)) (not_not_intro h_29)]) J_17
  · refine z_zne_f (M := M_X12_end) (tgt := 22) dX12_end_15 (by decide) h_29 ?_
    refine z_iconst (M := M_X12_end) dX12_end_18 ?_
    refine z_goto (M := M_X12_end) (tgt := 23) dX12_end_19 (by decide) ?_
    exact z_st (by rw [zv_t (p := ¬ ((fR_in (w32 n_0) 0 20) = true)) h_29]) J_17
theorem c_X12_again (hl : l.stackTraces = false) {σ : SG} {r : Int} {σ' : SG}  (H : fR_again σ = some (r, σ')) : en_S l E M_X12_again 1 0 0 [vr 277] σ (pS (some (vi r)) σ') := by
  unfold fR_again at H
  refine z_mk (lv := [some (vr 277), none]) m_X12_again rfl hl (Nat.le_of_ble_eq_true rfl) rfl ?_
  refine z_aload_n (M := M_X12_again) dX12_again_0 rfl ?_
  refine z_iconst (M := M_X12_again) dX12_again_1 ?_
  obtain ⟨σ_1, σ_1_e, H⟩ := wf_e H
  refine z_putI (M := M_X12_again) (ci := 15) (C := RX12) (T := TX12) (Nf := 135) (ty := tyX12) cl15 dX12_again_2 ly_277 0 (by decide) t_2391 rfl rfl rfl rfl σ_1_e ?_
  refine z_aload_n (M := M_X12_again) dX12_again_5 rfl ?_
  have J_2 : YY l E M_X12_again 1 0 0 (pS (some (vi r)) σ') 24 [some (vr 277), none] [vi (if (w32 (σ_1 kR_resultMany 0)) < 65536 then (σ_1 kR_resultMany 0) else 65536), vr 277] σ_1 0 0 := by
    obtain ⟨σ_3, σ_3_e, H⟩ := wf_e H
    refine z_putI (M := M_X12_again) (ci := 15) (C := RX12) (T := TX12) (Nf := 135) (ty := tyX12) cl15 dX12_again_24 ly_277 4 (by decide) t_2395 rfl rfl rfl rfl σ_3_e ?_
    refine z_iconst (M := M_X12_again) dX12_again_27 ?_
    refine z_istore_n (M := M_X12_again) (lv' := [some (vr 277), some (vi 0)]) dX12_again_28 (Nat.le_of_ble_eq_true rfl) rfl rfl ?_
    obtain ⟨rl_9, hw_6, hk_7⟩ := bd_e H
    have J_22 : ∀ k_20 σ_21, rl_9 = (k_20, σ_21) → YY l E M_X12_again 1 0 0 (pS (some (vi r)) σ') 55 [some (vr 277), some (vi k_20)] [] σ_21 0 0 := by
      intro k_20 σ_21 e
      have H := hk_7
      rw [e] at H
      refine z_aload_n (M := M_X12_again) dX12_again_55 rfl ?_
      refine z_getI (M := M_X12_again) (ci := 15) (C := RX12) (T := TX12) (Nf := 135) (ty := tyX12) cl15 dX12_again_56 ly_277 4 (by decide) t_2395 rfl rfl ?_
      cases H
      exact z_iret (M := M_X12_again) dX12_again_59 rfl (Nat.le_of_ble_eq_true rfl) (Nat.le_of_ble_eq_true rfl) ⟨rfl, rfl⟩
    refine whl_go hw_6 (fun (k_4, σ_5) => YY l E M_X12_again 1 0 0 (pS (some (vi r)) σ') 29 [some (vr 277), some (vi k_4)] [] σ_5 0 0) ?_
    rintro ⟨k_4, σ_5⟩ o_10 H K_11 K_12
    refine z_iload_n (M := M_X12_again) dX12_again_29 rfl ?_
    refine z_aload_n (M := M_X12_again) dX12_again_30 rfl ?_
    refine z_getI (M := M_X12_again) (ci := 15) (C := RX12) (T := TX12) (Nf := 135) (ty := tyX12) cl15 dX12_again_31 ly_277 4 (by decide) t_2395 rfl rfl ?_
    rcases if_e H with ⟨h_13, H⟩ | ⟨h_13, H⟩
    · refine z_icmp_ge_f (M := M_X12_again) (tgt := 55) dX12_again_34 (by decide) rfl rfl h_13 ?_
      refine z_aload_n (M := M_X12_again) dX12_again_37 rfl ?_
      refine z_getR (M := M_X12_again) (ci := 15) (C := RX12) (T := TX12) (Nf := 135) (ty := tyX12) cl15 dX12_again_38 ly_277 3 (by decide) t_2394 rfl ?_
      refine z_iload_n (M := M_X12_again) dX12_again_41 rfl ?_
      refine z_aload_n (M := M_X12_again) dX12_again_42 rfl ?_
      refine z_getR (M := M_X12_again) (ci := 15) (C := RX12) (T := TX12) (Nf := 135) (ty := tyX12) cl15 dX12_again_43 ly_277 5 (by decide) t_2396 rfl ?_
      refine z_iload_n (M := M_X12_again) dX12_again_46 rfl ?_
      obtain ⟨x_14, x_14_e, hi_15, H⟩ := rd_e H
      refine z_bald (M := M_X12_again) dX12_again_47 ly_279 rfl rfl rfl hi_15 x_14_e ?_
      obtain ⟨σ_16, σ_16_e, hi_17, H⟩ := wa_e H
      refine z_bast (M := M_X12_again) dX12_again_48 ly_278 rfl rfl rfl hi_17 σ_16_e ?_
      refine z_iinc (M := M_X12_again) (lv' := [some (vr 277), some (vi (k_4 + 1))]) dX12_again_49 rfl (Nat.le_of_ble_eq_true rfl) rfl rfl ?_
      refine z_goto (M := M_X12_again) (tgt := 29) dX12_again_52 (by decide) ?_
      exact K_11 _ (Option.some.inj H).symm
    · refine z_icmp_ge_t (M := M_X12_again) (tgt := 55) dX12_again_34 (by decide) rfl rfl (Int.not_lt.mp h_13) ?_
      exact J_22 _ _ (K_12 _ (Option.some.inj H).symm).symm
  refine z_aload_n (M := M_X12_again) dX12_again_6 rfl ?_
  refine z_getI (M := M_X12_again) (ci := 15) (C := RX12) (T := TX12) (Nf := 135) (ty := tyX12) cl15 dX12_again_7 ly_277 6 (by decide) t_2397 rfl rfl ?_
  refine z_ldc (M := M_X12_again) (n := 65536) dX12_again_10 t_2385 (by decide +kernel) ?_
  by_cases h_23 : (w32 (σ_1 kR_resultMany 0)) < 65536
  · refine z_icmp_ge_f (M := M_X12_again) (tgt := 22) dX12_again_12 (by decide) rfl (by decide +kernel) h_23 ?_
    refine z_aload_n (M := M_X12_again) dX12_again_15 rfl ?_
    refine z_getI (M := M_X12_again) (ci := 15) (C := RX12) (T := TX12) (Nf := 135) (ty := tyX12) cl15 dX12_again_16 ly_277 6 (by decide) t_2397 rfl rfl ?_
    refine z_goto (M := M_X12_again) (tgt := 24) dX12_again_19 (by decide) ?_
    exact z_st (by rw [if_pos (c := (w32 (σ_1 kR_resultMany 0)) < 65536) h_23]) J_2
  · refine z_icmp_ge_t (M := M_X12_again) (tgt := 22) dX12_again_12 (by decide) rfl (by decide +kernel) (Int.not_lt.mp h_23) ?_
    refine z_ldc (M := M_X12_again) (n := 65536) dX12_again_22 t_2385 (by decide +kernel) ?_
    exact z_st (by rw [if_neg (c := (w32 (σ_1 kR_resultMany 0)) < 65536) h_23]) J_2
theorem c_X12_fault (hl : l.stackTraces = false) {σ : SG} {what_0 : Int} {r : Int} {σ' : SG}  (H : fR_fault σ what_0 = some (r, σ')) : en_S l E M_X12_fault 2 0 0 [vr 277, vi what_0] σ (pS (some (vi r)) σ') := by
  unfold fR_fault at H
  refine z_mk (lv := [some (vr 277), some (vi what_0)]) m_X12_fault rfl hl (Nat.le_of_ble_eq_true rfl) rfl ?_
  refine z_aload_n (M := M_X12_fault) dX12_fault_0 rfl ?_
  refine z_iconst (M := M_X12_fault) dX12_fault_1 ?_
  obtain ⟨σ_1, σ_1_e, H⟩ := wf_e H
  refine z_putI (M := M_X12_fault) (ci := 15) (C := RX12) (T := TX12) (Nf := 135) (ty := tyX12) cl15 dX12_fault_2 ly_277 0 (by decide) t_2391 rfl rfl rfl rfl σ_1_e ?_
  refine z_aload_n (M := M_X12_fault) dX12_fault_5 rfl ?_
  have J_2 : YY l E M_X12_fault 2 0 0 (pS (some (vi r)) σ') 21 [some (vr 277), some (vi what_0)] [zv (decide (¬ ((fR_in (w32 what_0) 0 1) = true))), vr 277] σ_1 0 0 := by
    refine z_iconst (M := M_X12_fault) dX12_fault_21 ?_
    obtain ⟨⟨x_5, σ_4⟩, hc_3, H⟩ := bd_e H
    refine z_callV (M := M_X12_fault) (M' := M_X12_fails) (as := [zv (decide (¬ ((fR_in (w32 what_0) 0 1) = true))), vi 1]) (rest := []) rfl rfl dX12_fault_22 m_X12_fails t_2805 t_2807 s_157 (c_X12_fails hl  hc_3) rfl rfl ly_277 rfl (Nat.le_of_ble_eq_true rfl) (Nat.le_of_ble_eq_true rfl) (Nat.le_of_ble_eq_true rfl) (Nat.le_of_ble_eq_true rfl) ?_
    refine z_st (st' := [zv x_5]) rfl ?_
    rcases if_e H with ⟨h_6, H⟩ | ⟨h_6, H⟩
    · refine z_zeq_f (M := M_X12_fault) (tgt := 30) dX12_fault_25 (by decide) h_6 ?_
      refine z_iconst (M := M_X12_fault) dX12_fault_28 ?_
      cases H
      exact z_iret (M := M_X12_fault) dX12_fault_29 rfl (Nat.le_of_ble_eq_true rfl) (Nat.le_of_ble_eq_true rfl) ⟨rfl, rfl⟩
    · refine z_zeq_t (M := M_X12_fault) (tgt := 30) dX12_fault_25 (by decide) h_6 ?_
      have J_7 : YY l E M_X12_fault 2 0 0 (pS (some (vi r)) σ') 45 [some (vr 277), some (vi what_0)] [vi (if (w32 what_0) = 0 then (σ_4 kR_faultKind 0) else (σ_4 kR_faultPlace 0))] σ_4 0 0 := by
        cases H
        exact z_iret (M := M_X12_fault) dX12_fault_45 rfl (Nat.le_of_ble_eq_true rfl) (Nat.le_of_ble_eq_true rfl) ⟨rfl, rfl⟩
      refine z_iload_n (M := M_X12_fault) dX12_fault_30 rfl ?_
      by_cases h_8 : (w32 what_0) = 0
      · refine z_if_ne_f (M := M_X12_fault) (tgt := 41) dX12_fault_31 (by decide) rfl h_8 ?_
        refine z_aload_n (M := M_X12_fault) dX12_fault_34 rfl ?_
        refine z_getI (M := M_X12_fault) (ci := 15) (C := RX12) (T := TX12) (Nf := 135) (ty := tyX12) cl15 dX12_fault_35 ly_277 7 (by decide) t_2398 rfl rfl ?_
        refine z_goto (M := M_X12_fault) (tgt := 45) dX12_fault_38 (by decide) ?_
        exact z_st (by rw [if_pos (c := (w32 what_0) = 0) h_8]) J_7
      · refine z_if_ne_t (M := M_X12_fault) (tgt := 41) dX12_fault_31 (by decide) rfl h_8 ?_
        refine z_aload_n (M := M_X12_fault) dX12_fault_41 rfl ?_
        refine z_getI (M := M_X12_fault) (ci := 15) (C := RX12) (T := TX12) (Nf := 135) (ty := tyX12) cl15 dX12_fault_42 ly_277 8 (by decide) t_2399 rfl rfl ?_
        exact z_st (by rw [if_neg (c := (w32 what_0) = 0) h_8]) J_7
  refine z_iload_n (M := M_X12_fault) dX12_fault_6 rfl ?_
  refine z_i2l (M := M_X12_fault) dX12_fault_7 ?_
  refine z_lconst (M := M_X12_fault) (m := 0) dX12_fault_8 (by decide +kernel) ?_
  refine z_lconst (M := M_X12_fault) (m := 1) dX12_fault_9 (by decide +kernel) ?_
  refine z_callS (M := M_X12_fault) (M' := M_X12_in) (as := [vl (w32 what_0), vl 0, vl 1]) (rest := [vr 277]) rfl rfl dX12_fault_10 m_X12_in t_2818 t_2819 (c_X12_in hl  rfl) rfl rfl (Nat.le_of_ble_eq_true rfl) (Nat.le_of_ble_eq_true rfl) (Nat.le_of_ble_eq_true rfl) (Nat.le_of_ble_eq_true rfl) ?_
  refine z_st (st' := [zv (fR_in (w32 what_0) 0 1), vr 277]) rfl ?_
  by_cases h_9 : (fR_in (w32 what_0) 0 1) = true
  · refine z_zne_t (M := M_X12_fault) (tgt := 20) dX12_fault_13 (by decide) h_9 ?_
    refine z_iconst (M := M_X12_fault) dX12_fault_20 ?_
    exact z_st (by rw [zv_f (p := ¬ ((fR_in (w32 what_0) 0 1) = true)) (not_not_intro h_9)]) J_2
  · refine z_zne_f (M := M_X12_fault) (tgt := 20) dX12_fault_13 (by decide) h_9 ?_
    refine z_iconst (M := M_X12_fault) dX12_fault_16 ?_
    refine z_goto (M := M_X12_fault) (tgt := 21) dX12_fault_17 (by decide) ?_
    exact z_st (by rw [zv_t (p := ¬ ((fR_in (w32 what_0) 0 1) = true)) h_9]) J_2
theorem c_X12_byteAt (hl : l.stackTraces = false) {σ : SG} {i_0 : Int} {r : Int} {σ' : SG}  (H : fR_byteAt σ i_0 = some (r, σ')) : en_S l E M_X12_byteAt 2 0 0 [vr 277, vi i_0] σ (pS (some (vi r)) σ') := by
  unfold fR_byteAt at H
  refine z_mk (lv := [some (vr 277), some (vi i_0)]) m_X12_byteAt rfl hl (Nat.le_of_ble_eq_true rfl) rfl ?_
  refine z_aload_n (M := M_X12_byteAt) dX12_byteAt_0 rfl ?_
  refine z_iconst (M := M_X12_byteAt) dX12_byteAt_1 ?_
  obtain ⟨σ_1, σ_1_e, H⟩ := wf_e H
  refine z_putI (M := M_X12_byteAt) (ci := 15) (C := RX12) (T := TX12) (Nf := 135) (ty := tyX12) cl15 dX12_byteAt_2 ly_277 0 (by decide) t_2391 rfl rfl rfl rfl σ_1_e ?_
  refine z_aload_n (M := M_X12_byteAt) dX12_byteAt_5 rfl ?_
  have J_2 : YY l E M_X12_byteAt 2 0 0 (pS (some (vi r)) σ') 27 [some (vr 277), some (vi i_0)] [zv (decide (¬ ((fR_in (w32 i_0) 0 (w32 ((σ_1 kR_resultMany 0) - 1))) = true))), vr 277] σ_1 0 0 := by
    refine z_iconst (M := M_X12_byteAt) dX12_byteAt_27 ?_
    obtain ⟨⟨x_5, σ_4⟩, hc_3, H⟩ := bd_e H
    refine z_callV (M := M_X12_byteAt) (M' := M_X12_fails) (as := [zv (decide (¬ ((fR_in (w32 i_0) 0 (w32 ((σ_1 kR_resultMany 0) - 1))) = true))), vi 1]) (rest := []) rfl rfl dX12_byteAt_28 m_X12_fails t_2805 t_2807 s_157 (c_X12_fails hl  hc_3) rfl rfl ly_277 rfl (Nat.le_of_ble_eq_true rfl) (Nat.le_of_ble_eq_true rfl) (Nat.le_of_ble_eq_true rfl) (Nat.le_of_ble_eq_true rfl) ?_
    refine z_st (st' := [zv x_5]) rfl ?_
    rcases if_e H with ⟨h_6, H⟩ | ⟨h_6, H⟩
    · refine z_zeq_f (M := M_X12_byteAt) (tgt := 36) dX12_byteAt_31 (by decide) h_6 ?_
      refine z_iconst (M := M_X12_byteAt) dX12_byteAt_34 ?_
      cases H
      exact z_iret (M := M_X12_byteAt) dX12_byteAt_35 rfl (Nat.le_of_ble_eq_true rfl) (Nat.le_of_ble_eq_true rfl) ⟨rfl, rfl⟩
    · refine z_zeq_t (M := M_X12_byteAt) (tgt := 36) dX12_byteAt_31 (by decide) h_6 ?_
      refine z_aload_n (M := M_X12_byteAt) dX12_byteAt_36 rfl ?_
      refine z_getR (M := M_X12_byteAt) (ci := 15) (C := RX12) (T := TX12) (Nf := 135) (ty := tyX12) cl15 dX12_byteAt_37 ly_277 5 (by decide) t_2396 rfl ?_
      refine z_iload_n (M := M_X12_byteAt) dX12_byteAt_40 rfl ?_
      obtain ⟨x_7, x_7_e, hi_8, H⟩ := rd_e H
      refine z_bald (M := M_X12_byteAt) dX12_byteAt_41 ly_279 rfl rfl rfl hi_8 x_7_e ?_
      refine z_sipush (M := M_X12_byteAt) dX12_byteAt_42 (by decide +kernel) ?_
      refine z_iand (M := M_X12_byteAt) dX12_byteAt_45 ?_
      cases H
      exact z_iret (M := M_X12_byteAt) dX12_byteAt_46 rfl (Nat.le_of_ble_eq_true rfl) (Nat.le_of_ble_eq_true rfl) ⟨rfl, rfl⟩
  refine z_iload_n (M := M_X12_byteAt) dX12_byteAt_6 rfl ?_
  refine z_i2l (M := M_X12_byteAt) dX12_byteAt_7 ?_
  refine z_lconst (M := M_X12_byteAt) (m := 0) dX12_byteAt_8 (by decide +kernel) ?_
  refine z_aload_n (M := M_X12_byteAt) dX12_byteAt_9 rfl ?_
  refine z_getI (M := M_X12_byteAt) (ci := 15) (C := RX12) (T := TX12) (Nf := 135) (ty := tyX12) cl15 dX12_byteAt_10 ly_277 6 (by decide) t_2397 rfl rfl ?_
  refine z_iconst (M := M_X12_byteAt) dX12_byteAt_13 ?_
  refine z_isub (M := M_X12_byteAt) dX12_byteAt_14 ?_
  refine z_i2l (M := M_X12_byteAt) dX12_byteAt_15 ?_
  refine z_callS (M := M_X12_byteAt) (M' := M_X12_in) (as := [vl (w32 i_0), vl 0, vl (w32 ((σ_1 kR_resultMany 0) - 1))]) (rest := [vr 277]) rfl rfl dX12_byteAt_16 m_X12_in t_2818 t_2819 (c_X12_in hl  rfl) rfl rfl (Nat.le_of_ble_eq_true rfl) (Nat.le_of_ble_eq_true rfl) (Nat.le_of_ble_eq_true rfl) (Nat.le_of_ble_eq_true rfl) ?_
  refine z_st (st' := [zv (fR_in (w32 i_0) 0 (w32 ((σ_1 kR_resultMany 0) - 1))), vr 277]) rfl ?_
  by_cases h_9 : (fR_in (w32 i_0) 0 (w32 ((σ_1 kR_resultMany 0) - 1))) = true
  · refine z_zne_t (M := M_X12_byteAt) (tgt := 26) dX12_byteAt_19 (by decide) h_9 ?_
    refine z_iconst (M := M_X12_byteAt) dX12_byteAt_26 ?_
    exact z_st (by rw [zv_f (p := ¬ ((fR_in (w32 i_0) 0 (w32 ((σ_1 kR_resultMany 0) - 1))) = true)) (not_not_intro h_9)]) J_2
  · refine z_zne_f (M := M_X12_byteAt) (tgt := 26) dX12_byteAt_19 (by decide) h_9 ?_
    refine z_iconst (M := M_X12_byteAt) dX12_byteAt_22 ?_
    refine z_goto (M := M_X12_byteAt) (tgt := 27) dX12_byteAt_23 (by decide) ?_
    exact z_st (by rw [zv_t (p := ¬ ((fR_in (w32 i_0) 0 (w32 ((σ_1 kR_resultMany 0) - 1))) = true)) h_9]) J_2
theorem c_X12_wrong (hl : l.stackTraces = false) {σ : SG} {kind_0 : Int} {where_0 : Int} {r : Bool} {σ' : SG}  (H : fR_wrong σ kind_0 where_0 = some (r, σ')) : en_S l E M_X12_wrong 1 0 0 [vr 277, vi kind_0, vi where_0] σ (pS (some (zv r)) σ') := by
  unfold fR_wrong at H
  refine z_mk (lv := [some (vr 277), some (vi kind_0), some (vi where_0)]) m_X12_wrong rfl hl (Nat.le_of_ble_eq_true rfl) rfl ?_
  refine z_aload_n (M := M_X12_wrong) dX12_wrong_0 rfl ?_
  refine z_iload_n (M := M_X12_wrong) dX12_wrong_1 rfl ?_
  obtain ⟨σ_1, σ_1_e, H⟩ := wf_e H
  refine z_putI (M := M_X12_wrong) (ci := 15) (C := RX12) (T := TX12) (Nf := 135) (ty := tyX12) cl15 dX12_wrong_2 ly_277 7 (by decide) t_2398 rfl rfl rfl rfl σ_1_e ?_
  refine z_aload_n (M := M_X12_wrong) dX12_wrong_5 rfl ?_
  refine z_iload_n (M := M_X12_wrong) dX12_wrong_6 rfl ?_
  obtain ⟨σ_2, σ_2_e, H⟩ := wf_e H
  refine z_putI (M := M_X12_wrong) (ci := 15) (C := RX12) (T := TX12) (Nf := 135) (ty := tyX12) cl15 dX12_wrong_7 ly_277 8 (by decide) t_2399 rfl rfl rfl rfl σ_2_e ?_
  refine z_zconst (M := M_X12_wrong) (b := false) dX12_wrong_10 rfl ?_
  cases H
  exact z_zret (M := M_X12_wrong) dX12_wrong_11 rfl (Nat.le_of_ble_eq_true rfl) (Nat.le_of_ble_eq_true rfl) ⟨rfl, rfl⟩
theorem c_X12_here (hl : l.stackTraces = false) {σ : SG} {r : Int}  (H : fR_here σ = some r) : en_S l E M_X12_here 1 0 0 [vr 277] σ (pS (some (vi r)) σ) := by
  unfold fR_here at H
  refine z_mk (lv := [some (vr 277)]) m_X12_here rfl hl (Nat.le_of_ble_eq_true rfl) rfl ?_
  obtain ⟨v_9, he_10, hk_11⟩ := bd_e H
  have J_12 : ∀ x_8, v_9 = x_8 → YY l E M_X12_here 1 0 0 (pS (some (vi r)) σ) 28 [some (vr 277)] [vi x_8] σ 0 0 := by
    intro x_8 e
    have H := hk_11
    rw [e] at H
    cases H
    exact z_iret (M := M_X12_here) dX12_here_28 rfl (Nat.le_of_ble_eq_true rfl) (Nat.le_of_ble_eq_true rfl) ⟨rfl, rfl⟩
  have H := he_10
  refine z_aload_n (M := M_X12_here) dX12_here_0 rfl ?_
  refine z_getI (M := M_X12_here) (ci := 15) (C := RX12) (T := TX12) (Nf := 135) (ty := tyX12) cl15 dX12_here_1 ly_277 17 (by decide) t_2408 rfl rfl ?_
  refine z_aload_n (M := M_X12_here) dX12_here_4 rfl ?_
  refine z_getI (M := M_X12_here) (ci := 15) (C := RX12) (T := TX12) (Nf := 135) (ty := tyX12) cl15 dX12_here_5 ly_277 18 (by decide) t_2409 rfl rfl ?_
  rcases if_e H with ⟨h_3, H⟩ | ⟨h_3, H⟩
  · refine z_icmp_ge_f (M := M_X12_here) (tgt := 27) dX12_here_8 (by decide) rfl rfl h_3 ?_
    refine z_aload_n (M := M_X12_here) dX12_here_11 rfl ?_
    refine z_getR (M := M_X12_here) (ci := 15) (C := RX12) (T := TX12) (Nf := 135) (ty := tyX12) cl15 dX12_here_12 ly_277 3 (by decide) t_2394 rfl ?_
    refine z_aload_n (M := M_X12_here) dX12_here_15 rfl ?_
    refine z_getI (M := M_X12_here) (ci := 15) (C := RX12) (T := TX12) (Nf := 135) (ty := tyX12) cl15 dX12_here_16 ly_277 17 (by decide) t_2408 rfl rfl ?_
    obtain ⟨x_4, x_4_e, hi_5, H⟩ := rd_e H
    refine z_bald (M := M_X12_here) dX12_here_19 ly_278 rfl rfl rfl hi_5 x_4_e ?_
    refine z_sipush (M := M_X12_here) dX12_here_20 (by decide +kernel) ?_
    refine z_iand (M := M_X12_here) dX12_here_23 ?_
    refine z_goto (M := M_X12_here) (tgt := 28) dX12_here_24 (by decide) ?_
    exact J_12 _ (Option.some.inj H).symm
  · refine z_icmp_ge_t (M := M_X12_here) (tgt := 27) dX12_here_8 (by decide) rfl rfl (Int.not_lt.mp h_3) ?_
    refine z_iconst (M := M_X12_here) dX12_here_27 ?_
    exact J_12 _ (Option.some.inj H).symm
theorem c_X12_isBlank (hl : l.stackTraces = false) {σ : SG} {c_0 : Int} {r : Bool}  (H : fR_isBlank c_0 = r) : en_S l E M_X12_isBlank 1 0 0 [vi c_0] σ (pS (some (zv r)) σ) := by
  unfold fR_isBlank at H
  refine z_mk (lv := [some (vi c_0)]) m_X12_isBlank rfl hl (Nat.le_of_ble_eq_true rfl) rfl ?_
  have J_1 : YY l E M_X12_isBlank 1 0 0 (pS (some (zv r)) σ) 29 [some (vi c_0)] [zv (decide (((((w32 c_0) = 32) ∨ ((w32 c_0) = 9)) ∨ ((w32 c_0) = 10)) ∨ ((w32 c_0) = 13)))] σ 0 0 := by
    cases H
    exact z_zret (M := M_X12_isBlank) dX12_isBlank_29 rfl (Nat.le_of_ble_eq_true rfl) (Nat.le_of_ble_eq_true rfl) ⟨rfl, rfl⟩
  refine z_iload_n (M := M_X12_isBlank) dX12_isBlank_0 rfl ?_
  refine z_bipush (M := M_X12_isBlank) dX12_isBlank_1 (by decide +kernel) ?_
  by_cases h_2 : (w32 c_0) = 32
  · refine z_icmp_eq_t (M := M_X12_isBlank) (tgt := 24) dX12_isBlank_3 (by decide) rfl (by decide +kernel) h_2 ?_
    refine z_iconst (M := M_X12_isBlank) dX12_isBlank_24 ?_
    refine z_goto (M := M_X12_isBlank) (tgt := 29) dX12_isBlank_25 (by decide) ?_
    exact z_st (by rw [zv_t (p := ((((w32 c_0) = 32) ∨ ((w32 c_0) = 9)) ∨ ((w32 c_0) = 10)) ∨ ((w32 c_0) = 13)) (Or.inl (Or.inl (Or.inl h_2)))]) J_1
  · refine z_icmp_eq_f (M := M_X12_isBlank) (tgt := 24) dX12_isBlank_3 (by decide) rfl (by decide +kernel) h_2 ?_
    refine z_iload_n (M := M_X12_isBlank) dX12_isBlank_6 rfl ?_
    refine z_bipush (M := M_X12_isBlank) dX12_isBlank_7 (by decide +kernel) ?_
    by_cases h_3 : (w32 c_0) = 9
    · refine z_icmp_eq_t (M := M_X12_isBlank) (tgt := 24) dX12_isBlank_9 (by decide) rfl (by decide +kernel) h_3 ?_
      refine z_iconst (M := M_X12_isBlank) dX12_isBlank_24 ?_
      refine z_goto (M := M_X12_isBlank) (tgt := 29) dX12_isBlank_25 (by decide) ?_
      exact z_st (by rw [zv_t (p := ((((w32 c_0) = 32) ∨ ((w32 c_0) = 9)) ∨ ((w32 c_0) = 10)) ∨ ((w32 c_0) = 13)) (Or.inl (Or.inl (Or.inr h_3)))]) J_1
    · refine z_icmp_eq_f (M := M_X12_isBlank) (tgt := 24) dX12_isBlank_9 (by decide) rfl (by decide +kernel) h_3 ?_
      refine z_iload_n (M := M_X12_isBlank) dX12_isBlank_12 rfl ?_
      refine z_bipush (M := M_X12_isBlank) dX12_isBlank_13 (by decide +kernel) ?_
      by_cases h_4 : (w32 c_0) = 10
      · refine z_icmp_eq_t (M := M_X12_isBlank) (tgt := 24) dX12_isBlank_15 (by decide) rfl (by decide +kernel) h_4 ?_
        refine z_iconst (M := M_X12_isBlank) dX12_isBlank_24 ?_
        refine z_goto (M := M_X12_isBlank) (tgt := 29) dX12_isBlank_25 (by decide) ?_
        exact z_st (by rw [zv_t (p := ((((w32 c_0) = 32) ∨ ((w32 c_0) = 9)) ∨ ((w32 c_0) = 10)) ∨ ((w32 c_0) = 13)) (Or.inl (Or.inr h_4))]) J_1
      · refine z_icmp_eq_f (M := M_X12_isBlank) (tgt := 24) dX12_isBlank_15 (by decide) rfl (by decide +kernel) h_4 ?_
        refine z_iload_n (M := M_X12_isBlank) dX12_isBlank_18 rfl ?_
        refine z_bipush (M := M_X12_isBlank) dX12_isBlank_19 (by decide +kernel) ?_
        by_cases h_5 : (w32 c_0) = 13
        · refine z_icmp_ne_f (M := M_X12_isBlank) (tgt := 28) dX12_isBlank_21 (by decide) rfl (by decide +kernel) h_5 ?_
          refine z_iconst (M := M_X12_isBlank) dX12_isBlank_24 ?_
          refine z_goto (M := M_X12_isBlank) (tgt := 29) dX12_isBlank_25 (by decide) ?_
          exact z_st (by rw [zv_t (p := ((((w32 c_0) = 32) ∨ ((w32 c_0) = 9)) ∨ ((w32 c_0) = 10)) ∨ ((w32 c_0) = 13)) (Or.inr h_5)]) J_1
        · refine z_icmp_ne_t (M := M_X12_isBlank) (tgt := 28) dX12_isBlank_21 (by decide) rfl (by decide +kernel) h_5 ?_
          refine z_iconst (M := M_X12_isBlank) dX12_isBlank_28 ?_
          exact z_st (by rw [zv_f (p := ((((w32 c_0) = 32) ∨ ((w32 c_0) = 9)) ∨ ((w32 c_0) = 10)) ∨ ((w32 c_0) = 13)) (fun q => q.elim (fun q => q.elim (fun q => q.elim h_2 h_3) h_4) h_5)]) J_1
theorem c_X12_isLetter (hl : l.stackTraces = false) {σ : SG} {c_0 : Int} {r : Bool}  (H : fR_isLetter c_0 = r) : en_S l E M_X12_isLetter 1 0 0 [vi c_0] σ (pS (some (zv r)) σ) := by
  unfold fR_isLetter at H
  refine z_mk (lv := [some (vi c_0)]) m_X12_isLetter rfl hl (Nat.le_of_ble_eq_true rfl) rfl ?_
  have J_1 : YY l E M_X12_isLetter 1 0 0 (pS (some (zv r)) σ) 29 [some (vi c_0)] [zv (decide (((97 ≤ (w32 c_0)) ∧ ((w32 c_0) ≤ 122)) ∨ ((65 ≤ (w32 c_0)) ∧ ((w32 c_0) ≤ 90))))] σ 0 0 := by
    cases H
    exact z_zret (M := M_X12_isLetter) dX12_isLetter_29 rfl (Nat.le_of_ble_eq_true rfl) (Nat.le_of_ble_eq_true rfl) ⟨rfl, rfl⟩
  refine z_iload_n (M := M_X12_isLetter) dX12_isLetter_0 rfl ?_
  refine z_bipush (M := M_X12_isLetter) dX12_isLetter_1 (by decide +kernel) ?_
  by_cases h_2 : 97 ≤ (w32 c_0)
  · refine z_icmp_lt_f (M := M_X12_isLetter) (tgt := 12) dX12_isLetter_3 (by decide) rfl (by decide +kernel) h_2 ?_
    refine z_iload_n (M := M_X12_isLetter) dX12_isLetter_6 rfl ?_
    refine z_bipush (M := M_X12_isLetter) dX12_isLetter_7 (by decide +kernel) ?_
    by_cases h_3 : (w32 c_0) ≤ 122
    · refine z_icmp_le_t (M := M_X12_isLetter) (tgt := 24) dX12_isLetter_9 (by decide) rfl (by decide +kernel) h_3 ?_
      refine z_iconst (M := M_X12_isLetter) dX12_isLetter_24 ?_
      refine z_goto (M := M_X12_isLetter) (tgt := 29) dX12_isLetter_25 (by decide) ?_
      exact z_st (by rw [zv_t (p := ((97 ≤ (w32 c_0)) ∧ ((w32 c_0) ≤ 122)) ∨ ((65 ≤ (w32 c_0)) ∧ ((w32 c_0) ≤ 90))) (Or.inl ⟨h_2, h_3⟩)]) J_1
    · refine z_icmp_le_f (M := M_X12_isLetter) (tgt := 24) dX12_isLetter_9 (by decide) rfl (by decide +kernel) (Int.not_le.mp h_3) ?_
      refine z_iload_n (M := M_X12_isLetter) dX12_isLetter_12 rfl ?_
      refine z_bipush (M := M_X12_isLetter) dX12_isLetter_13 (by decide +kernel) ?_
      by_cases h_4 : 65 ≤ (w32 c_0)
      · refine z_icmp_lt_f (M := M_X12_isLetter) (tgt := 28) dX12_isLetter_15 (by decide) rfl (by decide +kernel) h_4 ?_
        refine z_iload_n (M := M_X12_isLetter) dX12_isLetter_18 rfl ?_
        refine z_bipush (M := M_X12_isLetter) dX12_isLetter_19 (by decide +kernel) ?_
        by_cases h_5 : (w32 c_0) ≤ 90
        · refine z_icmp_gt_f (M := M_X12_isLetter) (tgt := 28) dX12_isLetter_21 (by decide) rfl (by decide +kernel) h_5 ?_
          refine z_iconst (M := M_X12_isLetter) dX12_isLetter_24 ?_
          refine z_goto (M := M_X12_isLetter) (tgt := 29) dX12_isLetter_25 (by decide) ?_
          exact z_st (by rw [zv_t (p := ((97 ≤ (w32 c_0)) ∧ ((w32 c_0) ≤ 122)) ∨ ((65 ≤ (w32 c_0)) ∧ ((w32 c_0) ≤ 90))) (Or.inr ⟨h_4, h_5⟩)]) J_1
        · refine z_icmp_gt_t (M := M_X12_isLetter) (tgt := 28) dX12_isLetter_21 (by decide) rfl (by decide +kernel) (Int.not_le.mp h_5) ?_
          refine z_iconst (M := M_X12_isLetter) dX12_isLetter_28 ?_
          exact z_st (by rw [zv_f (p := ((97 ≤ (w32 c_0)) ∧ ((w32 c_0) ≤ 122)) ∨ ((65 ≤ (w32 c_0)) ∧ ((w32 c_0) ≤ 90))) (fun q => q.elim (fun q => h_3 q.2) (fun q => h_5 q.2))]) J_1
      · refine z_icmp_lt_t (M := M_X12_isLetter) (tgt := 28) dX12_isLetter_15 (by decide) rfl (by decide +kernel) (Int.not_le.mp h_4) ?_
        refine z_iconst (M := M_X12_isLetter) dX12_isLetter_28 ?_
        exact z_st (by rw [zv_f (p := ((97 ≤ (w32 c_0)) ∧ ((w32 c_0) ≤ 122)) ∨ ((65 ≤ (w32 c_0)) ∧ ((w32 c_0) ≤ 90))) (fun q => q.elim (fun q => h_3 q.2) (fun q => h_4 q.1))]) J_1
  · refine z_icmp_lt_t (M := M_X12_isLetter) (tgt := 12) dX12_isLetter_3 (by decide) rfl (by decide +kernel) (Int.not_le.mp h_2) ?_
    refine z_iload_n (M := M_X12_isLetter) dX12_isLetter_12 rfl ?_
    refine z_bipush (M := M_X12_isLetter) dX12_isLetter_13 (by decide +kernel) ?_
    by_cases h_6 : 65 ≤ (w32 c_0)
    · refine z_icmp_lt_f (M := M_X12_isLetter) (tgt := 28) dX12_isLetter_15 (by decide) rfl (by decide +kernel) h_6 ?_
      refine z_iload_n (M := M_X12_isLetter) dX12_isLetter_18 rfl ?_
      refine z_bipush (M := M_X12_isLetter) dX12_isLetter_19 (by decide +kernel) ?_
      by_cases h_7 : (w32 c_0) ≤ 90
      · refine z_icmp_gt_f (M := M_X12_isLetter) (tgt := 28) dX12_isLetter_21 (by decide) rfl (by decide +kernel) h_7 ?_
        refine z_iconst (M := M_X12_isLetter) dX12_isLetter_24 ?_
        refine z_goto (M := M_X12_isLetter) (tgt := 29) dX12_isLetter_25 (by decide) ?_
        exact z_st (by rw [zv_t (p := ((97 ≤ (w32 c_0)) ∧ ((w32 c_0) ≤ 122)) ∨ ((65 ≤ (w32 c_0)) ∧ ((w32 c_0) ≤ 90))) (Or.inr ⟨h_6, h_7⟩)]) J_1
      · refine z_icmp_gt_t (M := M_X12_isLetter) (tgt := 28) dX12_isLetter_21 (by decide) rfl (by decide +kernel) (Int.not_le.mp h_7) ?_
        refine z_iconst (M := M_X12_isLetter) dX12_isLetter_28 ?_
        exact z_st (by rw [zv_f (p := ((97 ≤ (w32 c_0)) ∧ ((w32 c_0) ≤ 122)) ∨ ((65 ≤ (w32 c_0)) ∧ ((w32 c_0) ≤ 90))) (fun q => q.elim (fun q => h_2 q.1) (fun q => h_7 q.2))]) J_1
    · refine z_icmp_lt_t (M := M_X12_isLetter) (tgt := 28) dX12_isLetter_15 (by decide) rfl (by decide +kernel) (Int.not_le.mp h_6) ?_
      refine z_iconst (M := M_X12_isLetter) dX12_isLetter_28 ?_
      exact z_st (by rw [zv_f (p := ((97 ≤ (w32 c_0)) ∧ ((w32 c_0) ≤ 122)) ∨ ((65 ≤ (w32 c_0)) ∧ ((w32 c_0) ≤ 90))) (fun q => q.elim (fun q => h_2 q.1) (fun q => h_6 q.1))]) J_1
theorem c_X12_isDigit (hl : l.stackTraces = false) {σ : SG} {c_0 : Int} {r : Bool}  (H : fR_isDigit c_0 = r) : en_S l E M_X12_isDigit 1 0 0 [vi c_0] σ (pS (some (zv r)) σ) := by
  unfold fR_isDigit at H
  refine z_mk (lv := [some (vi c_0)]) m_X12_isDigit rfl hl (Nat.le_of_ble_eq_true rfl) rfl ?_
  have J_1 : YY l E M_X12_isDigit 1 0 0 (pS (some (zv r)) σ) 17 [some (vi c_0)] [zv (decide ((48 ≤ (w32 c_0)) ∧ ((w32 c_0) ≤ 57)))] σ 0 0 := by
    cases H
    exact z_zret (M := M_X12_isDigit) dX12_isDigit_17 rfl (Nat.le_of_ble_eq_true rfl) (Nat.le_of_ble_eq_true rfl) ⟨rfl, rfl⟩
  refine z_iload_n (M := M_X12_isDigit) dX12_isDigit_0 rfl ?_
  refine z_bipush (M := M_X12_isDigit) dX12_isDigit_1 (by decide +kernel) ?_
  by_cases h_2 : 48 ≤ (w32 c_0)
  · refine z_icmp_lt_f (M := M_X12_isDigit) (tgt := 16) dX12_isDigit_3 (by decide) rfl (by decide +kernel) h_2 ?_
    refine z_iload_n (M := M_X12_isDigit) dX12_isDigit_6 rfl ?_
    refine z_bipush (M := M_X12_isDigit) dX12_isDigit_7 (by decide +kernel) ?_
    by_cases h_3 : (w32 c_0) ≤ 57
    · refine z_icmp_gt_f (M := M_X12_isDigit) (tgt := 16) dX12_isDigit_9 (by decide) rfl (by decide +kernel) h_3 ?_
      refine z_iconst (M := M_X12_isDigit) dX12_isDigit_12 ?_
      refine z_goto (M := M_X12_isDigit) (tgt := 17) dX12_isDigit_13 (by decide) ?_
      exact z_st (by rw [zv_t (p := (48 ≤ (w32 c_0)) ∧ ((w32 c_0) ≤ 57)) ⟨h_2, h_3⟩]) J_1
    · refine z_icmp_gt_t (M := M_X12_isDigit) (tgt := 16) dX12_isDigit_9 (by decide) rfl (by decide +kernel) (Int.not_le.mp h_3) ?_
      refine z_iconst (M := M_X12_isDigit) dX12_isDigit_16 ?_
      exact z_st (by rw [zv_f (p := (48 ≤ (w32 c_0)) ∧ ((w32 c_0) ≤ 57)) (fun q => h_3 q.2)]) J_1
  · refine z_icmp_lt_t (M := M_X12_isDigit) (tgt := 16) dX12_isDigit_3 (by decide) rfl (by decide +kernel) (Int.not_le.mp h_2) ?_
    refine z_iconst (M := M_X12_isDigit) dX12_isDigit_16 ?_
    exact z_st (by rw [zv_f (p := (48 ≤ (w32 c_0)) ∧ ((w32 c_0) ≤ 57)) (fun q => h_2 q.1)]) J_1
theorem c_X12_isSign (hl : l.stackTraces = false) {σ : SG} {c_0 : Int} {r : Bool}  (H : fR_isSign c_0 = r) : en_S l E M_X12_isSign 1 0 0 [vi c_0] σ (pS (some (zv r)) σ) := by
  unfold fR_isSign at H
  refine z_mk (lv := [some (vi c_0)]) m_X12_isSign rfl hl (Nat.le_of_ble_eq_true rfl) rfl ?_
  have J_1 : YY l E M_X12_isSign 1 0 0 (pS (some (zv r)) σ) 17 [some (vi c_0)] [zv (decide (((w32 c_0) = 43) ∨ ((w32 c_0) = 45)))] σ 0 0 := by
    cases H
    exact z_zret (M := M_X12_isSign) dX12_isSign_17 rfl (Nat.le_of_ble_eq_true rfl) (Nat.le_of_ble_eq_true rfl) ⟨rfl, rfl⟩
  refine z_iload_n (M := M_X12_isSign) dX12_isSign_0 rfl ?_
  refine z_bipush (M := M_X12_isSign) dX12_isSign_1 (by decide +kernel) ?_
  by_cases h_2 : (w32 c_0) = 43
  · refine z_icmp_eq_t (M := M_X12_isSign) (tgt := 12) dX12_isSign_3 (by decide) rfl (by decide +kernel) h_2 ?_
    refine z_iconst (M := M_X12_isSign) dX12_isSign_12 ?_
    refine z_goto (M := M_X12_isSign) (tgt := 17) dX12_isSign_13 (by decide) ?_
    exact z_st (by rw [zv_t (p := ((w32 c_0) = 43) ∨ ((w32 c_0) = 45)) (Or.inl h_2)]) J_1
  · refine z_icmp_eq_f (M := M_X12_isSign) (tgt := 12) dX12_isSign_3 (by decide) rfl (by decide +kernel) h_2 ?_
    refine z_iload_n (M := M_X12_isSign) dX12_isSign_6 rfl ?_
    refine z_bipush (M := M_X12_isSign) dX12_isSign_7 (by decide +kernel) ?_
    by_cases h_3 : (w32 c_0) = 45
    · refine z_icmp_ne_f (M := M_X12_isSign) (tgt := 16) dX12_isSign_9 (by decide) rfl (by decide +kernel) h_3 ?_
      refine z_iconst (M := M_X12_isSign) dX12_isSign_12 ?_
      refine z_goto (M := M_X12_isSign) (tgt := 17) dX12_isSign_13 (by decide) ?_
      exact z_st (by rw [zv_t (p := ((w32 c_0) = 43) ∨ ((w32 c_0) = 45)) (Or.inr h_3)]) J_1
    · refine z_icmp_ne_t (M := M_X12_isSign) (tgt := 16) dX12_isSign_9 (by decide) rfl (by decide +kernel) h_3 ?_
      refine z_iconst (M := M_X12_isSign) dX12_isSign_16 ?_
      exact z_st (by rw [zv_f (p := ((w32 c_0) = 43) ∨ ((w32 c_0) = 45)) (fun q => q.elim h_2 h_3)]) J_1
theorem c_X12_skip (hl : l.stackTraces = false) {σ : SG} {σ' : SG}  (H : fR_skip σ = some σ') : en_S l E M_X12_skip 2 0 0 [vr 277] σ (pS (none) σ') := by
  unfold fR_skip at H
  refine z_mk (lv := [some (vr 277)]) m_X12_skip rfl hl (Nat.le_of_ble_eq_true rfl) rfl ?_
  obtain ⟨rl_5, hw_2, hk_3⟩ := bd_e H
  have J_16 : ∀ σ_15, rl_5 = σ_15 → YY l E M_X12_skip 2 0 0 (pS (none) σ') 23 [some (vr 277)] [] σ_15 0 0 := by
    intro σ_15 e
    have H := hk_3
    rw [e] at H
    cases H
    exact z_vret (M := M_X12_skip) dX12_skip_23 rfl (Nat.le_of_ble_eq_true rfl) (Nat.le_of_ble_eq_true rfl) ⟨rfl, rfl⟩
  refine whl_go hw_2 (fun σ_1 => YY l E M_X12_skip 2 0 0 (pS (none) σ') 0 [some (vr 277)] [] σ_1 0 0) ?_
  rintro σ_1 o_6 H K_7 K_8
  refine z_aload_n (M := M_X12_skip) dX12_skip_0 rfl ?_
  obtain ⟨x_10, hc_9, H⟩ := bd_e H
  refine z_callV (M := M_X12_skip) (M' := M_X12_here) (as := []) (rest := []) rfl rfl dX12_skip_1 m_X12_here t_2860 t_2862 s_164 (c_X12_here hl  hc_9) rfl rfl ly_277 rfl (Nat.le_of_ble_eq_true rfl) (Nat.le_of_ble_eq_true rfl) (Nat.le_of_ble_eq_true rfl) (Nat.le_of_ble_eq_true rfl) ?_
  refine z_st (st' := [vi x_10]) rfl ?_
  refine z_callS (M := M_X12_skip) (M' := M_X12_isBlank) (as := [vi x_10]) (rest := []) rfl rfl dX12_skip_4 m_X12_isBlank t_2864 t_2865 (c_X12_isBlank hl  rfl) rfl rfl (Nat.le_of_ble_eq_true rfl) (Nat.le_of_ble_eq_true rfl) (Nat.le_of_ble_eq_true rfl) (Nat.le_of_ble_eq_true rfl) ?_
  refine z_st (st' := [zv (fR_isBlank x_10)]) rfl ?_
  rcases if_e H with ⟨h_11, H⟩ | ⟨h_11, H⟩
  · refine z_zeq_f (M := M_X12_skip) (tgt := 23) dX12_skip_7 (by decide) h_11 ?_
    refine z_aload_n (M := M_X12_skip) dX12_skip_10 rfl ?_
    refine z_dup (M := M_X12_skip) dX12_skip_11 rfl ?_
    refine z_getI (M := M_X12_skip) (ci := 15) (C := RX12) (T := TX12) (Nf := 135) (ty := tyX12) cl15 dX12_skip_12 ly_277 17 (by decide) t_2408 rfl rfl ?_
    refine z_iconst (M := M_X12_skip) dX12_skip_15 ?_
    refine z_iadd (M := M_X12_skip) dX12_skip_16 ?_
    obtain ⟨σ_12, σ_12_e, H⟩ := wf_e H
    refine z_putI (M := M_X12_skip) (ci := 15) (C := RX12) (T := TX12) (Nf := 135) (ty := tyX12) cl15 dX12_skip_17 ly_277 17 (by decide) t_2408 rfl rfl rfl rfl σ_12_e ?_
    refine z_goto (M := M_X12_skip) (tgt := 0) dX12_skip_20 (by decide) ?_
    exact K_7 _ (Option.some.inj H).symm
  · refine z_zeq_t (M := M_X12_skip) (tgt := 23) dX12_skip_7 (by decide) h_11 ?_
    exact J_16 _ (K_8 _ (Option.some.inj H).symm).symm
theorem c_X12_strange (hl : l.stackTraces = false) {σ : SG} {word_0 : Bool} {r : Bool} {σ' : SG}  (H : fR_strange σ word_0 = some (r, σ')) : en_S l E M_X12_strange 2 0 0 [vr 277, zv word_0] σ (pS (some (zv r)) σ') := by
  unfold fR_strange at H
  refine z_mk (lv := [some (vr 277), some (zv word_0), none, none]) m_X12_strange rfl hl (Nat.le_of_ble_eq_true rfl) rfl ?_
  refine z_aload_n (M := M_X12_strange) dX12_strange_0 rfl ?_
  obtain ⟨x_2, hc_1, H⟩ := bd_e H
  refine z_callV (M := M_X12_strange) (M' := M_X12_here) (as := []) (rest := []) rfl rfl dX12_strange_1 m_X12_here t_2860 t_2862 s_164 (c_X12_here hl  hc_1) rfl rfl ly_277 rfl (Nat.le_of_ble_eq_true rfl) (Nat.le_of_ble_eq_true rfl) (Nat.le_of_ble_eq_true rfl) (Nat.le_of_ble_eq_true rfl) ?_
  refine z_st (st' := [vi x_2]) rfl ?_
  refine z_istore_n (M := M_X12_strange) (lv' := [some (vr 277), some (zv word_0), some (vi x_2), none]) dX12_strange_4 (Nat.le_of_ble_eq_true rfl) rfl rfl ?_
  rcases if_e H with ⟨h_22, H⟩ | ⟨h_22, H⟩
  · have J_23 : YY l E M_X12_strange 2 0 0 (pS (some (zv r)) σ') 17 [some (vr 277), some (zv word_0), some (vi x_2), none] [] σ 0 0 := by
      refine z_aload_n (M := M_X12_strange) dX12_strange_17 rfl ?_
      have J_3 : YY l E M_X12_strange 2 0 0 (pS (some (zv r)) σ') 27 [some (vr 277), some (zv word_0), some (vi x_2), none] [vi (if word_0 = true then 2 else 3), vr 277] σ 0 0 := by
        refine z_aload_n (M := M_X12_strange) dX12_strange_27 rfl ?_
        refine z_getI (M := M_X12_strange) (ci := 15) (C := RX12) (T := TX12) (Nf := 135) (ty := tyX12) cl15 dX12_strange_28 ly_277 17 (by decide) t_2408 rfl rfl ?_
        obtain ⟨⟨x_6, σ_5⟩, hc_4, H⟩ := bd_e H
        refine z_callV (M := M_X12_strange) (M' := M_X12_wrong) (as := [vi (if word_0 = true then 2 else 3), vi (σ kR_at 0)]) (rest := []) rfl rfl dX12_strange_31 m_X12_wrong t_2874 t_2876 s_166 (c_X12_wrong hl  hc_4) rfl rfl ly_277 rfl (Nat.le_of_ble_eq_true rfl) (Nat.le_of_ble_eq_true rfl) (Nat.le_of_ble_eq_true rfl) (Nat.le_of_ble_eq_true rfl) ?_
        refine z_st (st' := [zv x_6]) rfl ?_
        cases H
        exact z_zret (M := M_X12_strange) dX12_strange_34 rfl (Nat.le_of_ble_eq_true rfl) (Nat.le_of_ble_eq_true rfl) ⟨rfl, rfl⟩
      refine z_zload_n (M := M_X12_strange) dX12_strange_18 rfl ?_
      by_cases h_7 : word_0 = true
      · refine z_zeq_f (M := M_X12_strange) (tgt := 26) dX12_strange_19 (by decide) h_7 ?_
        refine z_iconst (M := M_X12_strange) dX12_strange_22 ?_
        refine z_goto (M := M_X12_strange) (tgt := 27) dX12_strange_23 (by decide) ?_
        exact z_st (by rw [if_pos (c := word_0 = true) h_7]) J_3
      · refine z_zeq_t (M := M_X12_strange) (tgt := 26) dX12_strange_19 (by decide) h_7 ?_
        refine z_iconst (M := M_X12_strange) dX12_strange_26 ?_
        exact z_st (by rw [if_neg (c := word_0 = true) h_7]) J_3
    refine z_iload_n (M := M_X12_strange) dX12_strange_5 rfl ?_
    refine z_iconst (M := M_X12_strange) dX12_strange_6 ?_
    by_cases h_25 : ¬ (w32 x_2) = (-1)
    · refine z_icmp_eq_f (M := M_X12_strange) (tgt := 35) dX12_strange_7 (by decide) rfl (by decide +kernel) h_25 ?_
      refine z_iload_n (M := M_X12_strange) dX12_strange_10 rfl ?_
      refine z_callS (M := M_X12_strange) (M' := M_X12_isLetter) (as := [vi x_2]) (rest := []) rfl rfl dX12_strange_11 m_X12_isLetter t_2867 t_2868 (c_X12_isLetter hl  rfl) rfl rfl (Nat.le_of_ble_eq_true rfl) (Nat.le_of_ble_eq_true rfl) (Nat.le_of_ble_eq_true rfl) (Nat.le_of_ble_eq_true rfl) ?_
      refine z_st (st' := [zv (fR_isLetter x_2)]) rfl ?_
      by_cases h_26 : (fR_isLetter x_2) = true
      · refine z_zeq_f (M := M_X12_strange) (tgt := 35) dX12_strange_14 (by decide) h_26 ?_
        exact J_23
      · refine z_zeq_t (M := M_X12_strange) (tgt := 35) dX12_strange_14 (by decide) h_26 ?_
        exact absurd h_22 (fun q => h_26 q.2)
    · refine z_icmp_eq_t (M := M_X12_strange) (tgt := 35) dX12_strange_7 (by decide) rfl (by decide +kernel) (Decidable.not_not.mp h_25) ?_
      exact absurd h_22 (fun q => h_25 q.1)
  · have J_24 : YY l E M_X12_strange 2 0 0 (pS (some (zv r)) σ') 35 [some (vr 277), some (zv word_0), some (vi x_2), none] [] σ 0 0 := by
      have J_8 : YY l E M_X12_strange 2 0 0 (pS (some (zv r)) σ') 83 [some (vr 277), some (zv word_0), some (vi x_2), none] [zv (decide ((((((((w32 x_2) = (-1)) ∨ ((fR_isDigit x_2) = true)) ∨ ((fR_isSign x_2) = true)) ∨ ((w32 x_2) = 46)) ∨ ((w32 x_2) = 40)) ∨ ((w32 x_2) = 41)) ∨ ((w32 x_2) = 44)))] σ 0 0 := by
        obtain ⟨x_9, x_9_e, H⟩ := lt_e H
        refine z_st (congrArg (fun z => zv z :: []) x_9_e) ?_
        refine z_zstore_n (M := M_X12_strange) (lv' := [some (vr 277), some (zv word_0), some (vi x_2), some (zv x_9)]) dX12_strange_83 (Nat.le_of_ble_eq_true rfl) rfl rfl ?_
        refine z_aload_n (M := M_X12_strange) dX12_strange_84 rfl ?_
        have J_10 : YY l E M_X12_strange 2 0 0 (pS (some (zv r)) σ') 94 [some (vr 277), some (zv word_0), some (vi x_2), some (zv x_9)] [vi (if x_9 = true then 3 else 1), vr 277] σ 0 0 := by
          refine z_aload_n (M := M_X12_strange) dX12_strange_94 rfl ?_
          refine z_getI (M := M_X12_strange) (ci := 15) (C := RX12) (T := TX12) (Nf := 135) (ty := tyX12) cl15 dX12_strange_95 ly_277 17 (by decide) t_2408 rfl rfl ?_
          obtain ⟨⟨x_13, σ_12⟩, hc_11, H⟩ := bd_e H
          refine z_callV (M := M_X12_strange) (M' := M_X12_wrong) (as := [vi (if x_9 = true then 3 else 1), vi (σ kR_at 0)]) (rest := []) rfl rfl dX12_strange_98 m_X12_wrong t_2874 t_2876 s_166 (c_X12_wrong hl  hc_11) rfl rfl ly_277 rfl (Nat.le_of_ble_eq_true rfl) (Nat.le_of_ble_eq_true rfl) (Nat.le_of_ble_eq_true rfl) (Nat.le_of_ble_eq_true rfl) ?_
          refine z_st (st' := [zv x_13]) rfl ?_
          cases H
          exact z_zret (M := M_X12_strange) dX12_strange_101 rfl (Nat.le_of_ble_eq_true rfl) (Nat.le_of_ble_eq_true rfl) ⟨rfl, rfl⟩
        refine z_zload_n (M := M_X12_strange) dX12_strange_85 rfl ?_
        by_cases h_14 : x_9 = true
        · refine z_zeq_f (M := M_X12_strange) (tgt := 93) dX12_strange_86 (by decide) h_14 ?_
          refine z_iconst (M := M_X12_strange) dX12_strange_89 ?_
          refine z_goto (M := M_X12_strange) (tgt := 94) dX12_strange_90 (by decide) ?_
          exact z_st (by rw [if_pos (c := x_9 = true) h_14]) J_10
        · refine z_zeq_t (M := M_X12_strange) (tgt := 93) dX12_strange_86 (by decide) h_14 ?_
          refine z_iconst (M := M_X12_strange) dX12_strange_93 ?_
          exact z_st (by rw [if_neg (c := x_9 = true) h_14]) J_10
      refine z_iload_n (M := M_X12_strange) dX12_strange_35 rfl ?_
      refine z_iconst (M := M_X12_strange) dX12_strange_36 ?_
      by_cases h_15 : (w32 x_2) = (-1)
      · refine z_icmp_eq_t (M := M_X12_strange) (tgt := 78) dX12_strange_37 (by decide) rfl (by decide +kernel) h_15 ?_
        refine z_iconst (M := M_X12_strange) dX12_strange_78 ?_
        refine z_goto (M := M_X12_strange) (tgt := 83) dX12_strange_79 (by decide) ?_
        exact z_st (by rw [zv_t (p := (((((((w32 x_2) = (-1)) ∨ ((fR_isDigit x_2) = true)) ∨ ((fR_isSign x_2) = true)) ∨ ((w32 x_2) = 46)) ∨ ((w32 x_2) = 40)) ∨ ((w32 x_2) = 41)) ∨ ((w32 x_2) = 44)) (Or.inl (Or.inl (Or.inl (Or.inl (Or.inl (Or.inl h_15))))))]) J_8
      · refine z_icmp_eq_f (M := M_X12_strange) (tgt := 78) dX12_strange_37 (by decide) rfl (by decide +kernel) h_15 ?_
        refine z_iload_n (M := M_X12_strange) dX12_strange_40 rfl ?_
        refine z_callS (M := M_X12_strange) (M' := M_X12_isDigit) (as := [vi x_2]) (rest := []) rfl rfl dX12_strange_41 m_X12_isDigit t_2878 t_2879 (c_X12_isDigit hl  rfl) rfl rfl (Nat.le_of_ble_eq_true rfl) (Nat.le_of_ble_eq_true rfl) (Nat.le_of_ble_eq_true rfl) (Nat.le_of_ble_eq_true rfl) ?_
        refine z_st (st' := [zv (fR_isDigit x_2)]) rfl ?_
        by_cases h_16 : (fR_isDigit x_2) = true
        · refine z_zne_t (M := M_X12_strange) (tgt := 78) dX12_strange_44 (by decide) h_16 ?_
          refine z_iconst (M := M_X12_strange) dX12_strange_78 ?_
          refine z_goto (M := M_X12_strange) (tgt := 83) dX12_strange_79 (by decide) ?_
          exact z_st (by rw [zv_t (p := (((((((w32 x_2) = (-1)) ∨ ((fR_isDigit x_2) = true)) ∨ ((fR_isSign x_2) = true)) ∨ ((w32 x_2) = 46)) ∨ ((w32 x_2) = 40)) ∨ ((w32 x_2) = 41)) ∨ ((w32 x_2) = 44)) (Or.inl (Or.inl (Or.inl (Or.inl (Or.inl (Or.inr h_16))))))]) J_8
        · refine z_zne_f (M := M_X12_strange) (tgt := 78) dX12_strange_44 (by decide) h_16 ?_
          refine z_iload_n (M := M_X12_strange) dX12_strange_47 rfl ?_
          refine z_callS (M := M_X12_strange) (M' := M_X12_isSign) (as := [vi x_2]) (rest := []) rfl rfl dX12_strange_48 m_X12_isSign t_2881 t_2882 (c_X12_isSign hl  rfl) rfl rfl (Nat.le_of_ble_eq_true rfl) (Nat.le_of_ble_eq_true rfl) (Nat.le_of_ble_eq_true rfl) (Nat.le_of_ble_eq_true rfl) ?_
          refine z_st (st' := [zv (fR_isSign x_2)]) rfl ?_
          by_cases h_17 : (fR_isSign x_2) = true
          · refine z_zne_t (M := M_X12_strange) (tgt := 78) dX12_strange_51 (by decide) h_17 ?_
            refine z_iconst (M := M_X12_strange) dX12_strange_78 ?_
            refine z_goto (M := M_X12_strange) (tgt := 83) dX12_strange_79 (by decide) ?_
            exact z_st (by rw [zv_t (p := (((((((w32 x_2) = (-1)) ∨ ((fR_isDigit x_2) = true)) ∨ ((fR_isSign x_2) = true)) ∨ ((w32 x_2) = 46)) ∨ ((w32 x_2) = 40)) ∨ ((w32 x_2) = 41)) ∨ ((w32 x_2) = 44)) (Or.inl (Or.inl (Or.inl (Or.inl (Or.inr h_17)))))]) J_8
          · refine z_zne_f (M := M_X12_strange) (tgt := 78) dX12_strange_51 (by decide) h_17 ?_
            refine z_iload_n (M := M_X12_strange) dX12_strange_54 rfl ?_
            refine z_bipush (M := M_X12_strange) dX12_strange_55 (by decide +kernel) ?_
            by_cases h_18 : (w32 x_2) = 46
            · refine z_icmp_eq_t (M := M_X12_strange) (tgt := 78) dX12_strange_57 (by decide) rfl (by decide +kernel) h_18 ?_
              refine z_iconst (M := M_X12_strange) dX12_strange_78 ?_
              refine z_goto (M := M_X12_strange) (tgt := 83) dX12_strange_79 (by decide) ?_
              exact z_st (by rw [zv_t (p := (((((((w32 x_2) = (-1)) ∨ ((fR_isDigit x_2) = true)) ∨ ((fR_isSign x_2) = true)) ∨ ((w32 x_2) = 46)) ∨ ((w32 x_2) = 40)) ∨ ((w32 x_2) = 41)) ∨ ((w32 x_2) = 44)) (Or.inl (Or.inl (Or.inl (Or.inr h_18))))]) J_8
            · refine z_icmp_eq_f (M := M_X12_strange) (tgt := 78) dX12_strange_57 (by decide) rfl (by decide +kernel) h_18 ?_
              refine z_iload_n (M := M_X12_strange) dX12_strange_60 rfl ?_
              refine z_bipush (M := M_X12_strange) dX12_strange_61 (by decide +kernel) ?_
              by_cases h_19 : (w32 x_2) = 40
              · refine z_icmp_eq_t (M := M_X12_strange) (tgt := 78) dX12_strange_63 (by decide) rfl (by decide +kernel) h_19 ?_
                refine z_iconst (M := M_X12_strange) dX12_strange_78 ?_
                refine z_goto (M := M_X12_strange) (tgt := 83) dX12_strange_79 (by decide) ?_
                exact z_st (by rw [zv_t (p := (((((((w32 x_2) = (-1)) ∨ ((fR_isDigit x_2) = true)) ∨ ((fR_isSign x_2) = true)) ∨ ((w32 x_2) = 46)) ∨ ((w32 x_2) = 40)) ∨ ((w32 x_2) = 41)) ∨ ((w32 x_2) = 44)) (Or.inl (Or.inl (Or.inr h_19)))]) J_8
              · refine z_icmp_eq_f (M := M_X12_strange) (tgt := 78) dX12_strange_63 (by decide) rfl (by decide +kernel) h_19 ?_
                refine z_iload_n (M := M_X12_strange) dX12_strange_66 rfl ?_
                refine z_bipush (M := M_X12_strange) dX12_strange_67 (by decide +kernel) ?_
                by_cases h_20 : (w32 x_2) = 41
                · refine z_icmp_eq_t (M := M_X12_strange) (tgt := 78) dX12_strange_69 (by decide) rfl (by decide +kernel) h_20 ?_
                  refine z_iconst (M := M_X12_strange) dX12_strange_78 ?_
                  refine z_goto (M := M_X12_strange) (tgt := 83) dX12_strange_79 (by decide) ?_
                  exact z_st (by rw [zv_t (p := (((((((w32 x_2) = (-1)) ∨ ((fR_isDigit x_2) = true)) ∨ ((fR_isSign x_2) = true)) ∨ ((w32 x_2) = 46)) ∨ ((w32 x_2) = 40)) ∨ ((w32 x_2) = 41)) ∨ ((w32 x_2) = 44)) (Or.inl (Or.inr h_20))]) J_8
                · refine z_icmp_eq_f (M := M_X12_strange) (tgt := 78) dX12_strange_69 (by decide) rfl (by decide +kernel) h_20 ?_
                  refine z_iload_n (M := M_X12_strange) dX12_strange_72 rfl ?_
                  refine z_bipush (M := M_X12_strange) dX12_strange_73 (by decide +kernel) ?_
                  by_cases h_21 : (w32 x_2) = 44
                  · refine z_icmp_ne_f (M := M_X12_strange) (tgt := 82) dX12_strange_75 (by decide) rfl (by decide +kernel) h_21 ?_
                    refine z_iconst (M := M_X12_strange) dX12_strange_78 ?_
                    refine z_goto (M := M_X12_strange) (tgt := 83) dX12_strange_79 (by decide) ?_
                    exact z_st (by rw [zv_t (p := (((((((w32 x_2) = (-1)) ∨ ((fR_isDigit x_2) = true)) ∨ ((fR_isSign x_2) = true)) ∨ ((w32 x_2) = 46)) ∨ ((w32 x_2) = 40)) ∨ ((w32 x_2) = 41)) ∨ ((w32 x_2) = 44)) (Or.inr h_21)]) J_8
                  · refine z_icmp_ne_t (M := M_X12_strange) (tgt := 82) dX12_strange_75 (by decide) rfl (by decide +kernel) h_21 ?_
                    refine z_iconst (M := M_X12_strange) dX12_strange_82 ?_
                    exact z_st (by rw [zv_f (p := (((((((w32 x_2) = (-1)) ∨ ((fR_isDigit x_2) = true)) ∨ ((fR_isSign x_2) = true)) ∨ ((w32 x_2) = 46)) ∨ ((w32 x_2) = 40)) ∨ ((w32 x_2) = 41)) ∨ ((w32 x_2) = 44)) (fun q => q.elim (fun q => q.elim (fun q => q.elim (fun q => q.elim (fun q => q.elim (fun q => q.elim h_15 h_16) h_17) h_18) h_19) h_20) h_21)]) J_8
    refine z_iload_n (M := M_X12_strange) dX12_strange_5 rfl ?_
    refine z_iconst (M := M_X12_strange) dX12_strange_6 ?_
    by_cases h_27 : ¬ (w32 x_2) = (-1)
    · refine z_icmp_eq_f (M := M_X12_strange) (tgt := 35) dX12_strange_7 (by decide) rfl (by decide +kernel) h_27 ?_
      refine z_iload_n (M := M_X12_strange) dX12_strange_10 rfl ?_
      refine z_callS (M := M_X12_strange) (M' := M_X12_isLetter) (as := [vi x_2]) (rest := []) rfl rfl dX12_strange_11 m_X12_isLetter t_2867 t_2868 (c_X12_isLetter hl  rfl) rfl rfl (Nat.le_of_ble_eq_true rfl) (Nat.le_of_ble_eq_true rfl) (Nat.le_of_ble_eq_true rfl) (Nat.le_of_ble_eq_true rfl) ?_
      refine z_st (st' := [zv (fR_isLetter x_2)]) rfl ?_
      by_cases h_28 : (fR_isLetter x_2) = true
      · refine z_zeq_f (M := M_X12_strange) (tgt := 35) dX12_strange_14 (by decide) h_28 ?_
        exact absurd ⟨h_27, h_28⟩ h_22
      · refine z_zeq_t (M := M_X12_strange) (tgt := 35) dX12_strange_14 (by decide) h_28 ?_
        exact J_24
    · refine z_icmp_eq_t (M := M_X12_strange) (tgt := 35) dX12_strange_7 (by decide) rfl (by decide +kernel) (Decidable.not_not.mp h_27) ?_
      exact J_24
theorem c_X12_large (hl : l.stackTraces = false) {σ : SG} {c_0 : Int} {r : Int}  (H : fR_large c_0 = r) : en_S l E M_X12_large 1 0 0 [vi c_0] σ (pS (some (vi r)) σ) := by
  unfold fR_large at H
  refine z_mk (lv := [some (vi c_0)]) m_X12_large rfl hl (Nat.le_of_ble_eq_true rfl) rfl ?_
  have J_1 : YY l E M_X12_large 1 0 0 (pS (some (vi r)) σ) 20 [some (vi c_0)] [vi (if (97 ≤ (w32 c_0)) ∧ ((w32 c_0) ≤ 122) then (c_0 - 32) else c_0)] σ 0 0 := by
    cases H
    exact z_iret (M := M_X12_large) dX12_large_20 rfl (Nat.le_of_ble_eq_true rfl) (Nat.le_of_ble_eq_true rfl) ⟨rfl, rfl⟩
  refine z_iload_n (M := M_X12_large) dX12_large_0 rfl ?_
  refine z_bipush (M := M_X12_large) dX12_large_1 (by decide +kernel) ?_
  by_cases h_2 : 97 ≤ (w32 c_0)
  · refine z_icmp_lt_f (M := M_X12_large) (tgt := 19) dX12_large_3 (by decide) rfl (by decide +kernel) h_2 ?_
    refine z_iload_n (M := M_X12_large) dX12_large_6 rfl ?_
    refine z_bipush (M := M_X12_large) dX12_large_7 (by decide +kernel) ?_
    by_cases h_3 : (w32 c_0) ≤ 122
    · refine z_icmp_gt_f (M := M_X12_large) (tgt := 19) dX12_large_9 (by decide) rfl (by decide +kernel) h_3 ?_
      refine z_iload_n (M := M_X12_large) dX12_large_12 rfl ?_
      refine z_bipush (M := M_X12_large) dX12_large_13 (by decide +kernel) ?_
      refine z_isub (M := M_X12_large) dX12_large_15 ?_
      refine z_goto (M := M_X12_large) (tgt := 20) dX12_large_16 (by decide) ?_
      exact z_st (by rw [if_pos (c := (97 ≤ (w32 c_0)) ∧ ((w32 c_0) ≤ 122)) ⟨h_2, h_3⟩]) J_1
    · refine z_icmp_gt_t (M := M_X12_large) (tgt := 19) dX12_large_9 (by decide) rfl (by decide +kernel) (Int.not_le.mp h_3) ?_
      refine z_iload_n (M := M_X12_large) dX12_large_19 rfl ?_
      exact z_st (by rw [if_neg (c := (97 ≤ (w32 c_0)) ∧ ((w32 c_0) ≤ 122)) (fun q => h_3 q.2)]) J_1
  · refine z_icmp_lt_t (M := M_X12_large) (tgt := 19) dX12_large_3 (by decide) rfl (by decide +kernel) (Int.not_le.mp h_2) ?_
    refine z_iload_n (M := M_X12_large) dX12_large_19 rfl ?_
    exact z_st (by rw [if_neg (c := (97 ≤ (w32 c_0)) ∧ ((w32 c_0) ≤ 122)) (fun q => h_2 q.1)]) J_1
theorem c_X12_isWord (hl : l.stackTraces = false) {σ : SG} {from_0 : Int} {start_0 : Int} {end_0 : Int} {r : Bool}  (H : fR_isWord σ from_0 start_0 end_0 = some r) : en_S l E M_X12_isWord 6 0 0 [vr 277, vi from_0, vi start_0, vi end_0] σ (pS (some (zv r)) σ) := by
  unfold fR_isWord at H
  refine z_mk (lv := [some (vr 277), some (vi from_0), some (vi start_0), some (vi end_0), none, none]) m_X12_isWord rfl hl (Nat.le_of_ble_eq_true rfl) rfl ?_
  have J_1 : YY l E M_X12_isWord 6 0 0 (pS (some (zv r)) σ) 17 [some (vr 277), some (vi from_0), some (vi start_0), some (vi end_0), none, none] [zv (decide ((w32 ((σ kR_at 0) - from_0)) = (w32 (end_0 - start_0))))] σ 0 0 := by
    obtain ⟨x_2, x_2_e, H⟩ := lt_e H
    refine z_st (congrArg (fun z => zv z :: []) x_2_e) ?_
    refine z_zstore (M := M_X12_isWord) (lv' := [some (vr 277), some (vi from_0), some (vi start_0), some (vi end_0), some (zv x_2), none]) dX12_isWord_17 (Nat.le_of_ble_eq_true rfl) rfl rfl ?_
    refine z_iconst (M := M_X12_isWord) dX12_isWord_19 ?_
    refine z_istore (M := M_X12_isWord) (lv' := [some (vr 277), some (vi from_0), some (vi start_0), some (vi end_0), some (zv x_2), some (vi 0)]) dX12_isWord_20 (Nat.le_of_ble_eq_true rfl) rfl rfl ?_
    obtain ⟨rl_8, hw_5, hk_6⟩ := bd_e H
    have J_34 : ∀ like_32 k_33, rl_8 = (like_32, k_33) → YY l E M_X12_isWord 6 0 0 (pS (some (zv r)) σ) 73 [some (vr 277), some (vi from_0), some (vi start_0), some (vi end_0), some (zv like_32), some (vi k_33)] [] σ 0 0 := by
      intro like_32 k_33 e
      have H := hk_6
      rw [e] at H
      refine z_zload (M := M_X12_isWord) dX12_isWord_73 rfl ?_
      cases H
      exact z_zret (M := M_X12_isWord) dX12_isWord_75 rfl (Nat.le_of_ble_eq_true rfl) (Nat.le_of_ble_eq_true rfl) ⟨rfl, rfl⟩
    refine whl_go hw_5 (fun (like_3, k_4) => YY l E M_X12_isWord 6 0 0 (pS (some (zv r)) σ) 22 [some (vr 277), some (vi from_0), some (vi start_0), some (vi end_0), some (zv like_3), some (vi k_4)] [] σ 0 0) ?_
    rintro ⟨like_3, k_4⟩ o_9 H K_10 K_11
    rcases if_e H with ⟨h_25, H⟩ | ⟨h_25, H⟩
    · have J_26 : YY l E M_X12_isWord 6 0 0 (pS (some (zv r)) σ) 35 [some (vr 277), some (vi from_0), some (vi start_0), some (vi end_0), some (zv like_3), some (vi k_4)] [] σ 0 0 := by
        obtain ⟨v_20, he_21, hk_22⟩ := bd_e H
        have J_23 : ∀ x_18, v_20 = x_18 → YY l E M_X12_isWord 6 0 0 (pS (some (zv r)) σ) 65 [some (vr 277), some (vi from_0), some (vi start_0), some (vi end_0), some (zv like_3), some (vi k_4)] [zv x_18] σ 0 0 := by
          intro x_18 e
          have H := hk_22
          rw [e] at H
          refine z_zstore (M := M_X12_isWord) (lv' := [some (vr 277), some (vi from_0), some (vi start_0), some (vi end_0), some (zv x_18), some (vi k_4)]) dX12_isWord_65 (Nat.le_of_ble_eq_true rfl) rfl rfl ?_
          refine z_iinc (M := M_X12_isWord) (lv' := [some (vr 277), some (vi from_0), some (vi start_0), some (vi end_0), some (zv x_18), some (vi (k_4 + 1))]) dX12_isWord_67 rfl (Nat.le_of_ble_eq_true rfl) rfl rfl ?_
          refine z_goto (M := M_X12_isWord) (tgt := 22) dX12_isWord_70 (by decide) ?_
          exact K_10 _ (Option.some.inj H).symm
        have H := he_21
        refine z_aload_n (M := M_X12_isWord) dX12_isWord_35 rfl ?_
        refine z_getR (M := M_X12_isWord) (ci := 15) (C := RX12) (T := TX12) (Nf := 135) (ty := tyX12) cl15 dX12_isWord_36 ly_277 3 (by decide) t_2394 rfl ?_
        refine z_iload_n (M := M_X12_isWord) dX12_isWord_39 rfl ?_
        refine z_iload (M := M_X12_isWord) dX12_isWord_40 rfl ?_
        refine z_iadd (M := M_X12_isWord) dX12_isWord_42 ?_
        obtain ⟨x_12, x_12_e, hi_13, H⟩ := rd_e H
        refine z_bald (M := M_X12_isWord) dX12_isWord_43 ly_278 rfl rfl rfl hi_13 x_12_e ?_
        refine z_callS (M := M_X12_isWord) (M' := M_X12_large) (as := [vi (w8 x_12)]) (rest := []) rfl rfl dX12_isWord_44 m_X12_large t_2895 t_2896 (c_X12_large hl  rfl) rfl rfl (Nat.le_of_ble_eq_true rfl) (Nat.le_of_ble_eq_true rfl) (Nat.le_of_ble_eq_true rfl) (Nat.le_of_ble_eq_true rfl) ?_
        refine z_st (st' := [vi (fR_large (w8 x_12))]) rfl ?_
        refine z_ldcWS (M := M_X12_isWord) (i := 9) (w := 10) (tx := "POINT LINESTRING POLYGON MULTIPOINT MULTILINESTRING MULTIPOLYGON GEOMETRYCOLLECTION EMPTY ") dX12_isWord_47 (by decide +kernel) (by decide) rfl ?_
        refine z_iload_n (M := M_X12_isWord) dX12_isWord_50 rfl ?_
        refine z_iload (M := M_X12_isWord) dX12_isWord_51 rfl ?_
        refine z_iadd (M := M_X12_isWord) dX12_isWord_53 ?_
        obtain ⟨hi_14, H⟩ := ck_e H
        refine z_strch (M := M_X12_isWord) rfl dX12_isWord_54 t_2890 (by decide) rfl hi_14 hl (Nat.le_of_ble_eq_true rfl) (Nat.le_of_ble_eq_true rfl) (Nat.le_of_ble_eq_true rfl) (Nat.le_of_ble_eq_true rfl) ?_
        rcases if_e H with ⟨h_15, H⟩ | ⟨h_15, H⟩
        · refine z_icmp_ne_f (M := M_X12_isWord) (tgt := 64) dX12_isWord_57 (by decide) rfl rfl h_15 ?_
          refine z_zconst (M := M_X12_isWord) (b := true) dX12_isWord_60 rfl ?_
          refine z_goto (M := M_X12_isWord) (tgt := 65) dX12_isWord_61 (by decide) ?_
          exact J_23 _ (Option.some.inj H).symm
        · refine z_icmp_ne_t (M := M_X12_isWord) (tgt := 64) dX12_isWord_57 (by decide) rfl rfl h_15 ?_
          refine z_zconst (M := M_X12_isWord) (b := false) dX12_isWord_64 rfl ?_
          exact J_23 _ (Option.some.inj H).symm
      refine z_iload (M := M_X12_isWord) dX12_isWord_22 rfl ?_
      refine z_iload_n (M := M_X12_isWord) dX12_isWord_24 rfl ?_
      refine z_iload_n (M := M_X12_isWord) dX12_isWord_25 rfl ?_
      refine z_isub (M := M_X12_isWord) dX12_isWord_26 ?_
      by_cases h_28 : (w32 k_4) < (w32 (end_0 - start_0))
      · refine z_icmp_ge_f (M := M_X12_isWord) (tgt := 73) dX12_isWord_27 (by decide) rfl rfl h_28 ?_
        refine z_zload (M := M_X12_isWord) dX12_isWord_30 rfl ?_
        by_cases h_29 : like_3 = true
        · refine z_zeq_f (M := M_X12_isWord) (tgt := 73) dX12_isWord_32 (by decide) h_29 ?_
          exact J_26
        · refine z_zeq_t (M := M_X12_isWord) (tgt := 73) dX12_isWord_32 (by decide) h_29 ?_
          exact absurd h_25 (fun q => h_29 q.2)
      · refine z_icmp_ge_t (M := M_X12_isWord) (tgt := 73) dX12_isWord_27 (by decide) rfl rfl (Int.not_lt.mp h_28) ?_
        exact absurd h_25 (fun q => h_28 q.1)
    · have J_27 : YY l E M_X12_isWord 6 0 0 (pS (some (zv r)) σ) 73 [some (vr 277), some (vi from_0), some (vi start_0), some (vi end_0), some (zv like_3), some (vi k_4)] [] σ 0 0 := by
        exact J_34 _ _ (K_11 _ (Option.some.inj H).symm).symm
      refine z_iload (M := M_X12_isWord) dX12_isWord_22 rfl ?_
      refine z_iload_n (M := M_X12_isWord) dX12_isWord_24 rfl ?_
      refine z_iload_n (M := M_X12_isWord) dX12_isWord_25 rfl ?_
      refine z_isub (M := M_X12_isWord) dX12_isWord_26 ?_
      by_cases h_30 : (w32 k_4) < (w32 (end_0 - start_0))
      · refine z_icmp_ge_f (M := M_X12_isWord) (tgt := 73) dX12_isWord_27 (by decide) rfl rfl h_30 ?_
        refine z_zload (M := M_X12_isWord) dX12_isWord_30 rfl ?_
        by_cases h_31 : like_3 = true
        · refine z_zeq_f (M := M_X12_isWord) (tgt := 73) dX12_isWord_32 (by decide) h_31 ?_
          exact absurd ⟨h_30, h_31⟩ h_25
        · refine z_zeq_t (M := M_X12_isWord) (tgt := 73) dX12_isWord_32 (by decide) h_31 ?_
          exact J_27
      · refine z_icmp_ge_t (M := M_X12_isWord) (tgt := 73) dX12_isWord_27 (by decide) rfl rfl (Int.not_lt.mp h_30) ?_
        exact J_27
  refine z_aload_n (M := M_X12_isWord) dX12_isWord_0 rfl ?_
  refine z_getI (M := M_X12_isWord) (ci := 15) (C := RX12) (T := TX12) (Nf := 135) (ty := tyX12) cl15 dX12_isWord_1 ly_277 17 (by decide) t_2408 rfl rfl ?_
  refine z_iload_n (M := M_X12_isWord) dX12_isWord_4 rfl ?_
  refine z_isub (M := M_X12_isWord) dX12_isWord_5 ?_
  refine z_iload_n (M := M_X12_isWord) dX12_isWord_6 rfl ?_
  refine z_iload_n (M := M_X12_isWord) dX12_isWord_7 rfl ?_
  refine z_isub (M := M_X12_isWord) dX12_isWord_8 ?_
  by_cases h_35 : (w32 ((σ kR_at 0) - from_0)) = (w32 (end_0 - start_0))
  · refine z_icmp_ne_f (M := M_X12_isWord) (tgt := 16) dX12_isWord_9 (by decide) rfl rfl h_35 ?_
    refine z_iconst (M := M_X12_isWord) dX12_isWord_12 ?_
    refine z_goto (M := M_X12_isWord) (tgt := 17) dX12_isWord_13 (by decide) ?_
    exact z_st (by rw [zv_t (p := (w32 ((σ kR_at 0) - from_0)) = (w32 (end_0 - start_0))) h_35]) J_1
  · refine z_icmp_ne_t (M := M_X12_isWord) (tgt := 16) dX12_isWord_9 (by decide) rfl rfl h_35 ?_
    refine z_iconst (M := M_X12_isWord) dX12_isWord_16 ?_
    exact z_st (by rw [zv_f (p := (w32 ((σ kR_at 0) - from_0)) = (w32 (end_0 - start_0))) h_35]) J_1
end LFAO
