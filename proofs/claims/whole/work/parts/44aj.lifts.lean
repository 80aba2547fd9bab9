section LFAJ
variable {l : Launch} {E : EE}
theorem c_X7_compareLimbs (hl : l.stackTraces = false) {σ : SG} {one_0 : Int} {two_0 : Int} {r : Int}  (H : fI_compareLimbs σ one_0 two_0 = some r) : en_S l E M_X7_compareLimbs 2 0 0 [vr 252, vi one_0, vi two_0] σ (pS (some (vi r)) σ) := by
  unfold fI_compareLimbs at H
  refine z_mk (lv := [some (vr 252), some (vi one_0), some (vi two_0), none]) m_X7_compareLimbs rfl hl (Nat.le_of_ble_eq_true rfl) rfl ?_
  refine z_aload_n (M := M_X7_compareLimbs) dX7_compareLimbs_0 rfl ?_
  refine z_getR (M := M_X7_compareLimbs) (ci := 10) (C := RX7) (T := TX7) (Nf := 5) (ty := tyX7) cl10 dX7_compareLimbs_1 ly_252 3 (by decide) t_550 rfl ?_
  refine z_iload_n (M := M_X7_compareLimbs) dX7_compareLimbs_4 rfl ?_
  obtain ⟨x_1, x_1_e, hi_2, H⟩ := rd_e H
  refine z_iald (M := M_X7_compareLimbs) dX7_compareLimbs_5 ly_272 rfl rfl rfl hi_2 x_1_e ?_
  refine z_aload_n (M := M_X7_compareLimbs) dX7_compareLimbs_6 rfl ?_
  refine z_getR (M := M_X7_compareLimbs) (ci := 10) (C := RX7) (T := TX7) (Nf := 5) (ty := tyX7) cl10 dX7_compareLimbs_7 ly_252 3 (by decide) t_550 rfl ?_
  refine z_iload_n (M := M_X7_compareLimbs) dX7_compareLimbs_10 rfl ?_
  obtain ⟨x_3, x_3_e, hi_4, H⟩ := rd_e H
  refine z_iald (M := M_X7_compareLimbs) dX7_compareLimbs_11 ly_272 rfl rfl rfl hi_4 x_3_e ?_
  refine z_mmax (M := M_X7_compareLimbs) dX7_compareLimbs_12 t_2336 t_1013 t_20 t_1014 (Nat.le_of_ble_eq_true rfl) (Nat.le_of_ble_eq_true rfl) (Nat.le_of_ble_eq_true rfl) (Nat.le_of_ble_eq_true rfl) ?_
  refine z_iconst (M := M_X7_compareLimbs) dX7_compareLimbs_15 ?_
  refine z_isub (M := M_X7_compareLimbs) dX7_compareLimbs_16 ?_
  refine z_istore_n (M := M_X7_compareLimbs) (lv' := [some (vr 252), some (vi one_0), some (vi two_0), some (vi ((q_mxi x_1 x_3) - 1))]) dX7_compareLimbs_17 (Nat.le_of_ble_eq_true rfl) rfl rfl ?_
  obtain ⟨rl_9, hw_6, hk_7, hk_8⟩ := bx_e H
  have J_34 : ∀ i_33, rl_9 = (.inl i_33) → YY l E M_X7_compareLimbs 2 0 0 (pS (some (vi r)) σ) 66 [some (vr 252), some (vi one_0), some (vi two_0), some (vi i_33)] [] σ 0 0 := by
    intro i_33 e
    have H := hk_7 _ e
    refine z_iconst (M := M_X7_compareLimbs) dX7_compareLimbs_66 ?_
    cases H
    exact z_iret (M := M_X7_compareLimbs) dX7_compareLimbs_67 rfl (Nat.le_of_ble_eq_true rfl) (Nat.le_of_ble_eq_true rfl) ⟨rfl, rfl⟩
  refine whl_go hw_6 (fun i_5 => YY l E M_X7_compareLimbs 2 0 0 (pS (some (vi r)) σ) 18 [some (vr 252), some (vi one_0), some (vi two_0), some (vi i_5)] [] σ 0 0) ?_
  rintro i_5 o_10 H K_11 K_12
  refine z_iload_n (M := M_X7_compareLimbs) dX7_compareLimbs_18 rfl ?_
  rcases if_e H with ⟨h_13, H⟩ | ⟨h_13, H⟩
  · refine z_if_lt_f (M := M_X7_compareLimbs) (tgt := 66) dX7_compareLimbs_19 (by decide) rfl h_13 ?_
    refine z_aload_n (M := M_X7_compareLimbs) dX7_compareLimbs_22 rfl ?_
    refine z_iload_n (M := M_X7_compareLimbs) dX7_compareLimbs_23 rfl ?_
    refine z_iload_n (M := M_X7_compareLimbs) dX7_compareLimbs_24 rfl ?_
    obtain ⟨x_15, hc_14, H⟩ := bd_e H
    refine z_callV (M := M_X7_compareLimbs) (M' := M_X7_limbAt) (as := [vi one_0, vi i_5]) (rest := []) rfl rfl dX7_compareLimbs_25 m_X7_limbAt t_2352 t_2354 s_153 (c_X7_limbAt hl  hc_14) rfl rfl ly_252 rfl (Nat.le_of_ble_eq_true rfl) (Nat.le_of_ble_eq_true rfl) (Nat.le_of_ble_eq_true rfl) (Nat.le_of_ble_eq_true rfl) ?_
    refine z_st (st' := [vl x_15]) rfl ?_
    refine z_aload_n (M := M_X7_compareLimbs) dX7_compareLimbs_28 rfl ?_
    refine z_iload_n (M := M_X7_compareLimbs) dX7_compareLimbs_29 rfl ?_
    refine z_iload_n (M := M_X7_compareLimbs) dX7_compareLimbs_30 rfl ?_
    obtain ⟨x_17, hc_16, H⟩ := bd_e H
    refine z_callV (M := M_X7_compareLimbs) (M' := M_X7_limbAt) (as := [vi two_0, vi i_5]) (rest := [vl x_15]) rfl rfl dX7_compareLimbs_31 m_X7_limbAt t_2352 t_2354 s_153 (c_X7_limbAt hl  hc_16) rfl rfl ly_252 rfl (Nat.le_of_ble_eq_true rfl) (Nat.le_of_ble_eq_true rfl) (Nat.le_of_ble_eq_true rfl) (Nat.le_of_ble_eq_true rfl) ?_
    refine z_st (st' := [vl x_17, vl x_15]) rfl ?_
    refine z_lcmp (M := M_X7_compareLimbs) dX7_compareLimbs_34 ?_
    rcases if_e H with ⟨h_18, H⟩ | ⟨h_18, H⟩
    · refine z_lif_eq_f (M := M_X7_compareLimbs) (tgt := 60) dX7_compareLimbs_35 (by decide) rfl rfl h_18 ?_
      obtain ⟨v_27, he_28, hk_29⟩ := bd_e H
      have J_30 : ∀ x_26, v_27 = x_26 → YY l E M_X7_compareLimbs 2 0 0 (pS (some (vi r)) σ) 59 [some (vr 252), some (vi one_0), some (vi two_0), some (vi i_5)] [vi x_26] σ 0 0 := by
        intro x_26 e
        have H := hk_29
        rw [e] at H
        have H := congrArg some (hk_8 _ ((K_12 _ (Option.some.inj H).symm).symm))
        cases H
        exact z_iret (M := M_X7_compareLimbs) dX7_compareLimbs_59 rfl (Nat.le_of_ble_eq_true rfl) (Nat.le_of_ble_eq_true rfl) ⟨rfl, rfl⟩
      have H := he_28
      refine z_aload_n (M := M_X7_compareLimbs) dX7_compareLimbs_38 rfl ?_
      refine z_iload_n (M := M_X7_compareLimbs) dX7_compareLimbs_39 rfl ?_
      refine z_iload_n (M := M_X7_compareLimbs) dX7_compareLimbs_40 rfl ?_
      obtain ⟨x_20, hc_19, H⟩ := bd_e H
      refine z_callV (M := M_X7_compareLimbs) (M' := M_X7_limbAt) (as := [vi one_0, vi i_5]) (rest := []) rfl rfl dX7_compareLimbs_41 m_X7_limbAt t_2352 t_2354 s_153 (c_X7_limbAt hl  hc_19) rfl rfl ly_252 rfl (Nat.le_of_ble_eq_true rfl) (Nat.le_of_ble_eq_true rfl) (Nat.le_of_ble_eq_true rfl) (Nat.le_of_ble_eq_true rfl) ?_
      refine z_st (st' := [vl x_20]) rfl ?_
      refine z_aload_n (M := M_X7_compareLimbs) dX7_compareLimbs_44 rfl ?_
      refine z_iload_n (M := M_X7_compareLimbs) dX7_compareLimbs_45 rfl ?_
      refine z_iload_n (M := M_X7_compareLimbs) dX7_compareLimbs_46 rfl ?_
      obtain ⟨x_22, hc_21, H⟩ := bd_e H
      refine z_callV (M := M_X7_compareLimbs) (M' := M_X7_limbAt) (as := [vi two_0, vi i_5]) (rest := [vl x_20]) rfl rfl dX7_compareLimbs_47 m_X7_limbAt t_2352 t_2354 s_153 (c_X7_limbAt hl  hc_21) rfl rfl ly_252 rfl (Nat.le_of_ble_eq_true rfl) (Nat.le_of_ble_eq_true rfl) (Nat.le_of_ble_eq_true rfl) (Nat.le_of_ble_eq_true rfl) ?_
      refine z_st (st' := [vl x_22, vl x_20]) rfl ?_
      refine z_lcmp (M := M_X7_compareLimbs) dX7_compareLimbs_50 ?_
      rcases if_e H with ⟨h_23, H⟩ | ⟨h_23, H⟩
      · refine z_lif_le_f (M := M_X7_compareLimbs) (tgt := 58) dX7_compareLimbs_51 (by decide) rfl rfl h_23 ?_
        refine z_iconst (M := M_X7_compareLimbs) dX7_compareLimbs_54 ?_
        refine z_goto (M := M_X7_compareLimbs) (tgt := 59) dX7_compareLimbs_55 (by decide) ?_
        exact J_30 _ (Option.some.inj H).symm
      · refine z_lif_le_t (M := M_X7_compareLimbs) (tgt := 58) dX7_compareLimbs_51 (by decide) rfl rfl (Int.not_lt.mp h_23) ?_
        refine z_iconst (M := M_X7_compareLimbs) dX7_compareLimbs_58 ?_
        exact J_30 _ (Option.some.inj H).symm
    · refine z_lif_eq_t (M := M_X7_compareLimbs) (tgt := 60) dX7_compareLimbs_35 (by decide) rfl rfl (Decidable.not_not.mp h_18) ?_
      refine z_iinc (M := M_X7_compareLimbs) (lv' := [some (vr 252), some (vi one_0), some (vi two_0), some (vi (i_5 + (-1)))]) dX7_compareLimbs_60 rfl (Nat.le_of_ble_eq_true rfl) rfl rfl ?_
      refine z_goto (M := M_X7_compareLimbs) (tgt := 18) dX7_compareLimbs_63 (by decide) ?_
      exact K_11 _ (Option.some.inj H).symm
  · refine z_if_lt_t (M := M_X7_compareLimbs) (tgt := 66) dX7_compareLimbs_19 (by decide) rfl (Int.not_le.mp h_13) ?_
    exact J_34 _ (K_12 _ (Option.some.inj H).symm).symm
theorem c_X7_trim (hl : l.stackTraces = false) {σ : SG} {register_0 : Int} {σ' : SG}  (H : fI_trim σ register_0 = some σ') : en_S l E M_X7_trim 1 0 0 [vr 252, vi register_0] σ (pS (none) σ') := by
  unfold fI_trim at H
  refine z_mk (lv := [some (vr 252), some (vi register_0)]) m_X7_trim rfl hl (Nat.le_of_ble_eq_true rfl) rfl ?_
  obtain ⟨rl_5, hw_2, hk_3⟩ := bd_e H
  have J_52 : ∀ σ_38, rl_5 = σ_38 → YY l E M_X7_trim 1 0 0 (pS (none) σ') 40 [some (vr 252), some (vi register_0)] [] σ_38 0 0 := by
    intro σ_38 e
    have H := hk_3
    rw [e] at H
    obtain ⟨v_42, he_39, hk_40⟩ := bd_e H
    have J_51 : ∀ σ_50, v_42 = σ_50 → YY l E M_X7_trim 1 0 0 (pS (none) σ') 56 [some (vr 252), some (vi register_0)] [] σ_50 0 0 := by
      intro σ_50 e
      have H := hk_40
      rw [e] at H
      cases H
      exact z_vret (M := M_X7_trim) dX7_trim_56 rfl (Nat.le_of_ble_eq_true rfl) (Nat.le_of_ble_eq_true rfl) ⟨rfl, rfl⟩
    have H := he_39
    refine z_aload_n (M := M_X7_trim) dX7_trim_40 rfl ?_
    refine z_getR (M := M_X7_trim) (ci := 10) (C := RX7) (T := TX7) (Nf := 5) (ty := tyX7) cl10 dX7_trim_41 ly_252 3 (by decide) t_550 rfl ?_
    refine z_iload_n (M := M_X7_trim) dX7_trim_44 rfl ?_
    obtain ⟨x_43, x_43_e, hi_44, H⟩ := rd_e H
    refine z_iald (M := M_X7_trim) dX7_trim_45 ly_272 rfl rfl rfl hi_44 x_43_e ?_
    rcases if_e H with ⟨h_45, H⟩ | ⟨h_45, H⟩
    · refine z_if_ne_f (M := M_X7_trim) (tgt := 56) dX7_trim_46 (by decide) rfl h_45 ?_
      refine z_aload_n (M := M_X7_trim) dX7_trim_49 rfl ?_
      refine z_getR (M := M_X7_trim) (ci := 10) (C := RX7) (T := TX7) (Nf := 5) (ty := tyX7) cl10 dX7_trim_50 ly_252 4 (by decide) t_551 rfl ?_
      refine z_iload_n (M := M_X7_trim) dX7_trim_53 rfl ?_
      refine z_iconst (M := M_X7_trim) dX7_trim_54 ?_
      obtain ⟨σ_46, σ_46_e, hi_47, H⟩ := wa_e H
      refine z_iast (M := M_X7_trim) dX7_trim_55 ly_273 rfl rfl rfl hi_47 σ_46_e ?_
      exact J_51 _ (Option.some.inj H).symm
    · refine z_if_ne_t (M := M_X7_trim) (tgt := 56) dX7_trim_46 (by decide) rfl h_45 ?_
      exact J_51 _ (Option.some.inj H).symm
  refine whl_go hw_2 (fun σ_1 => YY l E M_X7_trim 1 0 0 (pS (none) σ') 0 [some (vr 252), some (vi register_0)] [] σ_1 0 0) ?_
  rintro σ_1 o_6 H K_7 K_8
  refine z_aload_n (M := M_X7_trim) dX7_trim_0 rfl ?_
  refine z_getR (M := M_X7_trim) (ci := 10) (C := RX7) (T := TX7) (Nf := 5) (ty := tyX7) cl10 dX7_trim_1 ly_252 3 (by decide) t_550 rfl ?_
  refine z_iload_n (M := M_X7_trim) dX7_trim_4 rfl ?_
  obtain ⟨x_22, x_22_e, hi_23, H⟩ := rd_e H
  refine z_iald (M := M_X7_trim) dX7_trim_5 ly_272 rfl rfl rfl hi_23 x_22_e ?_
  rcases if_e H with ⟨h_24, H⟩ | ⟨h_24, H⟩
  · refine z_if_le_f (M := M_X7_trim) (tgt := 40) dX7_trim_6 (by decide) rfl h_24 ?_
    refine z_aload_n (M := M_X7_trim) dX7_trim_9 rfl ?_
    refine z_getR (M := M_X7_trim) (ci := 10) (C := RX7) (T := TX7) (Nf := 5) (ty := tyX7) cl10 dX7_trim_10 ly_252 2 (by decide) t_549 rfl ?_
    refine z_iload_n (M := M_X7_trim) dX7_trim_13 rfl ?_
    obtain ⟨hi_25, H⟩ := ck_e H
    refine z_gald (M := M_X7_trim) dX7_trim_14 ly_255 rfl rfl hi_25 (by rw [Nat.one_mul]) ?_
    refine z_aload_n (M := M_X7_trim) dX7_trim_15 rfl ?_
    refine z_getR (M := M_X7_trim) (ci := 10) (C := RX7) (T := TX7) (Nf := 5) (ty := tyX7) cl10 dX7_trim_16 ly_252 3 (by decide) t_550 rfl ?_
    refine z_iload_n (M := M_X7_trim) dX7_trim_19 rfl ?_
    obtain ⟨x_26, x_26_e, hi_27, H⟩ := rd_e H
    refine z_iald (M := M_X7_trim) dX7_trim_20 ly_272 rfl rfl rfl hi_27 x_26_e ?_
    refine z_iconst (M := M_X7_trim) dX7_trim_21 ?_
    refine z_isub (M := M_X7_trim) dX7_trim_22 ?_
    obtain ⟨x_28, x_28_e, hi_29, H⟩ := rd_e H
    refine z_iald (M := M_X7_trim) dX7_trim_23 (ly_B hi_25) rfl rfl rfl hi_29 x_28_e ?_
    rcases if_e H with ⟨h_30, H⟩ | ⟨h_30, H⟩
    · refine z_if_ne_f (M := M_X7_trim) (tgt := 40) dX7_trim_24 (by decide) rfl h_30 ?_
      refine z_aload_n (M := M_X7_trim) dX7_trim_27 rfl ?_
      refine z_getR (M := M_X7_trim) (ci := 10) (C := RX7) (T := TX7) (Nf := 5) (ty := tyX7) cl10 dX7_trim_28 ly_252 3 (by decide) t_550 rfl ?_
      refine z_iload_n (M := M_X7_trim) dX7_trim_31 rfl ?_
      refine z_dup2 (M := M_X7_trim) dX7_trim_32 rfl rfl ?_
      obtain ⟨x_31, x_31_e, hi_32, H⟩ := rd_e H
      refine z_iald (M := M_X7_trim) dX7_trim_33 ly_272 rfl rfl rfl hi_32 x_31_e ?_
      refine z_iconst (M := M_X7_trim) dX7_trim_34 ?_
      refine z_isub (M := M_X7_trim) dX7_trim_35 ?_
      obtain ⟨σ_33, σ_33_e, hi_34, H⟩ := wa_e H
      refine z_iast (M := M_X7_trim) dX7_trim_36 ly_272 rfl rfl rfl hi_34 σ_33_e ?_
      refine z_goto (M := M_X7_trim) (tgt := 0) dX7_trim_37 (by decide) ?_
      exact K_7 _ (Option.some.inj H).symm
    · refine z_if_ne_t (M := M_X7_trim) (tgt := 40) dX7_trim_24 (by decide) rfl h_30 ?_
      exact J_52 _ (K_8 _ (Option.some.inj H).symm).symm
  · refine z_if_le_t (M := M_X7_trim) (tgt := 40) dX7_trim_6 (by decide) rfl (Int.not_lt.mp h_24) ?_
    exact J_52 _ (K_8 _ (Option.some.inj H).symm).symm
theorem c_X7_addSigned (hl : l.stackTraces = false) {σ : SG} {to_0 : Int} {one_0 : Int} {two_0 : Int} {factor_0 : Int} {σ' : SG}  (H : fI_addSigned σ to_0 one_0 two_0 factor_0 = some σ') : en_S l E M_X7_addSigned 3 0 0 [vr 252, vi to_0, vi one_0, vi two_0, vi factor_0] σ (pS (none) σ') := by
  unfold fI_addSigned at H
  refine z_mk (lv := [some (vr 252), some (vi to_0), some (vi one_0), some (vi two_0), some (vi factor_0), none, none]) m_X7_addSigned rfl hl (Nat.le_of_ble_eq_true rfl) rfl ?_
  refine z_aload_n (M := M_X7_addSigned) dX7_addSigned_0 rfl ?_
  refine z_getR (M := M_X7_addSigned) (ci := 10) (C := RX7) (T := TX7) (Nf := 5) (ty := tyX7) cl10 dX7_addSigned_1 ly_252 4 (by decide) t_551 rfl ?_
  refine z_iload_n (M := M_X7_addSigned) dX7_addSigned_4 rfl ?_
  obtain ⟨x_1, x_1_e, hi_2, H⟩ := rd_e H
  refine z_iald (M := M_X7_addSigned) dX7_addSigned_5 ly_273 rfl rfl rfl hi_2 x_1_e ?_
  refine z_iload (M := M_X7_addSigned) dX7_addSigned_6 rfl ?_
  refine z_imul (M := M_X7_addSigned) dX7_addSigned_8 ?_
  refine z_istore (M := M_X7_addSigned) (lv' := [some (vr 252), some (vi to_0), some (vi one_0), some (vi two_0), some (vi factor_0), some (vi (x_1 * factor_0)), none]) dX7_addSigned_9 (Nat.le_of_ble_eq_true rfl) rfl rfl ?_
  obtain ⟨v_6, he_3, hk_4⟩ := bd_e H
  have J_52 : ∀ σ_49, v_6 = σ_49 → YY l E M_X7_addSigned 3 0 0 (pS (none) σ') 112 [some (vr 252), some (vi to_0), some (vi one_0), some (vi two_0), some (vi factor_0), some (vi (x_1 * factor_0)), none] [] σ_49 0 0 := by
    intro σ_49 e
    have H := hk_4
    rw [e] at H
    refine z_aload_n (M := M_X7_addSigned) dX7_addSigned_112 rfl ?_
    refine z_iload_n (M := M_X7_addSigned) dX7_addSigned_113 rfl ?_
    obtain ⟨σ_51, hc_50, H⟩ := bd_e H
    refine z_callV (M := M_X7_addSigned) (M' := M_X7_trim) (as := [vi to_0]) (rest := []) rfl rfl dX7_addSigned_114 m_X7_trim t_2339 t_2341 s_150 (c_X7_trim hl  hc_50) rfl rfl ly_252 rfl (Nat.le_of_ble_eq_true rfl) (Nat.le_of_ble_eq_true rfl) (Nat.le_of_ble_eq_true rfl) (Nat.le_of_ble_eq_true rfl) ?_
    refine z_st (st' := []) rfl ?_
    cases H
    exact z_vret (M := M_X7_addSigned) dX7_addSigned_117 rfl (Nat.le_of_ble_eq_true rfl) (Nat.le_of_ble_eq_true rfl) ⟨rfl, rfl⟩
  have H := he_3
  refine z_aload_n (M := M_X7_addSigned) dX7_addSigned_11 rfl ?_
  refine z_getR (M := M_X7_addSigned) (ci := 10) (C := RX7) (T := TX7) (Nf := 5) (ty := tyX7) cl10 dX7_addSigned_12 ly_252 4 (by decide) t_551 rfl ?_
  refine z_iload_n (M := M_X7_addSigned) dX7_addSigned_15 rfl ?_
  obtain ⟨x_7, x_7_e, hi_8, H⟩ := rd_e H
  refine z_iald (M := M_X7_addSigned) dX7_addSigned_16 ly_273 rfl rfl rfl hi_8 x_7_e ?_
  refine z_iload (M := M_X7_addSigned) dX7_addSigned_17 rfl ?_
  refine z_imul (M := M_X7_addSigned) dX7_addSigned_19 ?_
  rcases if_e H with ⟨h_9, H⟩ | ⟨h_9, H⟩
  · refine z_if_lt_f (M := M_X7_addSigned) (tgt := 64) dX7_addSigned_20 (by decide) rfl h_9 ?_
    obtain ⟨v_23, he_24, hk_25⟩ := bd_e H
    have J_26 : ∀ x_17, v_23 = x_17 → YY l E M_X7_addSigned 3 0 0 (pS (none) σ') 43 [some (vr 252), some (vi to_0), some (vi one_0), some (vi two_0), some (vi factor_0), some (vi (x_1 * factor_0)), none] [vi x_17] σ 0 0 := by
      intro x_17 e
      have H := hk_25
      rw [e] at H
      refine z_istore (M := M_X7_addSigned) (lv' := [some (vr 252), some (vi to_0), some (vi one_0), some (vi two_0), some (vi factor_0), some (vi (x_1 * factor_0)), some (vi x_17)]) dX7_addSigned_43 (Nat.le_of_ble_eq_true rfl) rfl rfl ?_
      refine z_aload_n (M := M_X7_addSigned) dX7_addSigned_45 rfl ?_
      refine z_iload_n (M := M_X7_addSigned) dX7_addSigned_46 rfl ?_
      refine z_iload_n (M := M_X7_addSigned) dX7_addSigned_47 rfl ?_
      refine z_iload_n (M := M_X7_addSigned) dX7_addSigned_48 rfl ?_
      refine z_iconst (M := M_X7_addSigned) dX7_addSigned_49 ?_
      obtain ⟨σ_19, hc_18, H⟩ := bd_e H
      refine z_callV (M := M_X7_addSigned) (M' := M_X7_addLimbs) (as := [vi to_0, vi one_0, vi two_0, vi 1]) (rest := []) rfl rfl dX7_addSigned_50 m_X7_addLimbs t_2347 t_2349 s_152 (c_X7_addLimbs hl  hc_18) rfl rfl ly_252 rfl (Nat.le_of_ble_eq_true rfl) (Nat.le_of_ble_eq_true rfl) (Nat.le_of_ble_eq_true rfl) (Nat.le_of_ble_eq_true rfl) ?_
      refine z_st (st' := []) rfl ?_
      refine z_aload_n (M := M_X7_addSigned) dX7_addSigned_53 rfl ?_
      refine z_getR (M := M_X7_addSigned) (ci := 10) (C := RX7) (T := TX7) (Nf := 5) (ty := tyX7) cl10 dX7_addSigned_54 ly_252 4 (by decide) t_551 rfl ?_
      refine z_iload_n (M := M_X7_addSigned) dX7_addSigned_57 rfl ?_
      refine z_iload (M := M_X7_addSigned) dX7_addSigned_58 rfl ?_
      obtain ⟨σ_20, σ_20_e, hi_21, H⟩ := wa_e H
      refine z_iast (M := M_X7_addSigned) dX7_addSigned_60 ly_273 rfl rfl rfl hi_21 σ_20_e ?_
      refine z_goto (M := M_X7_addSigned) (tgt := 112) dX7_addSigned_61 (by decide) ?_
      refine z_le (lv' := [some (vr 252), some (vi to_0), some (vi one_0), some (vi two_0), some (vi factor_0), some (vi (x_1 * factor_0)), none]) ⟨Or.inr rfl, Or.inr rfl, Or.inr rfl, Or.inr rfl, Or.inr rfl, Or.inr rfl, Or.inl rfl, trivial⟩ ?_
      exact J_52 _ (Option.some.inj H).symm
    have H := he_24
    refine z_aload_n (M := M_X7_addSigned) dX7_addSigned_23 rfl ?_
    refine z_getR (M := M_X7_addSigned) (ci := 10) (C := RX7) (T := TX7) (Nf := 5) (ty := tyX7) cl10 dX7_addSigned_24 ly_252 4 (by decide) t_551 rfl ?_
    refine z_iload_n (M := M_X7_addSigned) dX7_addSigned_27 rfl ?_
    obtain ⟨x_10, x_10_e, hi_11, H⟩ := rd_e H
    refine z_iald (M := M_X7_addSigned) dX7_addSigned_28 ly_273 rfl rfl rfl hi_11 x_10_e ?_
    rcases if_e H with ⟨h_12, H⟩ | ⟨h_12, H⟩
    · refine z_if_eq_f (M := M_X7_addSigned) (tgt := 41) dX7_addSigned_29 (by decide) rfl h_12 ?_
      refine z_aload_n (M := M_X7_addSigned) dX7_addSigned_32 rfl ?_
      refine z_getR (M := M_X7_addSigned) (ci := 10) (C := RX7) (T := TX7) (Nf := 5) (ty := tyX7) cl10 dX7_addSigned_33 ly_252 4 (by decide) t_551 rfl ?_
      refine z_iload_n (M := M_X7_addSigned) dX7_addSigned_36 rfl ?_
      obtain ⟨x_13, x_13_e, hi_14, H⟩ := rd_e H
      refine z_iald (M := M_X7_addSigned) dX7_addSigned_37 ly_273 rfl rfl rfl hi_14 x_13_e ?_
      refine z_goto (M := M_X7_addSigned) (tgt := 43) dX7_addSigned_38 (by decide) ?_
      exact J_26 _ (Option.some.inj H).symm
    · refine z_if_eq_t (M := M_X7_addSigned) (tgt := 41) dX7_addSigned_29 (by decide) rfl (Decidable.not_not.mp h_12) ?_
      refine z_iload (M := M_X7_addSigned) dX7_addSigned_41 rfl ?_
      exact J_26 _ (Option.some.inj H).symm
  · refine z_if_lt_t (M := M_X7_addSigned) (tgt := 64) dX7_addSigned_20 (by decide) rfl (Int.not_le.mp h_9) ?_
    obtain ⟨v_30, he_27, hk_28⟩ := bd_e H
    have J_48 : ∀ σ_46, v_30 = σ_46 → YY l E M_X7_addSigned 3 0 0 (pS (none) σ') 112 [some (vr 252), some (vi to_0), some (vi one_0), some (vi two_0), some (vi factor_0), some (vi (x_1 * factor_0)), none] [] σ_46 0 0 := by
      intro σ_46 e
      have H := hk_28
      rw [e] at H
      exact J_52 _ (Option.some.inj H).symm
    have H := he_27
    refine z_aload_n (M := M_X7_addSigned) dX7_addSigned_64 rfl ?_
    refine z_iload_n (M := M_X7_addSigned) dX7_addSigned_65 rfl ?_
    refine z_iload_n (M := M_X7_addSigned) dX7_addSigned_66 rfl ?_
    obtain ⟨x_32, hc_31, H⟩ := bd_e H
    refine z_callV (M := M_X7_addSigned) (M' := M_X7_compareLimbs) (as := [vi one_0, vi two_0]) (rest := []) rfl rfl dX7_addSigned_67 m_X7_compareLimbs t_2356 t_2358 s_154 (c_X7_compareLimbs hl  hc_31) rfl rfl ly_252 rfl (Nat.le_of_ble_eq_true rfl) (Nat.le_of_ble_eq_true rfl) (Nat.le_of_ble_eq_true rfl) (Nat.le_of_ble_eq_true rfl) ?_
    refine z_st (st' := [vi x_32]) rfl ?_
    rcases if_e H with ⟨h_33, H⟩ | ⟨h_33, H⟩
    · refine z_if_lt_f (M := M_X7_addSigned) (tgt := 96) dX7_addSigned_70 (by decide) rfl h_33 ?_
      refine z_aload_n (M := M_X7_addSigned) dX7_addSigned_73 rfl ?_
      refine z_getR (M := M_X7_addSigned) (ci := 10) (C := RX7) (T := TX7) (Nf := 5) (ty := tyX7) cl10 dX7_addSigned_74 ly_252 4 (by decide) t_551 rfl ?_
      refine z_iload_n (M := M_X7_addSigned) dX7_addSigned_77 rfl ?_
      refine z_aload_n (M := M_X7_addSigned) dX7_addSigned_78 rfl ?_
      refine z_getR (M := M_X7_addSigned) (ci := 10) (C := RX7) (T := TX7) (Nf := 5) (ty := tyX7) cl10 dX7_addSigned_79 ly_252 4 (by decide) t_551 rfl ?_
      refine z_iload_n (M := M_X7_addSigned) dX7_addSigned_82 rfl ?_
      obtain ⟨x_34, x_34_e, hi_35, H⟩ := rd_e H
      refine z_iald (M := M_X7_addSigned) dX7_addSigned_83 ly_273 rfl rfl rfl hi_35 x_34_e ?_
      obtain ⟨σ_36, σ_36_e, hi_37, H⟩ := wa_e H
      refine z_iast (M := M_X7_addSigned) dX7_addSigned_84 ly_273 rfl rfl rfl hi_37 σ_36_e ?_
      refine z_aload_n (M := M_X7_addSigned) dX7_addSigned_85 rfl ?_
      refine z_iload_n (M := M_X7_addSigned) dX7_addSigned_86 rfl ?_
      refine z_iload_n (M := M_X7_addSigned) dX7_addSigned_87 rfl ?_
      refine z_iload_n (M := M_X7_addSigned) dX7_addSigned_88 rfl ?_
      refine z_iconst (M := M_X7_addSigned) dX7_addSigned_89 ?_
      obtain ⟨σ_39, hc_38, H⟩ := bd_e H
      refine z_callV (M := M_X7_addSigned) (M' := M_X7_addLimbs) (as := [vi to_0, vi one_0, vi two_0, vi (-1)]) (rest := []) rfl rfl dX7_addSigned_90 m_X7_addLimbs t_2347 t_2349 s_152 (c_X7_addLimbs hl  hc_38) rfl rfl ly_252 rfl (Nat.le_of_ble_eq_true rfl) (Nat.le_of_ble_eq_true rfl) (Nat.le_of_ble_eq_true rfl) (Nat.le_of_ble_eq_true rfl) ?_
      refine z_st (st' := []) rfl ?_
      refine z_goto (M := M_X7_addSigned) (tgt := 112) dX7_addSigned_93 (by decide) ?_
      exact J_48 _ (Option.some.inj H).symm
    · refine z_if_lt_t (M := M_X7_addSigned) (tgt := 96) dX7_addSigned_70 (by decide) rfl (Int.not_le.mp h_33) ?_
      refine z_aload_n (M := M_X7_addSigned) dX7_addSigned_96 rfl ?_
      refine z_getR (M := M_X7_addSigned) (ci := 10) (C := RX7) (T := TX7) (Nf := 5) (ty := tyX7) cl10 dX7_addSigned_97 ly_252 4 (by decide) t_551 rfl ?_
      refine z_iload_n (M := M_X7_addSigned) dX7_addSigned_100 rfl ?_
      refine z_iload (M := M_X7_addSigned) dX7_addSigned_101 rfl ?_
      obtain ⟨σ_41, σ_41_e, hi_42, H⟩ := wa_e H
      refine z_iast (M := M_X7_addSigned) dX7_addSigned_103 ly_273 rfl rfl rfl hi_42 σ_41_e ?_
      refine z_aload_n (M := M_X7_addSigned) dX7_addSigned_104 rfl ?_
      refine z_iload_n (M := M_X7_addSigned) dX7_addSigned_105 rfl ?_
      refine z_iload_n (M := M_X7_addSigned) dX7_addSigned_106 rfl ?_
      refine z_iload_n (M := M_X7_addSigned) dX7_addSigned_107 rfl ?_
      refine z_iconst (M := M_X7_addSigned) dX7_addSigned_108 ?_
      obtain ⟨σ_44, hc_43, H⟩ := bd_e H
      refine z_callV (M := M_X7_addSigned) (M' := M_X7_addLimbs) (as := [vi to_0, vi two_0, vi one_0, vi (-1)]) (rest := []) rfl rfl dX7_addSigned_109 m_X7_addLimbs t_2347 t_2349 s_152 (c_X7_addLimbs hl  hc_43) rfl rfl ly_252 rfl (Nat.le_of_ble_eq_true rfl) (Nat.le_of_ble_eq_true rfl) (Nat.le_of_ble_eq_true rfl) (Nat.le_of_ble_eq_true rfl) ?_
      refine z_st (st' := []) rfl ?_
      exact J_48 _ (Option.some.inj H).symm
theorem c_X7_load (hl : l.stackTraces = false) {σ : SG} {to_0 : Int} {bits_0 : Int} {σ' : SG}  (H : fI_load σ to_0 bits_0 = some σ') : en_S l E M_X7_load 3 0 0 [vr 252, vi to_0, vl bits_0] σ (pS (none) σ') := by
  unfold fI_load at H
  refine z_mk (lv := [some (vr 252), some (vi to_0), some (vl bits_0), none, none, none, none, none, none, none, none, none, none, none]) m_X7_load rfl hl (Nat.le_of_ble_eq_true rfl) rfl ?_
  refine z_lload_n (M := M_X7_load) dX7_load_0 rfl ?_
  refine z_bipush (M := M_X7_load) dX7_load_1 (by decide +kernel) ?_
  refine z_lushr (M := M_X7_load) dX7_load_3 ?_
  refine z_l2i (M := M_X7_load) dX7_load_4 ?_
  refine z_sipush (M := M_X7_load) dX7_load_5 (by decide +kernel) ?_
  refine z_iand (M := M_X7_load) dX7_load_8 ?_
  refine z_istore (M := M_X7_load) (lv' := [some (vr 252), some (vi to_0), some (vl bits_0), none, some (vi (q_ian (q_lus bits_0 52) 2047)), none, none, none, none, none, none, none, none, none]) dX7_load_9 (Nat.le_of_ble_eq_true rfl) rfl rfl ?_
  have J_1 : YY l E M_X7_load 3 0 0 (pS (none) σ') 35 [some (vr 252), some (vi to_0), some (vl bits_0), none, some (vi (q_ian (q_lus bits_0 52) 2047)), none, none, none, none, none, none, none, none, none] [vl (if (w32 (q_ian (q_lus bits_0 52) 2047)) = 0 then (q_lan bits_0 4503599627370495) else (((q_lan bits_0 4503599627370495) + 4503599627370495) + 1))] σ 0 0 := by
    obtain ⟨x_2, x_2_e, H⟩ := lt_e H
    refine z_st (congrArg (fun z => vl z :: []) x_2_e) ?_
    refine z_lstore (M := M_X7_load) (lv' := [some (vr 252), some (vi to_0), some (vl bits_0), none, some (vi (q_ian (q_lus bits_0 52) 2047)), some (vl x_2), none, none, none, none, none, none, none, none]) dX7_load_35 (Nat.le_of_ble_eq_true rfl) rfl rfl ?_
    refine z_iload (M := M_X7_load) dX7_load_37 rfl ?_
    refine z_iconst (M := M_X7_load) dX7_load_39 ?_
    refine z_isub (M := M_X7_load) dX7_load_40 ?_
    refine z_iconst (M := M_X7_load) dX7_load_41 ?_
    refine z_mmax (M := M_X7_load) dX7_load_42 t_2336 t_1013 t_20 t_1014 (Nat.le_of_ble_eq_true rfl) (Nat.le_of_ble_eq_true rfl) (Nat.le_of_ble_eq_true rfl) (Nat.le_of_ble_eq_true rfl) ?_
    refine z_istore (M := M_X7_load) (lv' := [some (vr 252), some (vi to_0), some (vl bits_0), none, some (vi (q_ian (q_lus bits_0 52) 2047)), some (vl x_2), none, some (vi (q_mxi ((q_ian (q_lus bits_0 52) 2047) - 1) 0)), none, none, none, none, none, none]) dX7_load_45 (Nat.le_of_ble_eq_true rfl) rfl rfl ?_
    refine z_iload (M := M_X7_load) dX7_load_47 rfl ?_
    refine z_iconst (M := M_X7_load) dX7_load_49 ?_
    refine z_ishr (M := M_X7_load) dX7_load_50 ?_
    refine z_istore (M := M_X7_load) (lv' := [some (vr 252), some (vi to_0), some (vl bits_0), none, some (vi (q_ian (q_lus bits_0 52) 2047)), some (vl x_2), none, some (vi (q_mxi ((q_ian (q_lus bits_0 52) 2047) - 1) 0)), some (vi (q_isr (q_mxi ((q_ian (q_lus bits_0 52) 2047) - 1) 0) 5)), none, none, none, none, none]) dX7_load_51 (Nat.le_of_ble_eq_true rfl) rfl rfl ?_
    refine z_iload (M := M_X7_load) dX7_load_53 rfl ?_
    refine z_bipush (M := M_X7_load) dX7_load_55 (by decide +kernel) ?_
    refine z_iand (M := M_X7_load) dX7_load_57 ?_
    obtain ⟨x_3, x_3_e, H⟩ := lt_e H
    refine z_st (congrArg (fun z => vi z :: []) x_3_e) ?_
    refine z_istore (M := M_X7_load) (lv' := [some (vr 252), some (vi to_0), some (vl bits_0), none, some (vi (q_ian (q_lus bits_0 52) 2047)), some (vl x_2), none, some (vi (q_mxi ((q_ian (q_lus bits_0 52) 2047) - 1) 0)), some (vi (q_isr (q_mxi ((q_ian (q_lus bits_0 52) 2047) - 1) 0) 5)), some (vi x_3), none, none, none, none]) dX7_load_58 (Nat.le_of_ble_eq_true rfl) rfl rfl ?_
    refine z_aload_n (M := M_X7_load) dX7_load_60 rfl ?_
    refine z_getR (M := M_X7_load) (ci := 10) (C := RX7) (T := TX7) (Nf := 5) (ty := tyX7) cl10 dX7_load_61 ly_252 2 (by decide) t_549 rfl ?_
    refine z_iload_n (M := M_X7_load) dX7_load_64 rfl ?_
    obtain ⟨hi_4, H⟩ := ck_e H
    refine z_gald (M := M_X7_load) dX7_load_65 ly_255 rfl rfl hi_4 (by rw [Nat.one_mul]) ?_
    refine z_iconst (M := M_X7_load) dX7_load_66 ?_
    refine z_iload (M := M_X7_load) dX7_load_67 rfl ?_
    refine z_iconst (M := M_X7_load) dX7_load_69 ?_
    refine z_iadd (M := M_X7_load) dX7_load_70 ?_
    refine z_iconst (M := M_X7_load) dX7_load_71 ?_
    obtain ⟨σ_6, hc_5, H⟩ := bd_e H
    refine z_callS (M := M_X7_load) (M' := M_J7_fill_fda19) (as := [vr (256 + (w32 to_0).toNat), vi 0, vi ((q_isr (q_mxi ((q_ian (q_lus bits_0 52) 2047) - 1) 0) 5) + 3), vi 0]) (rest := []) rfl rfl dX7_load_72 m_J7_fill_fda19 t_2337 t_1522 (c_J7_fill_fda19 hl (ly_B hi_4) hc_5) rfl rfl (Nat.le_of_ble_eq_true rfl) (Nat.le_of_ble_eq_true rfl) (Nat.le_of_ble_eq_true rfl) (Nat.le_of_ble_eq_true rfl) ?_
    refine z_st (st' := []) rfl ?_
    refine z_lload (M := M_X7_load) dX7_load_75 rfl ?_
    refine z_ldc2 (M := M_X7_load) (n := 4294967295) dX7_load_77 t_2338 (by decide +kernel) ?_
    refine z_land (M := M_X7_load) dX7_load_80 ?_
    refine z_iload (M := M_X7_load) dX7_load_81 rfl ?_
    refine z_lshl (M := M_X7_load) dX7_load_83 ?_
    refine z_lstore (M := M_X7_load) (lv' := [some (vr 252), some (vi to_0), some (vl bits_0), none, some (vi (q_ian (q_lus bits_0 52) 2047)), some (vl x_2), none, some (vi (q_mxi ((q_ian (q_lus bits_0 52) 2047) - 1) 0)), some (vi (q_isr (q_mxi ((q_ian (q_lus bits_0 52) 2047) - 1) 0) 5)), some (vi x_3), some (vl (q_lsl (q_lan x_2 4294967295) x_3)), none, none, none]) dX7_load_84 (Nat.le_of_ble_eq_true rfl) rfl rfl ?_
    refine z_lload (M := M_X7_load) dX7_load_86 rfl ?_
    refine z_bipush (M := M_X7_load) dX7_load_88 (by decide +kernel) ?_
    refine z_lushr (M := M_X7_load) dX7_load_90 ?_
    refine z_iload (M := M_X7_load) dX7_load_91 rfl ?_
    refine z_lshl (M := M_X7_load) dX7_load_93 ?_
    refine z_lload (M := M_X7_load) dX7_load_94 rfl ?_
    refine z_bipush (M := M_X7_load) dX7_load_96 (by decide +kernel) ?_
    refine z_lushr (M := M_X7_load) dX7_load_98 ?_
    refine z_ladd (M := M_X7_load) dX7_load_99 ?_
    obtain ⟨x_7, x_7_e, H⟩ := lt_e H
    refine z_st (congrArg (fun z => vl z :: []) x_7_e) ?_
    refine z_lstore (M := M_X7_load) (lv' := [some (vr 252), some (vi to_0), some (vl bits_0), none, some (vi (q_ian (q_lus bits_0 52) 2047)), some (vl x_2), none, some (vi (q_mxi ((q_ian (q_lus bits_0 52) 2047) - 1) 0)), some (vi (q_isr (q_mxi ((q_ian (q_lus bits_0 52) 2047) - 1) 0) 5)), some (vi x_3), some (vl (q_lsl (q_lan x_2 4294967295) x_3)), none, some (vl x_7), none]) dX7_load_100 (Nat.le_of_ble_eq_true rfl) rfl rfl ?_
    refine z_aload_n (M := M_X7_load) dX7_load_102 rfl ?_
    refine z_getR (M := M_X7_load) (ci := 10) (C := RX7) (T := TX7) (Nf := 5) (ty := tyX7) cl10 dX7_load_103 ly_252 2 (by decide) t_549 rfl ?_
    refine z_iload_n (M := M_X7_load) dX7_load_106 rfl ?_
    obtain ⟨hi_8, H⟩ := ck_e H
    refine z_gald (M := M_X7_load) dX7_load_107 ly_255 rfl rfl hi_8 (by rw [Nat.one_mul]) ?_
    refine z_iload (M := M_X7_load) dX7_load_108 rfl ?_
    refine z_lload (M := M_X7_load) dX7_load_110 rfl ?_
    refine z_l2i (M := M_X7_load) dX7_load_112 ?_
    obtain ⟨σ_9, σ_9_e, hi_10, H⟩ := wa_e H
    refine z_iast (M := M_X7_load) dX7_load_113 (ly_B hi_8) rfl rfl rfl hi_10 σ_9_e ?_
    refine z_aload_n (M := M_X7_load) dX7_load_114 rfl ?_
    refine z_getR (M := M_X7_load) (ci := 10) (C := RX7) (T := TX7) (Nf := 5) (ty := tyX7) cl10 dX7_load_115 ly_252 2 (by decide) t_549 rfl ?_
    refine z_iload_n (M := M_X7_load) dX7_load_118 rfl ?_
    obtain ⟨hi_11, H⟩ := ck_e H
    refine z_gald (M := M_X7_load) dX7_load_119 ly_255 rfl rfl hi_11 (by rw [Nat.one_mul]) ?_
    refine z_iload (M := M_X7_load) dX7_load_120 rfl ?_
    refine z_iconst (M := M_X7_load) dX7_load_122 ?_
    refine z_iadd (M := M_X7_load) dX7_load_123 ?_
    refine z_lload (M := M_X7_load) dX7_load_124 rfl ?_
    refine z_l2i (M := M_X7_load) dX7_load_126 ?_
    obtain ⟨σ_12, σ_12_e, hi_13, H⟩ := wa_e H
    refine z_iast (M := M_X7_load) dX7_load_127 (ly_B hi_11) rfl rfl rfl hi_13 σ_12_e ?_
    refine z_aload_n (M := M_X7_load) dX7_load_128 rfl ?_
    refine z_getR (M := M_X7_load) (ci := 10) (C := RX7) (T := TX7) (Nf := 5) (ty := tyX7) cl10 dX7_load_129 ly_252 2 (by decide) t_549 rfl ?_
    refine z_iload_n (M := M_X7_load) dX7_load_132 rfl ?_
    obtain ⟨hi_14, H⟩ := ck_e H
    refine z_gald (M := M_X7_load) dX7_load_133 ly_255 rfl rfl hi_14 (by rw [Nat.one_mul]) ?_
    refine z_iload (M := M_X7_load) dX7_load_134 rfl ?_
    refine z_iconst (M := M_X7_load) dX7_load_136 ?_
    refine z_iadd (M := M_X7_load) dX7_load_137 ?_
    refine z_lload (M := M_X7_load) dX7_load_138 rfl ?_
    refine z_bipush (M := M_X7_load) dX7_load_140 (by decide +kernel) ?_
    refine z_lushr (M := M_X7_load) dX7_load_142 ?_
    refine z_l2i (M := M_X7_load) dX7_load_143 ?_
    obtain ⟨σ_15, σ_15_e, hi_16, H⟩ := wa_e H
    refine z_iast (M := M_X7_load) dX7_load_144 (ly_B hi_14) rfl rfl rfl hi_16 σ_15_e ?_
    refine z_aload_n (M := M_X7_load) dX7_load_145 rfl ?_
    refine z_getR (M := M_X7_load) (ci := 10) (C := RX7) (T := TX7) (Nf := 5) (ty := tyX7) cl10 dX7_load_146 ly_252 3 (by decide) t_550 rfl ?_
    refine z_iload_n (M := M_X7_load) dX7_load_149 rfl ?_
    refine z_iload (M := M_X7_load) dX7_load_150 rfl ?_
    refine z_iconst (M := M_X7_load) dX7_load_152 ?_
    refine z_iadd (M := M_X7_load) dX7_load_153 ?_
    obtain ⟨σ_17, σ_17_e, hi_18, H⟩ := wa_e H
    refine z_iast (M := M_X7_load) dX7_load_154 ly_272 rfl rfl rfl hi_18 σ_17_e ?_
    refine z_aload_n (M := M_X7_load) dX7_load_155 rfl ?_
    refine z_getR (M := M_X7_load) (ci := 10) (C := RX7) (T := TX7) (Nf := 5) (ty := tyX7) cl10 dX7_load_156 ly_252 4 (by decide) t_551 rfl ?_
    refine z_iload_n (M := M_X7_load) dX7_load_159 rfl ?_
    have J_19 : YY l E M_X7_load 3 0 0 (pS (none) σ') 171 [some (vr 252), some (vi to_0), some (vl bits_0), none, some (vi (q_ian (q_lus bits_0 52) 2047)), some (vl x_2), none, some (vi (q_mxi ((q_ian (q_lus bits_0 52) 2047) - 1) 0)), some (vi (q_isr (q_mxi ((q_ian (q_lus bits_0 52) 2047) - 1) 0) 5)), some (vi x_3), some (vl (q_lsl (q_lan x_2 4294967295) x_3)), none, some (vl x_7), none] [vi (if (w64 bits_0) < 0 then (-1) else 1), vi to_0, vr 273] σ_17 0 0 := by
      obtain ⟨σ_20, σ_20_e, hi_21, H⟩ := wa_e H
      refine z_iast (M := M_X7_load) dX7_load_171 ly_273 rfl rfl rfl hi_21 σ_20_e ?_
      refine z_aload_n (M := M_X7_load) dX7_load_172 rfl ?_
      refine z_iload_n (M := M_X7_load) dX7_load_173 rfl ?_
      obtain ⟨σ_23, hc_22, H⟩ := bd_e H
      refine z_callV (M := M_X7_load) (M' := M_X7_trim) (as := [vi to_0]) (rest := []) rfl rfl dX7_load_174 m_X7_trim t_2339 t_2341 s_150 (c_X7_trim hl  hc_22) rfl rfl ly_252 rfl (Nat.le_of_ble_eq_true rfl) (Nat.le_of_ble_eq_true rfl) (Nat.le_of_ble_eq_true rfl) (Nat.le_of_ble_eq_true rfl) ?_
      refine z_st (st' := []) rfl ?_
      cases H
      exact z_vret (M := M_X7_load) dX7_load_177 rfl (Nat.le_of_ble_eq_true rfl) (Nat.le_of_ble_eq_true rfl) ⟨rfl, rfl⟩
    refine z_lload_n (M := M_X7_load) dX7_load_160 rfl ?_
    refine z_lconst (M := M_X7_load) (m := 0) dX7_load_161 (by decide +kernel) ?_
    refine z_lcmp (M := M_X7_load) dX7_load_162 ?_
    by_cases h_24 : (w64 bits_0) < 0
    · refine z_lif_ge_f (M := M_X7_load) (tgt := 170) dX7_load_163 (by decide) rfl (by decide +kernel) h_24 ?_
      refine z_iconst (M := M_X7_load) dX7_load_166 ?_
      refine z_goto (M := M_X7_load) (tgt := 171) dX7_load_167 (by decide) ?_
      exact z_st (by rw [if_pos (c := (w64 bits_0) < 0) h_24]) J_19
    · refine z_lif_ge_t (M := M_X7_load) (tgt := 170) dX7_load_163 (by decide) rfl (by decide +kernel) (Int.not_lt.mp h_24) ?_
      refine z_iconst (M := M_X7_load) dX7_load_170 ?_
      exact z_st (by rw [if_neg (c := (w64 bits_0) < 0) h_24]) J_19
  refine z_iload (M := M_X7_load) dX7_load_11 rfl ?_
  by_cases h_25 : (w32 (q_ian (q_lus bits_0 52) 2047)) = 0
  · refine z_if_ne_f (M := M_X7_load) (tgt := 24) dX7_load_13 (by decide) rfl h_25 ?_
    refine z_lload_n (M := M_X7_load) dX7_load_16 rfl ?_
    refine z_ldc2 (M := M_X7_load) (n := 4503599627370495) dX7_load_17 t_2335 (by decide +kernel) ?_
    refine z_land (M := M_X7_load) dX7_load_20 ?_
    refine z_goto (M := M_X7_load) (tgt := 35) dX7_load_21 (by decide) ?_
    exact z_st (by rw [if_pos (c := (w32 (q_ian (q_lus bits_0 52) 2047)) = 0) h_25]) J_1
  · refine z_if_ne_t (M := M_X7_load) (tgt := 24) dX7_load_13 (by decide) rfl h_25 ?_
    refine z_lload_n (M := M_X7_load) dX7_load_24 rfl ?_
    refine z_ldc2 (M := M_X7_load) (n := 4503599627370495) dX7_load_25 t_2335 (by decide +kernel) ?_
    refine z_land (M := M_X7_load) dX7_load_28 ?_
    refine z_ldc2 (M := M_X7_load) (n := 4503599627370495) dX7_load_29 t_2335 (by decide +kernel) ?_
    refine z_ladd (M := M_X7_load) dX7_load_32 ?_
    refine z_lconst (M := M_X7_load) (m := 1) dX7_load_33 (by decide +kernel) ?_
    refine z_ladd (M := M_X7_load) dX7_load_34 ?_
    exact z_st (by rw [if_neg (c := (w32 (q_ian (q_lus bits_0 52) 2047)) = 0) h_25]) J_1
theorem c_X7_difference (hl : l.stackTraces = false) {σ : SG} {to_0 : Int} {bits_0 : Int} {less_0 : Int} {σ' : SG}  (H : fI_difference σ to_0 bits_0 less_0 = some σ') : en_S l E M_X7_difference 4 0 0 [vr 252, vi to_0, vl bits_0, vl less_0] σ (pS (none) σ') := by
  unfold fI_difference at H
  refine z_mk (lv := [some (vr 252), some (vi to_0), some (vl bits_0), none, some (vl less_0), none]) m_X7_difference rfl hl (Nat.le_of_ble_eq_true rfl) rfl ?_
  refine z_aload_n (M := M_X7_difference) dX7_difference_0 rfl ?_
  refine z_iconst (M := M_X7_difference) dX7_difference_1 ?_
  refine z_lload_n (M := M_X7_difference) dX7_difference_2 rfl ?_
  obtain ⟨σ_2, hc_1, H⟩ := bd_e H
  refine z_callV (M := M_X7_difference) (M' := M_X7_load) (as := [vi 0, vl bits_0]) (rest := []) rfl rfl dX7_difference_3 m_X7_load t_2331 t_2333 s_149 (c_X7_load hl  hc_1) rfl rfl ly_252 rfl (Nat.le_of_ble_eq_true rfl) (Nat.le_of_ble_eq_true rfl) (Nat.le_of_ble_eq_true rfl) (Nat.le_of_ble_eq_true rfl) ?_
  refine z_st (st' := []) rfl ?_
  refine z_aload_n (M := M_X7_difference) dX7_difference_6 rfl ?_
  refine z_iconst (M := M_X7_difference) dX7_difference_7 ?_
  refine z_lload (M := M_X7_difference) dX7_difference_8 rfl ?_
  obtain ⟨σ_4, hc_3, H⟩ := bd_e H
  refine z_callV (M := M_X7_difference) (M' := M_X7_load) (as := [vi 1, vl less_0]) (rest := []) rfl rfl dX7_difference_10 m_X7_load t_2331 t_2333 s_149 (c_X7_load hl  hc_3) rfl rfl ly_252 rfl (Nat.le_of_ble_eq_true rfl) (Nat.le_of_ble_eq_true rfl) (Nat.le_of_ble_eq_true rfl) (Nat.le_of_ble_eq_true rfl) ?_
  refine z_st (st' := []) rfl ?_
  refine z_aload_n (M := M_X7_difference) dX7_difference_13 rfl ?_
  refine z_iload_n (M := M_X7_difference) dX7_difference_14 rfl ?_
  refine z_iconst (M := M_X7_difference) dX7_difference_15 ?_
  refine z_iconst (M := M_X7_difference) dX7_difference_16 ?_
  refine z_iconst (M := M_X7_difference) dX7_difference_17 ?_
  obtain ⟨σ_6, hc_5, H⟩ := bd_e H
  refine z_callV (M := M_X7_difference) (M' := M_X7_addSigned) (as := [vi to_0, vi 0, vi 1, vi (-1)]) (rest := []) rfl rfl dX7_difference_18 m_X7_addSigned t_2343 t_2345 s_151 (c_X7_addSigned hl  hc_5) rfl rfl ly_252 rfl (Nat.le_of_ble_eq_true rfl) (Nat.le_of_ble_eq_true rfl) (Nat.le_of_ble_eq_true rfl) (Nat.le_of_ble_eq_true rfl) ?_
  refine z_st (st' := []) rfl ?_
  cases H
  exact z_vret (M := M_X7_difference) dX7_difference_21 rfl (Nat.le_of_ble_eq_true rfl) (Nat.le_of_ble_eq_true rfl) ⟨rfl, rfl⟩
theorem c_X7_multiply (hl : l.stackTraces = false) {σ : SG} {to_0 : Int} {one_0 : Int} {two_0 : Int} {σ' : SG}  (H : fI_multiply σ to_0 one_0 two_0 = some σ') : en_S l E M_X7_multiply 3 0 0 [vr 252, vi to_0, vi one_0, vi two_0] σ (pS (none) σ') := by
  unfold fI_multiply at H
  refine z_mk (lv := [some (vr 252), some (vi to_0), some (vi one_0), some (vi two_0), none, none, none, none, none, none, none, none, none]) m_X7_multiply rfl hl (Nat.le_of_ble_eq_true rfl) rfl ?_
  refine z_aload_n (M := M_X7_multiply) dX7_multiply_0 rfl ?_
  refine z_getR (M := M_X7_multiply) (ci := 10) (C := RX7) (T := TX7) (Nf := 5) (ty := tyX7) cl10 dX7_multiply_1 ly_252 3 (by decide) t_550 rfl ?_
  refine z_iload_n (M := M_X7_multiply) dX7_multiply_4 rfl ?_
  obtain ⟨x_1, x_1_e, hi_2, H⟩ := rd_e H
  refine z_iald (M := M_X7_multiply) dX7_multiply_5 ly_272 rfl rfl rfl hi_2 x_1_e ?_
  refine z_aload_n (M := M_X7_multiply) dX7_multiply_6 rfl ?_
  refine z_getR (M := M_X7_multiply) (ci := 10) (C := RX7) (T := TX7) (Nf := 5) (ty := tyX7) cl10 dX7_multiply_7 ly_252 3 (by decide) t_550 rfl ?_
  refine z_iload_n (M := M_X7_multiply) dX7_multiply_10 rfl ?_
  obtain ⟨x_3, x_3_e, hi_4, H⟩ := rd_e H
  refine z_iald (M := M_X7_multiply) dX7_multiply_11 ly_272 rfl rfl rfl hi_4 x_3_e ?_
  refine z_iadd (M := M_X7_multiply) dX7_multiply_12 ?_
  refine z_sipush (M := M_X7_multiply) dX7_multiply_13 (by decide +kernel) ?_
  refine z_mmin (M := M_X7_multiply) dX7_multiply_16 t_2351 t_626 t_20 t_627 (Nat.le_of_ble_eq_true rfl) (Nat.le_of_ble_eq_true rfl) (Nat.le_of_ble_eq_true rfl) (Nat.le_of_ble_eq_true rfl) ?_
  refine z_istore (M := M_X7_multiply) (lv' := [some (vr 252), some (vi to_0), some (vi one_0), some (vi two_0), some (vi (q_mni (x_1 + x_3) 280)), none, none, none, none, none, none, none, none]) dX7_multiply_19 (Nat.le_of_ble_eq_true rfl) rfl rfl ?_
  refine z_aload_n (M := M_X7_multiply) dX7_multiply_21 rfl ?_
  refine z_getR (M := M_X7_multiply) (ci := 10) (C := RX7) (T := TX7) (Nf := 5) (ty := tyX7) cl10 dX7_multiply_22 ly_252 2 (by decide) t_549 rfl ?_
  refine z_iload_n (M := M_X7_multiply) dX7_multiply_25 rfl ?_
  obtain ⟨hi_5, H⟩ := ck_e H
  refine z_gald (M := M_X7_multiply) dX7_multiply_26 ly_255 rfl rfl hi_5 (by rw [Nat.one_mul]) ?_
  refine z_iconst (M := M_X7_multiply) dX7_multiply_27 ?_
  refine z_iload (M := M_X7_multiply) dX7_multiply_28 rfl ?_
  refine z_iconst (M := M_X7_multiply) dX7_multiply_30 ?_
  obtain ⟨σ_7, hc_6, H⟩ := bd_e H
  refine z_callS (M := M_X7_multiply) (M' := M_J7_fill_fda19) (as := [vr (256 + (w32 to_0).toNat), vi 0, vi (q_mni (x_1 + x_3) 280), vi 0]) (rest := []) rfl rfl dX7_multiply_31 m_J7_fill_fda19 t_2337 t_1522 (c_J7_fill_fda19 hl (ly_B hi_5) hc_6) rfl rfl (Nat.le_of_ble_eq_true rfl) (Nat.le_of_ble_eq_true rfl) (Nat.le_of_ble_eq_true rfl) (Nat.le_of_ble_eq_true rfl) ?_
  refine z_st (st' := []) rfl ?_
  refine z_iconst (M := M_X7_multiply) dX7_multiply_34 ?_
  refine z_istore (M := M_X7_multiply) (lv' := [some (vr 252), some (vi to_0), some (vi one_0), some (vi two_0), some (vi (q_mni (x_1 + x_3) 280)), some (vi 0), none, none, none, none, none, none, none]) dX7_multiply_35 (Nat.le_of_ble_eq_true rfl) rfl rfl ?_
  obtain ⟨rl_13, hw_10, hk_11⟩ := bd_e H
  have J_76 : ∀ i_64 σ_65, rl_13 = (i_64, σ_65) → YY l E M_X7_multiply 3 0 0 (pS (none) σ') 161 [some (vr 252), some (vi to_0), some (vi one_0), some (vi two_0), some (vi (q_mni (x_1 + x_3) 280)), some (vi i_64), none, none, none, none, none, none, none] [] σ_65 0 0 := by
    intro i_64 σ_65 e
    have H := hk_11
    rw [e] at H
    refine z_aload_n (M := M_X7_multiply) dX7_multiply_161 rfl ?_
    refine z_getR (M := M_X7_multiply) (ci := 10) (C := RX7) (T := TX7) (Nf := 5) (ty := tyX7) cl10 dX7_multiply_162 ly_252 3 (by decide) t_550 rfl ?_
    refine z_iload_n (M := M_X7_multiply) dX7_multiply_165 rfl ?_
    refine z_iload (M := M_X7_multiply) dX7_multiply_166 rfl ?_
    obtain ⟨σ_66, σ_66_e, hi_67, H⟩ := wa_e H
    refine z_iast (M := M_X7_multiply) dX7_multiply_168 ly_272 rfl rfl rfl hi_67 σ_66_e ?_
    refine z_aload_n (M := M_X7_multiply) dX7_multiply_169 rfl ?_
    refine z_getR (M := M_X7_multiply) (ci := 10) (C := RX7) (T := TX7) (Nf := 5) (ty := tyX7) cl10 dX7_multiply_170 ly_252 4 (by decide) t_551 rfl ?_
    refine z_iload_n (M := M_X7_multiply) dX7_multiply_173 rfl ?_
    refine z_aload_n (M := M_X7_multiply) dX7_multiply_174 rfl ?_
    refine z_getR (M := M_X7_multiply) (ci := 10) (C := RX7) (T := TX7) (Nf := 5) (ty := tyX7) cl10 dX7_multiply_175 ly_252 4 (by decide) t_551 rfl ?_
    refine z_iload_n (M := M_X7_multiply) dX7_multiply_178 rfl ?_
    obtain ⟨x_68, x_68_e, hi_69, H⟩ := rd_e H
    refine z_iald (M := M_X7_multiply) dX7_multiply_179 ly_273 rfl rfl rfl hi_69 x_68_e ?_
    refine z_aload_n (M := M_X7_multiply) dX7_multiply_180 rfl ?_
    refine z_getR (M := M_X7_multiply) (ci := 10) (C := RX7) (T := TX7) (Nf := 5) (ty := tyX7) cl10 dX7_multiply_181 ly_252 4 (by decide) t_551 rfl ?_
    refine z_iload_n (M := M_X7_multiply) dX7_multiply_184 rfl ?_
    obtain ⟨x_70, x_70_e, hi_71, H⟩ := rd_e H
    refine z_iald (M := M_X7_multiply) dX7_multiply_185 ly_273 rfl rfl rfl hi_71 x_70_e ?_
    refine z_imul (M := M_X7_multiply) dX7_multiply_186 ?_
    obtain ⟨σ_72, σ_72_e, hi_73, H⟩ := wa_e H
    refine z_iast (M := M_X7_multiply) dX7_multiply_187 ly_273 rfl rfl rfl hi_73 σ_72_e ?_
    refine z_aload_n (M := M_X7_multiply) dX7_multiply_188 rfl ?_
    refine z_iload_n (M := M_X7_multiply) dX7_multiply_189 rfl ?_
    obtain ⟨σ_75, hc_74, H⟩ := bd_e H
    refine z_callV (M := M_X7_multiply) (M' := M_X7_trim) (as := [vi to_0]) (rest := []) rfl rfl dX7_multiply_190 m_X7_trim t_2339 t_2341 s_150 (c_X7_trim hl  hc_74) rfl rfl ly_252 rfl (Nat.le_of_ble_eq_true rfl) (Nat.le_of_ble_eq_true rfl) (Nat.le_of_ble_eq_true rfl) (Nat.le_of_ble_eq_true rfl) ?_
    refine z_st (st' := []) rfl ?_
    cases H
    exact z_vret (M := M_X7_multiply) dX7_multiply_193 rfl (Nat.le_of_ble_eq_true rfl) (Nat.le_of_ble_eq_true rfl) ⟨rfl, rfl⟩
  refine whl_go hw_10 (fun (i_8, σ_9) => YY l E M_X7_multiply 3 0 0 (pS (none) σ') 37 [some (vr 252), some (vi to_0), some (vi one_0), some (vi two_0), some (vi (q_mni (x_1 + x_3) 280)), some (vi i_8), none, none, none, none, none, none, none] [] σ_9 0 0) ?_
  rintro ⟨i_8, σ_9⟩ o_14 H K_15 K_16
  refine z_iload (M := M_X7_multiply) dX7_multiply_37 rfl ?_
  refine z_aload_n (M := M_X7_multiply) dX7_multiply_39 rfl ?_
  refine z_getR (M := M_X7_multiply) (ci := 10) (C := RX7) (T := TX7) (Nf := 5) (ty := tyX7) cl10 dX7_multiply_40 ly_252 3 (by decide) t_550 rfl ?_
  refine z_iload_n (M := M_X7_multiply) dX7_multiply_43 rfl ?_
  obtain ⟨x_17, x_17_e, hi_18, H⟩ := rd_e H
  refine z_iald (M := M_X7_multiply) dX7_multiply_44 ly_272 rfl rfl rfl hi_18 x_17_e ?_
  rcases if_e H with ⟨h_19, H⟩ | ⟨h_19, H⟩
  · refine z_icmp_ge_f (M := M_X7_multiply) (tgt := 161) dX7_multiply_45 (by decide) rfl rfl h_19 ?_
    refine z_aload_n (M := M_X7_multiply) dX7_multiply_48 rfl ?_
    refine z_iload_n (M := M_X7_multiply) dX7_multiply_49 rfl ?_
    refine z_iload (M := M_X7_multiply) dX7_multiply_50 rfl ?_
    obtain ⟨x_21, hc_20, H⟩ := bd_e H
    refine z_callV (M := M_X7_multiply) (M' := M_X7_limbAt) (as := [vi one_0, vi i_8]) (rest := []) rfl rfl dX7_multiply_52 m_X7_limbAt t_2352 t_2354 s_153 (c_X7_limbAt hl  hc_20) rfl rfl ly_252 rfl (Nat.le_of_ble_eq_true rfl) (Nat.le_of_ble_eq_true rfl) (Nat.le_of_ble_eq_true rfl) (Nat.le_of_ble_eq_true rfl) ?_
    refine z_st (st' := [vl x_21]) rfl ?_
    refine z_lstore (M := M_X7_multiply) (lv' := [some (vr 252), some (vi to_0), some (vi one_0), some (vi two_0), some (vi (q_mni (x_1 + x_3) 280)), some (vi i_8), some (vl x_21), none, none, none, none, none, none]) dX7_multiply_55 (Nat.le_of_ble_eq_true rfl) rfl rfl ?_
    refine z_lload (M := M_X7_multiply) dX7_multiply_57 rfl ?_
    refine z_lconst (M := M_X7_multiply) (m := 0) dX7_multiply_59 (by decide +kernel) ?_
    refine z_lcmp (M := M_X7_multiply) dX7_multiply_60 ?_
    rcases if_e H with ⟨h_22, H⟩ | ⟨h_22, H⟩
    · refine z_lif_ne_f (M := M_X7_multiply) (tgt := 67) dX7_multiply_61 (by decide) rfl (by decide +kernel) h_22 ?_
      refine z_goto (M := M_X7_multiply) (tgt := 155) dX7_multiply_64 (by decide) ?_
      refine z_iinc (M := M_X7_multiply) (lv' := [some (vr 252), some (vi to_0), some (vi one_0), some (vi two_0), some (vi (q_mni (x_1 + x_3) 280)), some (vi (i_8 + 1)), some (vl x_21), none, none, none, none, none, none]) dX7_multiply_155 rfl (Nat.le_of_ble_eq_true rfl) rfl rfl ?_
      refine z_goto (M := M_X7_multiply) (tgt := 37) dX7_multiply_158 (by decide) ?_
      refine z_le (lv' := [some (vr 252), some (vi to_0), some (vi one_0), some (vi two_0), some (vi (q_mni (x_1 + x_3) 280)), some (vi (i_8 + 1)), none, none, none, none, none, none, none]) ⟨Or.inr rfl, Or.inr rfl, Or.inr rfl, Or.inr rfl, Or.inr rfl, Or.inr rfl, Or.inl rfl, Or.inl rfl, Or.inl rfl, Or.inl rfl, Or.inl rfl, Or.inl rfl, Or.inl rfl, trivial⟩ ?_
      exact K_15 _ (Option.some.inj H).symm
    · refine z_lif_ne_t (M := M_X7_multiply) (tgt := 67) dX7_multiply_61 (by decide) rfl (by decide +kernel) h_22 ?_
      refine z_lconst (M := M_X7_multiply) (m := 0) dX7_multiply_67 (by decide +kernel) ?_
      refine z_lstore (M := M_X7_multiply) (lv' := [some (vr 252), some (vi to_0), some (vi one_0), some (vi two_0), some (vi (q_mni (x_1 + x_3) 280)), some (vi i_8), some (vl x_21), none, some (vl 0), none, none, none, none]) dX7_multiply_68 (Nat.le_of_ble_eq_true rfl) rfl rfl ?_
      refine z_iconst (M := M_X7_multiply) dX7_multiply_70 ?_
      refine z_istore (M := M_X7_multiply) (lv' := [some (vr 252), some (vi to_0), some (vi one_0), some (vi two_0), some (vi (q_mni (x_1 + x_3) 280)), some (vi i_8), some (vl x_21), none, some (vl 0), none, some (vi 0), none, none]) dX7_multiply_71 (Nat.le_of_ble_eq_true rfl) rfl rfl ?_
      obtain ⟨rl_30, hw_27, hk_28⟩ := bd_e H
      have J_62 : ∀ carry_58 k_59 σ_60, rl_30 = (carry_58, k_59, σ_60) → YY l E M_X7_multiply 3 0 0 (pS (none) σ') 155 [some (vr 252), some (vi to_0), some (vi one_0), some (vi two_0), some (vi (q_mni (x_1 + x_3) 280)), some (vi i_8), some (vl x_21), none, some (vl carry_58), none, some (vi k_59), none, none] [] σ_60 0 0 := by
        intro carry_58 k_59 σ_60 e
        have H := hk_28
        rw [e] at H
        refine z_iinc (M := M_X7_multiply) (lv' := [some (vr 252), some (vi to_0), some (vi one_0), some (vi two_0), some (vi (q_mni (x_1 + x_3) 280)), some (vi (i_8 + 1)), some (vl x_21), none, some (vl carry_58), none, some (vi k_59), none, none]) dX7_multiply_155 rfl (Nat.le_of_ble_eq_true rfl) rfl rfl ?_
        refine z_goto (M := M_X7_multiply) (tgt := 37) dX7_multiply_158 (by decide) ?_
        refine z_le (lv' := [some (vr 252), some (vi to_0), some (vi one_0), some (vi two_0), some (vi (q_mni (x_1 + x_3) 280)), some (vi (i_8 + 1)), none, none, none, none, none, none, none]) ⟨Or.inr rfl, Or.inr rfl, Or.inr rfl, Or.inr rfl, Or.inr rfl, Or.inr rfl, Or.inl rfl, Or.inl rfl, Or.inl rfl, Or.inl rfl, Or.inl rfl, Or.inl rfl, Or.inl rfl, trivial⟩ ?_
        exact K_15 _ (Option.some.inj H).symm
      refine whl_go hw_27 (fun (carry_24, k_25, σ_26) => YY l E M_X7_multiply 3 0 0 (pS (none) σ') 73 [some (vr 252), some (vi to_0), some (vi one_0), some (vi two_0), some (vi (q_mni (x_1 + x_3) 280)), some (vi i_8), some (vl x_21), none, some (vl carry_24), none, some (vi k_25), none, none] [] σ_26 0 0) ?_
      rintro ⟨carry_24, k_25, σ_26⟩ o_31 H K_32 K_33
      refine z_iload (M := M_X7_multiply) dX7_multiply_73 rfl ?_
      refine z_aload_n (M := M_X7_multiply) dX7_multiply_75 rfl ?_
      refine z_getR (M := M_X7_multiply) (ci := 10) (C := RX7) (T := TX7) (Nf := 5) (ty := tyX7) cl10 dX7_multiply_76 ly_252 3 (by decide) t_550 rfl ?_
      refine z_iload_n (M := M_X7_multiply) dX7_multiply_79 rfl ?_
      obtain ⟨x_42, x_42_e, hi_43, H⟩ := rd_e H
      refine z_iald (M := M_X7_multiply) dX7_multiply_80 ly_272 rfl rfl rfl hi_43 x_42_e ?_
      rcases if_e H with ⟨h_44, H⟩ | ⟨h_44, H⟩
      · refine z_icmp_gt_f (M := M_X7_multiply) (tgt := 155) dX7_multiply_81 (by decide) rfl rfl h_44 ?_
        refine z_iload (M := M_X7_multiply) dX7_multiply_84 rfl ?_
        refine z_iload (M := M_X7_multiply) dX7_multiply_86 rfl ?_
        refine z_iadd (M := M_X7_multiply) dX7_multiply_88 ?_
        refine z_iload (M := M_X7_multiply) dX7_multiply_89 rfl ?_
        rcases if_e H with ⟨h_45, H⟩ | ⟨h_45, H⟩
        · refine z_icmp_ge_f (M := M_X7_multiply) (tgt := 155) dX7_multiply_91 (by decide) rfl rfl h_45 ?_
          refine z_lload (M := M_X7_multiply) dX7_multiply_94 rfl ?_
          refine z_aload_n (M := M_X7_multiply) dX7_multiply_96 rfl ?_
          refine z_iload_n (M := M_X7_multiply) dX7_multiply_97 rfl ?_
          refine z_iload (M := M_X7_multiply) dX7_multiply_98 rfl ?_
          obtain ⟨x_47, hc_46, H⟩ := bd_e H
          refine z_callV (M := M_X7_multiply) (M' := M_X7_limbAt) (as := [vi two_0, vi k_25]) (rest := [vl x_21]) rfl rfl dX7_multiply_100 m_X7_limbAt t_2352 t_2354 s_153 (c_X7_limbAt hl  hc_46) rfl rfl ly_252 rfl (Nat.le_of_ble_eq_true rfl) (Nat.le_of_ble_eq_true rfl) (Nat.le_of_ble_eq_true rfl) (Nat.le_of_ble_eq_true rfl) ?_
          refine z_st (st' := [vl x_47, vl x_21]) rfl ?_
          refine z_lmul (M := M_X7_multiply) dX7_multiply_103 ?_
          refine z_aload_n (M := M_X7_multiply) dX7_multiply_104 rfl ?_
          refine z_getR (M := M_X7_multiply) (ci := 10) (C := RX7) (T := TX7) (Nf := 5) (ty := tyX7) cl10 dX7_multiply_105 ly_252 2 (by decide) t_549 rfl ?_
          refine z_iload_n (M := M_X7_multiply) dX7_multiply_108 rfl ?_
          obtain ⟨hi_48, H⟩ := ck_e H
          refine z_gald (M := M_X7_multiply) dX7_multiply_109 ly_255 rfl rfl hi_48 (by rw [Nat.one_mul]) ?_
          refine z_iload (M := M_X7_multiply) dX7_multiply_110 rfl ?_
          refine z_iload (M := M_X7_multiply) dX7_multiply_112 rfl ?_
          refine z_iadd (M := M_X7_multiply) dX7_multiply_114 ?_
          obtain ⟨x_49, x_49_e, hi_50, H⟩ := rd_e H
          refine z_iald (M := M_X7_multiply) dX7_multiply_115 (ly_B hi_48) rfl rfl rfl hi_50 x_49_e ?_
          refine z_i2l (M := M_X7_multiply) dX7_multiply_116 ?_
          refine z_ldc2 (M := M_X7_multiply) (n := 4294967295) dX7_multiply_117 t_2338 (by decide +kernel) ?_
          refine z_land (M := M_X7_multiply) dX7_multiply_120 ?_
          refine z_ladd (M := M_X7_multiply) dX7_multiply_121 ?_
          refine z_lload (M := M_X7_multiply) dX7_multiply_122 rfl ?_
          refine z_ladd (M := M_X7_multiply) dX7_multiply_124 ?_
          obtain ⟨x_51, x_51_e, H⟩ := lt_e H
          refine z_st (congrArg (fun z => vl z :: []) x_51_e) ?_
          refine z_lstore (M := M_X7_multiply) (lv' := [some (vr 252), some (vi to_0), some (vi one_0), some (vi two_0), some (vi (q_mni (x_1 + x_3) 280)), some (vi i_8), some (vl x_21), none, some (vl carry_24), none, some (vi k_25), some (vl x_51), none]) dX7_multiply_125 (Nat.le_of_ble_eq_true rfl) rfl rfl ?_
          refine z_aload_n (M := M_X7_multiply) dX7_multiply_127 rfl ?_
          refine z_getR (M := M_X7_multiply) (ci := 10) (C := RX7) (T := TX7) (Nf := 5) (ty := tyX7) cl10 dX7_multiply_128 ly_252 2 (by decide) t_549 rfl ?_
          refine z_iload_n (M := M_X7_multiply) dX7_multiply_131 rfl ?_
          obtain ⟨hi_52, H⟩ := ck_e H
          refine z_gald (M := M_X7_multiply) dX7_multiply_132 ly_255 rfl rfl hi_52 (by rw [Nat.one_mul]) ?_
          refine z_iload (M := M_X7_multiply) dX7_multiply_133 rfl ?_
          refine z_iload (M := M_X7_multiply) dX7_multiply_135 rfl ?_
          refine z_iadd (M := M_X7_multiply) dX7_multiply_137 ?_
          refine z_lload (M := M_X7_multiply) dX7_multiply_138 rfl ?_
          refine z_l2i (M := M_X7_multiply) dX7_multiply_140 ?_
          obtain ⟨σ_53, σ_53_e, hi_54, H⟩ := wa_e H
          refine z_iast (M := M_X7_multiply) dX7_multiply_141 (ly_B hi_52) rfl rfl rfl hi_54 σ_53_e ?_
          refine z_lload (M := M_X7_multiply) dX7_multiply_142 rfl ?_
          refine z_bipush (M := M_X7_multiply) dX7_multiply_144 (by decide +kernel) ?_
          refine z_lushr (M := M_X7_multiply) dX7_multiply_146 ?_
          refine z_lstore (M := M_X7_multiply) (lv' := [some (vr 252), some (vi to_0), some (vi one_0), some (vi two_0), some (vi (q_mni (x_1 + x_3) 280)), some (vi i_8), some (vl x_21), none, some (vl (q_lus x_51 32)), none, some (vi k_25), some (vl x_51), none]) dX7_multiply_147 (Nat.le_of_ble_eq_true rfl) rfl rfl ?_
          refine z_iinc (M := M_X7_multiply) (lv' := [some (vr 252), some (vi to_0), some (vi one_0), some (vi two_0), some (vi (q_mni (x_1 + x_3) 280)), some (vi i_8), some (vl x_21), none, some (vl (q_lus x_51 32)), none, some (vi (k_25 + 1)), some (vl x_51), none]) dX7_multiply_149 rfl (Nat.le_of_ble_eq_true rfl) rfl rfl ?_
          refine z_goto (M := M_X7_multiply) (tgt := 73) dX7_multiply_152 (by decide) ?_
          refine z_le (lv' := [some (vr 252), some (vi to_0), some (vi one_0), some (vi two_0), some (vi (q_mni (x_1 + x_3) 280)), some (vi i_8), some (vl x_21), none, some (vl (q_lus x_51 32)), none, some (vi (k_25 + 1)), none, none]) ⟨Or.inr rfl, Or.inr rfl, Or.inr rfl, Or.inr rfl, Or.inr rfl, Or.inr rfl, Or.inr rfl, Or.inl rfl, Or.inr rfl, Or.inl rfl, Or.inr rfl, Or.inl rfl, Or.inl rfl, trivial⟩ ?_
          exact K_32 _ (Option.some.inj H).symm
        · refine z_icmp_ge_t (M := M_X7_multiply) (tgt := 155) dX7_multiply_91 (by decide) rfl rfl (Int.not_lt.mp h_45) ?_
          exact J_62 _ _ _ (K_33 _ (Option.some.inj H).symm).symm
      · refine z_icmp_gt_t (M := M_X7_multiply) (tgt := 155) dX7_multiply_81 (by decide) rfl rfl (Int.not_le.mp h_44) ?_
        exact J_62 _ _ _ (K_33 _ (Option.some.inj H).symm).symm
  · refine z_icmp_ge_t (M := M_X7_multiply) (tgt := 161) dX7_multiply_45 (by decide) rfl rfl (Int.not_lt.mp h_19) ?_
    exact J_76 _ _ (K_16 _ (Option.some.inj H).symm).symm
theorem c_X7_sideSign (hl : l.stackTraces = false) {σ : SG} {i_0 : Int} {j_0 : Int} {k_0 : Int} {r : Int} {σ' : SG}  (H : fI_sideSign σ i_0 j_0 k_0 = some (r, σ')) : en_S l E M_X7_sideSign 5 0 0 [vr 252, vi i_0, vi j_0, vi k_0] σ (pS (some (vi r)) σ') := by
  unfold fI_sideSign at H
  refine z_mk (lv := [some (vr 252), some (vi i_0), some (vi j_0), some (vi k_0)]) m_X7_sideSign rfl hl (Nat.le_of_ble_eq_true rfl) rfl ?_
  refine z_aload_n (M := M_X7_sideSign) dX7_sideSign_0 rfl ?_
  refine z_iconst (M := M_X7_sideSign) dX7_sideSign_1 ?_
  refine z_aload_n (M := M_X7_sideSign) dX7_sideSign_2 rfl ?_
  refine z_getR (M := M_X7_sideSign) (ci := 10) (C := RX7) (T := TX7) (Nf := 5) (ty := tyX7) cl10 dX7_sideSign_3 ly_252 0 (by decide) t_545 rfl ?_
  refine z_iload_n (M := M_X7_sideSign) dX7_sideSign_6 rfl ?_
  obtain ⟨x_1, x_1_e, hi_2, H⟩ := rd_e H
  refine z_lald (M := M_X7_sideSign) dX7_sideSign_7 ly_253 rfl rfl rfl hi_2 x_1_e ?_
  refine z_aload_n (M := M_X7_sideSign) dX7_sideSign_8 rfl ?_
  refine z_getR (M := M_X7_sideSign) (ci := 10) (C := RX7) (T := TX7) (Nf := 5) (ty := tyX7) cl10 dX7_sideSign_9 ly_252 0 (by decide) t_545 rfl ?_
  refine z_iload_n (M := M_X7_sideSign) dX7_sideSign_12 rfl ?_
  obtain ⟨x_3, x_3_e, hi_4, H⟩ := rd_e H
  refine z_lald (M := M_X7_sideSign) dX7_sideSign_13 ly_253 rfl rfl rfl hi_4 x_3_e ?_
  obtain ⟨σ_6, hc_5, H⟩ := bd_e H
  refine z_callV (M := M_X7_sideSign) (M' := M_X7_difference) (as := [vi 2, vl x_1, vl x_3]) (rest := []) rfl rfl dX7_sideSign_14 m_X7_difference t_2327 t_2329 s_148 (c_X7_difference hl  hc_5) rfl rfl ly_252 rfl (Nat.le_of_ble_eq_true rfl) (Nat.le_of_ble_eq_true rfl) (Nat.le_of_ble_eq_true rfl) (Nat.le_of_ble_eq_true rfl) ?_
  refine z_st (st' := []) rfl ?_
  refine z_aload_n (M := M_X7_sideSign) dX7_sideSign_17 rfl ?_
  refine z_iconst (M := M_X7_sideSign) dX7_sideSign_18 ?_
  refine z_aload_n (M := M_X7_sideSign) dX7_sideSign_19 rfl ?_
  refine z_getR (M := M_X7_sideSign) (ci := 10) (C := RX7) (T := TX7) (Nf := 5) (ty := tyX7) cl10 dX7_sideSign_20 ly_252 1 (by decide) t_547 rfl ?_
  refine z_iload_n (M := M_X7_sideSign) dX7_sideSign_23 rfl ?_
  obtain ⟨x_7, x_7_e, hi_8, H⟩ := rd_e H
  refine z_lald (M := M_X7_sideSign) dX7_sideSign_24 ly_254 rfl rfl rfl hi_8 x_7_e ?_
  refine z_aload_n (M := M_X7_sideSign) dX7_sideSign_25 rfl ?_
  refine z_getR (M := M_X7_sideSign) (ci := 10) (C := RX7) (T := TX7) (Nf := 5) (ty := tyX7) cl10 dX7_sideSign_26 ly_252 1 (by decide) t_547 rfl ?_
  refine z_iload_n (M := M_X7_sideSign) dX7_sideSign_29 rfl ?_
  obtain ⟨x_9, x_9_e, hi_10, H⟩ := rd_e H
  refine z_lald (M := M_X7_sideSign) dX7_sideSign_30 ly_254 rfl rfl rfl hi_10 x_9_e ?_
  obtain ⟨σ_12, hc_11, H⟩ := bd_e H
  refine z_callV (M := M_X7_sideSign) (M' := M_X7_difference) (as := [vi 3, vl x_7, vl x_9]) (rest := []) rfl rfl dX7_sideSign_31 m_X7_difference t_2327 t_2329 s_148 (c_X7_difference hl  hc_11) rfl rfl ly_252 rfl (Nat.le_of_ble_eq_true rfl) (Nat.le_of_ble_eq_true rfl) (Nat.le_of_ble_eq_true rfl) (Nat.le_of_ble_eq_true rfl) ?_
  refine z_st (st' := []) rfl ?_
  refine z_aload_n (M := M_X7_sideSign) dX7_sideSign_34 rfl ?_
  refine z_iconst (M := M_X7_sideSign) dX7_sideSign_35 ?_
  refine z_aload_n (M := M_X7_sideSign) dX7_sideSign_36 rfl ?_
  refine z_getR (M := M_X7_sideSign) (ci := 10) (C := RX7) (T := TX7) (Nf := 5) (ty := tyX7) cl10 dX7_sideSign_37 ly_252 1 (by decide) t_547 rfl ?_
  refine z_iload_n (M := M_X7_sideSign) dX7_sideSign_40 rfl ?_
  obtain ⟨x_13, x_13_e, hi_14, H⟩ := rd_e H
  refine z_lald (M := M_X7_sideSign) dX7_sideSign_41 ly_254 rfl rfl rfl hi_14 x_13_e ?_
  refine z_aload_n (M := M_X7_sideSign) dX7_sideSign_42 rfl ?_
  refine z_getR (M := M_X7_sideSign) (ci := 10) (C := RX7) (T := TX7) (Nf := 5) (ty := tyX7) cl10 dX7_sideSign_43 ly_252 1 (by decide) t_547 rfl ?_
  refine z_iload_n (M := M_X7_sideSign) dX7_sideSign_46 rfl ?_
  obtain ⟨x_15, x_15_e, hi_16, H⟩ := rd_e H
  refine z_lald (M := M_X7_sideSign) dX7_sideSign_47 ly_254 rfl rfl rfl hi_16 x_15_e ?_
  obtain ⟨σ_18, hc_17, H⟩ := bd_e H
  refine z_callV (M := M_X7_sideSign) (M' := M_X7_difference) (as := [vi 4, vl x_13, vl x_15]) (rest := []) rfl rfl dX7_sideSign_48 m_X7_difference t_2327 t_2329 s_148 (c_X7_difference hl  hc_17) rfl rfl ly_252 rfl (Nat.le_of_ble_eq_true rfl) (Nat.le_of_ble_eq_true rfl) (Nat.le_of_ble_eq_true rfl) (Nat.le_of_ble_eq_true rfl) ?_
  refine z_st (st' := []) rfl ?_
  refine z_aload_n (M := M_X7_sideSign) dX7_sideSign_51 rfl ?_
  refine z_iconst (M := M_X7_sideSign) dX7_sideSign_52 ?_
  refine z_aload_n (M := M_X7_sideSign) dX7_sideSign_53 rfl ?_
  refine z_getR (M := M_X7_sideSign) (ci := 10) (C := RX7) (T := TX7) (Nf := 5) (ty := tyX7) cl10 dX7_sideSign_54 ly_252 0 (by decide) t_545 rfl ?_
  refine z_iload_n (M := M_X7_sideSign) dX7_sideSign_57 rfl ?_
  obtain ⟨x_19, x_19_e, hi_20, H⟩ := rd_e H
  refine z_lald (M := M_X7_sideSign) dX7_sideSign_58 ly_253 rfl rfl rfl hi_20 x_19_e ?_
  refine z_aload_n (M := M_X7_sideSign) dX7_sideSign_59 rfl ?_
  refine z_getR (M := M_X7_sideSign) (ci := 10) (C := RX7) (T := TX7) (Nf := 5) (ty := tyX7) cl10 dX7_sideSign_60 ly_252 0 (by decide) t_545 rfl ?_
  refine z_iload_n (M := M_X7_sideSign) dX7_sideSign_63 rfl ?_
  obtain ⟨x_21, x_21_e, hi_22, H⟩ := rd_e H
  refine z_lald (M := M_X7_sideSign) dX7_sideSign_64 ly_253 rfl rfl rfl hi_22 x_21_e ?_
  obtain ⟨σ_24, hc_23, H⟩ := bd_e H
  refine z_callV (M := M_X7_sideSign) (M' := M_X7_difference) (as := [vi 5, vl x_19, vl x_21]) (rest := []) rfl rfl dX7_sideSign_65 m_X7_difference t_2327 t_2329 s_148 (c_X7_difference hl  hc_23) rfl rfl ly_252 rfl (Nat.le_of_ble_eq_true rfl) (Nat.le_of_ble_eq_true rfl) (Nat.le_of_ble_eq_true rfl) (Nat.le_of_ble_eq_true rfl) ?_
  refine z_st (st' := []) rfl ?_
  refine z_aload_n (M := M_X7_sideSign) dX7_sideSign_68 rfl ?_
  refine z_bipush (M := M_X7_sideSign) dX7_sideSign_69 (by decide +kernel) ?_
  refine z_iconst (M := M_X7_sideSign) dX7_sideSign_71 ?_
  refine z_iconst (M := M_X7_sideSign) dX7_sideSign_72 ?_
  obtain ⟨σ_26, hc_25, H⟩ := bd_e H
  refine z_callV (M := M_X7_sideSign) (M' := M_X7_multiply) (as := [vi 6, vi 2, vi 3]) (rest := []) rfl rfl dX7_sideSign_73 m_X7_multiply t_2360 t_2362 s_155 (c_X7_multiply hl  hc_25) rfl rfl ly_252 rfl (Nat.le_of_ble_eq_true rfl) (Nat.le_of_ble_eq_true rfl) (Nat.le_of_ble_eq_true rfl) (Nat.le_of_ble_eq_true rfl) ?_
  refine z_st (st' := []) rfl ?_
  refine z_aload_n (M := M_X7_sideSign) dX7_sideSign_76 rfl ?_
  refine z_bipush (M := M_X7_sideSign) dX7_sideSign_77 (by decide +kernel) ?_
  refine z_iconst (M := M_X7_sideSign) dX7_sideSign_79 ?_
  refine z_iconst (M := M_X7_sideSign) dX7_sideSign_80 ?_
  obtain ⟨σ_28, hc_27, H⟩ := bd_e H
  refine z_callV (M := M_X7_sideSign) (M' := M_X7_multiply) (as := [vi 7, vi 4, vi 5]) (rest := []) rfl rfl dX7_sideSign_81 m_X7_multiply t_2360 t_2362 s_155 (c_X7_multiply hl  hc_27) rfl rfl ly_252 rfl (Nat.le_of_ble_eq_true rfl) (Nat.le_of_ble_eq_true rfl) (Nat.le_of_ble_eq_true rfl) (Nat.le_of_ble_eq_true rfl) ?_
  refine z_st (st' := []) rfl ?_
  refine z_aload_n (M := M_X7_sideSign) dX7_sideSign_84 rfl ?_
  refine z_bipush (M := M_X7_sideSign) dX7_sideSign_85 (by decide +kernel) ?_
  refine z_bipush (M := M_X7_sideSign) dX7_sideSign_87 (by decide +kernel) ?_
  refine z_bipush (M := M_X7_sideSign) dX7_sideSign_89 (by decide +kernel) ?_
  refine z_iconst (M := M_X7_sideSign) dX7_sideSign_91 ?_
  obtain ⟨σ_30, hc_29, H⟩ := bd_e H
  refine z_callV (M := M_X7_sideSign) (M' := M_X7_addSigned) (as := [vi 8, vi 6, vi 7, vi (-1)]) (rest := []) rfl rfl dX7_sideSign_92 m_X7_addSigned t_2343 t_2345 s_151 (c_X7_addSigned hl  hc_29) rfl rfl ly_252 rfl (Nat.le_of_ble_eq_true rfl) (Nat.le_of_ble_eq_true rfl) (Nat.le_of_ble_eq_true rfl) (Nat.le_of_ble_eq_true rfl) ?_
  refine z_st (st' := []) rfl ?_
  refine z_aload_n (M := M_X7_sideSign) dX7_sideSign_95 rfl ?_
  refine z_getR (M := M_X7_sideSign) (ci := 10) (C := RX7) (T := TX7) (Nf := 5) (ty := tyX7) cl10 dX7_sideSign_96 ly_252 4 (by decide) t_551 rfl ?_
  refine z_bipush (M := M_X7_sideSign) dX7_sideSign_99 (by decide +kernel) ?_
  obtain ⟨x_31, x_31_e, hi_32, H⟩ := rd_e H
  refine z_iald (M := M_X7_sideSign) dX7_sideSign_101 ly_273 rfl (by decide +kernel) rfl hi_32 x_31_e ?_
  cases H
  exact z_iret (M := M_X7_sideSign) dX7_sideSign_102 rfl (Nat.le_of_ble_eq_true rfl) (Nat.le_of_ble_eq_true rfl) ⟨rfl, rfl⟩
theorem c_X11_side (hl : l.stackTraces = false) {σ : SG} {i_0 : Int} {j_0 : Int} {k_0 : Int} {r : Int ⊕ Nat} {σ' : SG}  (H : fQ_side σ i_0 j_0 k_0 = some (r, σ')) : en_S l E M_X11_side 6 1 6 [vr 32, vi i_0, vi j_0, vi k_0] σ (pT (riT r) σ') := by
  unfold fQ_side at H
  refine z_mk (lv := [some (vr 32), some (vi i_0), some (vi j_0), some (vi k_0)]) m_X11_side rfl hl (Nat.le_of_ble_eq_true rfl) rfl ?_
  rcases if_e H with ⟨h_4, H⟩ | ⟨h_4, H⟩
  · have J_5 : YY l E M_X11_side 6 1 6 (pT (riT r) σ') 21 [some (vr 32), some (vi i_0), some (vi j_0), some (vi k_0)] [] σ 0 0 := by
      cases H
      exact z_throw (M := M_X11_side) (names := en_nm) rfl dX11_side_21 dX11_side_24 dX11_side_25 dX11_side_28 (by decide +kernel) en_nm_ok (Or.inl t_748) (Or.inl t_22) at_X11_IndexOutOfBoundsException_139 (Nat.le_of_ble_eq_true rfl) (Nat.le_of_ble_eq_true rfl) (Nat.le_of_ble_eq_true rfl) (Nat.le_of_ble_eq_true rfl) ⟨rfl, rfl⟩
    refine z_iload_n (M := M_X11_side) dX11_side_0 rfl ?_
    refine z_callS (M := M_X11_side) (M' := M_X11_isNoSignPoint) (as := [vi i_0]) (rest := []) rfl rfl dX11_side_1 m_X11_isNoSignPoint t_2309 t_2310 (c_X11_isNoSignPoint hl  rfl) rfl rfl (Nat.le_of_ble_eq_true rfl) (Nat.le_of_ble_eq_true rfl) (Nat.le_of_ble_eq_true rfl) (Nat.le_of_ble_eq_true rfl) ?_
    refine z_st (st' := [zv (fQ_isNoSignPoint i_0)]) rfl ?_
    by_cases h_7 : (fQ_isNoSignPoint i_0) = true
    · refine z_zne_t (M := M_X11_side) (tgt := 21) dX11_side_4 (by decide) h_7 ?_
      exact J_5
    · refine z_zne_f (M := M_X11_side) (tgt := 21) dX11_side_4 (by decide) h_7 ?_
      refine z_iload_n (M := M_X11_side) dX11_side_7 rfl ?_
      refine z_callS (M := M_X11_side) (M' := M_X11_isNoSignPoint) (as := [vi j_0]) (rest := []) rfl rfl dX11_side_8 m_X11_isNoSignPoint t_2309 t_2310 (c_X11_isNoSignPoint hl  rfl) rfl rfl (Nat.le_of_ble_eq_true rfl) (Nat.le_of_ble_eq_true rfl) (Nat.le_of_ble_eq_true rfl) (Nat.le_of_ble_eq_true rfl) ?_
      refine z_st (st' := [zv (fQ_isNoSignPoint j_0)]) rfl ?_
      by_cases h_8 : (fQ_isNoSignPoint j_0) = true
      · refine z_zne_t (M := M_X11_side) (tgt := 21) dX11_side_11 (by decide) h_8 ?_
        exact J_5
      · refine z_zne_f (M := M_X11_side) (tgt := 21) dX11_side_11 (by decide) h_8 ?_
        refine z_iload_n (M := M_X11_side) dX11_side_14 rfl ?_
        refine z_callS (M := M_X11_side) (M' := M_X11_isNoSignPoint) (as := [vi k_0]) (rest := []) rfl rfl dX11_side_15 m_X11_isNoSignPoint t_2309 t_2310 (c_X11_isNoSignPoint hl  rfl) rfl rfl (Nat.le_of_ble_eq_true rfl) (Nat.le_of_ble_eq_true rfl) (Nat.le_of_ble_eq_true rfl) (Nat.le_of_ble_eq_true rfl) ?_
        refine z_st (st' := [zv (fQ_isNoSignPoint k_0)]) rfl ?_
        by_cases h_9 : (fQ_isNoSignPoint k_0) = true
        · refine z_zeq_f (M := M_X11_side) (tgt := 29) dX11_side_18 (by decide) h_9 ?_
          exact J_5
        · refine z_zeq_t (M := M_X11_side) (tgt := 29) dX11_side_18 (by decide) h_9 ?_
          exact absurd h_4 (fun q => q.elim (fun q => q.elim h_7 h_8) h_9)
  · have J_6 : YY l E M_X11_side 6 1 6 (pT (riT r) σ') 29 [some (vr 32), some (vi i_0), some (vi j_0), some (vi k_0)] [] σ 0 0 := by
      refine z_aload_n (M := M_X11_side) dX11_side_29 rfl ?_
      refine z_getR (M := M_X11_side) (ci := 14) (C := RX11) (T := TX11) (Nf := 19) (ty := tyX11) cl14 dX11_side_30 ly_32 14 (by decide) t_577 rfl ?_
      refine z_iload_n (M := M_X11_side) dX11_side_33 rfl ?_
      refine z_iload_n (M := M_X11_side) dX11_side_34 rfl ?_
      refine z_iload_n (M := M_X11_side) dX11_side_35 rfl ?_
      obtain ⟨⟨x_3, σ_2⟩, hc_1, H⟩ := bd_e H
      refine z_callV (M := M_X11_side) (M' := M_X7_sideSign) (as := [vi i_0, vi j_0, vi k_0]) (rest := []) rfl rfl dX11_side_36 m_X7_sideSign t_2323 t_2324 t_2325 (c_X7_sideSign hl  hc_1) rfl rfl ly_252 rfl (Nat.le_of_ble_eq_true rfl) (Nat.le_of_ble_eq_true rfl) (Nat.le_of_ble_eq_true rfl) (Nat.le_of_ble_eq_true rfl) ?_
      refine z_st (st' := [vi x_3]) rfl ?_
      cases H
      exact z_iret (M := M_X11_side) dX11_side_39 rfl (Nat.le_of_ble_eq_true rfl) (Nat.le_of_ble_eq_true rfl) ⟨rfl, rfl⟩
    refine z_iload_n (M := M_X11_side) dX11_side_0 rfl ?_
    refine z_callS (M := M_X11_side) (M' := M_X11_isNoSignPoint) (as := [vi i_0]) (rest := []) rfl rfl dX11_side_1 m_X11_isNoSignPoint t_2309 t_2310 (c_X11_isNoSignPoint hl  rfl) rfl rfl (Nat.le_of_ble_eq_true rfl) (Nat.le_of_ble_eq_true rfl) (Nat.le_of_ble_eq_true rfl) (Nat.le_of_ble_eq_true rfl) ?_
    refine z_st (st' := [zv (fQ_isNoSignPoint i_0)]) rfl ?_
    by_cases h_10 : (fQ_isNoSignPoint i_0) = true
    · refine z_zne_t (M := M_X11_side) (tgt := 21) dX11_side_4 (by decide) h_10 ?_
      exact absurd (Or.inl (Or.inl h_10)) h_4
    · refine z_zne_f (M := M_X11_side) (tgt := 21) dX11_side_4 (by decide) h_10 ?_
      refine z_iload_n (M := M_X11_side) dX11_side_7 rfl ?_
      refine z_callS (M := M_X11_side) (M' := M_X11_isNoSignPoint) (as := [vi j_0]) (rest := []) rfl rfl dX11_side_8 m_X11_isNoSignPoint t_2309 t_2310 (c_X11_isNoSignPoint hl  rfl) rfl rfl (Nat.le_of_ble_eq_true rfl) (Nat.le_of_ble_eq_true rfl) (Nat.le_of_ble_eq_true rfl) (Nat.le_of_ble_eq_true rfl) ?_
      refine z_st (st' := [zv (fQ_isNoSignPoint j_0)]) rfl ?_
      by_cases h_11 : (fQ_isNoSignPoint j_0) = true
      · refine z_zne_t (M := M_X11_side) (tgt := 21) dX11_side_11 (by decide) h_11 ?_
        exact absurd (Or.inl (Or.inr h_11)) h_4
      · refine z_zne_f (M := M_X11_side) (tgt := 21) dX11_side_11 (by decide) h_11 ?_
        refine z_iload_n (M := M_X11_side) dX11_side_14 rfl ?_
        refine z_callS (M := M_X11_side) (M' := M_X11_isNoSignPoint) (as := [vi k_0]) (rest := []) rfl rfl dX11_side_15 m_X11_isNoSignPoint t_2309 t_2310 (c_X11_isNoSignPoint hl  rfl) rfl rfl (Nat.le_of_ble_eq_true rfl) (Nat.le_of_ble_eq_true rfl) (Nat.le_of_ble_eq_true rfl) (Nat.le_of_ble_eq_true rfl) ?_
        refine z_st (st' := [zv (fQ_isNoSignPoint k_0)]) rfl ?_
        by_cases h_12 : (fQ_isNoSignPoint k_0) = true
        · refine z_zeq_f (M := M_X11_side) (tgt := 29) dX11_side_18 (by decide) h_12 ?_
          exact absurd (Or.inr h_12) h_4
        · refine z_zeq_t (M := M_X11_side) (tgt := 29) dX11_side_18 (by decide) h_12 ?_
          exact J_6
theorem c_X7_putTerm (hl : l.stackTraces = false) {σ : SG} {to_0 : Int} {one_0 : Int} {two_0 : Int} {three_0 : Int} {σ' : SG}  (H : fI_putTerm σ to_0 one_0 two_0 three_0 = some σ') : en_S l E M_X7_putTerm 4 0 0 [vr 252, vi to_0, vi one_0, vi two_0, vi three_0] σ (pS (none) σ') := by
  unfold fI_putTerm at H
  refine z_mk (lv := [some (vr 252), some (vi to_0), some (vi one_0), some (vi two_0), some (vi three_0)]) m_X7_putTerm rfl hl (Nat.le_of_ble_eq_true rfl) rfl ?_
  refine z_aload_n (M := M_X7_putTerm) dX7_putTerm_0 rfl ?_
  refine z_bipush (M := M_X7_putTerm) dX7_putTerm_1 (by decide +kernel) ?_
  refine z_iload_n (M := M_X7_putTerm) dX7_putTerm_3 rfl ?_
  refine z_iload_n (M := M_X7_putTerm) dX7_putTerm_4 rfl ?_
  obtain ⟨σ_2, hc_1, H⟩ := bd_e H
  refine z_callV (M := M_X7_putTerm) (M' := M_X7_multiply) (as := [vi 13, vi one_0, vi one_0]) (rest := []) rfl rfl dX7_putTerm_5 m_X7_multiply t_2360 t_2362 s_155 (c_X7_multiply hl  hc_1) rfl rfl ly_252 rfl (Nat.le_of_ble_eq_true rfl) (Nat.le_of_ble_eq_true rfl) (Nat.le_of_ble_eq_true rfl) (Nat.le_of_ble_eq_true rfl) ?_
  refine z_st (st' := []) rfl ?_
  refine z_aload_n (M := M_X7_putTerm) dX7_putTerm_8 rfl ?_
  refine z_bipush (M := M_X7_putTerm) dX7_putTerm_9 (by decide +kernel) ?_
  refine z_iload_n (M := M_X7_putTerm) dX7_putTerm_11 rfl ?_
  refine z_iconst (M := M_X7_putTerm) dX7_putTerm_12 ?_
  refine z_iadd (M := M_X7_putTerm) dX7_putTerm_13 ?_
  refine z_iload_n (M := M_X7_putTerm) dX7_putTerm_14 rfl ?_
  refine z_iconst (M := M_X7_putTerm) dX7_putTerm_15 ?_
  refine z_iadd (M := M_X7_putTerm) dX7_putTerm_16 ?_
  obtain ⟨σ_4, hc_3, H⟩ := bd_e H
  refine z_callV (M := M_X7_putTerm) (M' := M_X7_multiply) (as := [vi 14, vi (one_0 + 1), vi (one_0 + 1)]) (rest := []) rfl rfl dX7_putTerm_17 m_X7_multiply t_2360 t_2362 s_155 (c_X7_multiply hl  hc_3) rfl rfl ly_252 rfl (Nat.le_of_ble_eq_true rfl) (Nat.le_of_ble_eq_true rfl) (Nat.le_of_ble_eq_true rfl) (Nat.le_of_ble_eq_true rfl) ?_
  refine z_st (st' := []) rfl ?_
  refine z_aload_n (M := M_X7_putTerm) dX7_putTerm_20 rfl ?_
  refine z_bipush (M := M_X7_putTerm) dX7_putTerm_21 (by decide +kernel) ?_
  refine z_bipush (M := M_X7_putTerm) dX7_putTerm_23 (by decide +kernel) ?_
  refine z_bipush (M := M_X7_putTerm) dX7_putTerm_25 (by decide +kernel) ?_
  refine z_iconst (M := M_X7_putTerm) dX7_putTerm_27 ?_
  obtain ⟨σ_6, hc_5, H⟩ := bd_e H
  refine z_callV (M := M_X7_putTerm) (M' := M_X7_addSigned) (as := [vi 15, vi 13, vi 14, vi 1]) (rest := []) rfl rfl dX7_putTerm_28 m_X7_addSigned t_2343 t_2345 s_151 (c_X7_addSigned hl  hc_5) rfl rfl ly_252 rfl (Nat.le_of_ble_eq_true rfl) (Nat.le_of_ble_eq_true rfl) (Nat.le_of_ble_eq_true rfl) (Nat.le_of_ble_eq_true rfl) ?_
  refine z_st (st' := []) rfl ?_
  refine z_aload_n (M := M_X7_putTerm) dX7_putTerm_31 rfl ?_
  refine z_bipush (M := M_X7_putTerm) dX7_putTerm_32 (by decide +kernel) ?_
  refine z_iload_n (M := M_X7_putTerm) dX7_putTerm_34 rfl ?_
  refine z_iload (M := M_X7_putTerm) dX7_putTerm_35 rfl ?_
  refine z_iconst (M := M_X7_putTerm) dX7_putTerm_37 ?_
  refine z_iadd (M := M_X7_putTerm) dX7_putTerm_38 ?_
  obtain ⟨σ_8, hc_7, H⟩ := bd_e H
  refine z_callV (M := M_X7_putTerm) (M' := M_X7_multiply) (as := [vi 13, vi two_0, vi (three_0 + 1)]) (rest := []) rfl rfl dX7_putTerm_39 m_X7_multiply t_2360 t_2362 s_155 (c_X7_multiply hl  hc_7) rfl rfl ly_252 rfl (Nat.le_of_ble_eq_true rfl) (Nat.le_of_ble_eq_true rfl) (Nat.le_of_ble_eq_true rfl) (Nat.le_of_ble_eq_true rfl) ?_
  refine z_st (st' := []) rfl ?_
  refine z_aload_n (M := M_X7_putTerm) dX7_putTerm_42 rfl ?_
  refine z_bipush (M := M_X7_putTerm) dX7_putTerm_43 (by decide +kernel) ?_
  refine z_iload_n (M := M_X7_putTerm) dX7_putTerm_45 rfl ?_
  refine z_iconst (M := M_X7_putTerm) dX7_putTerm_46 ?_
  refine z_iadd (M := M_X7_putTerm) dX7_putTerm_47 ?_
  refine z_iload (M := M_X7_putTerm) dX7_putTerm_48 rfl ?_
  obtain ⟨σ_10, hc_9, H⟩ := bd_e H
  refine z_callV (M := M_X7_putTerm) (M' := M_X7_multiply) (as := [vi 14, vi (two_0 + 1), vi three_0]) (rest := []) rfl rfl dX7_putTerm_50 m_X7_multiply t_2360 t_2362 s_155 (c_X7_multiply hl  hc_9) rfl rfl ly_252 rfl (Nat.le_of_ble_eq_true rfl) (Nat.le_of_ble_eq_true rfl) (Nat.le_of_ble_eq_true rfl) (Nat.le_of_ble_eq_true rfl) ?_
  refine z_st (st' := []) rfl ?_
  refine z_aload_n (M := M_X7_putTerm) dX7_putTerm_53 rfl ?_
  refine z_iconst (M := M_X7_putTerm) dX7_putTerm_54 ?_
  refine z_bipush (M := M_X7_putTerm) dX7_putTerm_55 (by decide +kernel) ?_
  refine z_bipush (M := M_X7_putTerm) dX7_putTerm_57 (by decide +kernel) ?_
  refine z_iconst (M := M_X7_putTerm) dX7_putTerm_59 ?_
  obtain ⟨σ_12, hc_11, H⟩ := bd_e H
  refine z_callV (M := M_X7_putTerm) (M' := M_X7_addSigned) (as := [vi 0, vi 13, vi 14, vi (-1)]) (rest := []) rfl rfl dX7_putTerm_60 m_X7_addSigned t_2343 t_2345 s_151 (c_X7_addSigned hl  hc_11) rfl rfl ly_252 rfl (Nat.le_of_ble_eq_true rfl) (Nat.le_of_ble_eq_true rfl) (Nat.le_of_ble_eq_true rfl) (Nat.le_of_ble_eq_true rfl) ?_
  refine z_st (st' := []) rfl ?_
  refine z_aload_n (M := M_X7_putTerm) dX7_putTerm_63 rfl ?_
  refine z_iload_n (M := M_X7_putTerm) dX7_putTerm_64 rfl ?_
  refine z_bipush (M := M_X7_putTerm) dX7_putTerm_65 (by decide +kernel) ?_
  refine z_iconst (M := M_X7_putTerm) dX7_putTerm_67 ?_
  obtain ⟨σ_14, hc_13, H⟩ := bd_e H
  refine z_callV (M := M_X7_putTerm) (M' := M_X7_multiply) (as := [vi to_0, vi 15, vi 0]) (rest := []) rfl rfl dX7_putTerm_68 m_X7_multiply t_2360 t_2362 s_155 (c_X7_multiply hl  hc_13) rfl rfl ly_252 rfl (Nat.le_of_ble_eq_true rfl) (Nat.le_of_ble_eq_true rfl) (Nat.le_of_ble_eq_true rfl) (Nat.le_of_ble_eq_true rfl) ?_
  refine z_st (st' := []) rfl ?_
  cases H
  exact z_vret (M := M_X7_putTerm) dX7_putTerm_71 rfl (Nat.le_of_ble_eq_true rfl) (Nat.le_of_ble_eq_true rfl) ⟨rfl, rfl⟩
theorem c_X7_circleSign (hl : l.stackTraces = false) {σ : SG} {i_0 : Int} {j_0 : Int} {k_0 : Int} {l_0 : Int} {r : Int} {σ' : SG}  (H : fI_circleSign σ i_0 j_0 k_0 l_0 = some (r, σ')) : en_S l E M_X7_circleSign 5 0 0 [vr 252, vi i_0, vi j_0, vi k_0, vi l_0] σ (pS (some (vi r)) σ') := by
  unfold fI_circleSign at H
  refine z_mk (lv := [some (vr 252), some (vi i_0), some (vi j_0), some (vi k_0), some (vi l_0)]) m_X7_circleSign rfl hl (Nat.le_of_ble_eq_true rfl) rfl ?_
  refine z_aload_n (M := M_X7_circleSign) dX7_circleSign_0 rfl ?_
  refine z_iconst (M := M_X7_circleSign) dX7_circleSign_1 ?_
  refine z_aload_n (M := M_X7_circleSign) dX7_circleSign_2 rfl ?_
  refine z_getR (M := M_X7_circleSign) (ci := 10) (C := RX7) (T := TX7) (Nf := 5) (ty := tyX7) cl10 dX7_circleSign_3 ly_252 0 (by decide) t_545 rfl ?_
  refine z_iload_n (M := M_X7_circleSign) dX7_circleSign_6 rfl ?_
  obtain ⟨x_1, x_1_e, hi_2, H⟩ := rd_e H
  refine z_lald (M := M_X7_circleSign) dX7_circleSign_7 ly_253 rfl rfl rfl hi_2 x_1_e ?_
  refine z_aload_n (M := M_X7_circleSign) dX7_circleSign_8 rfl ?_
  refine z_getR (M := M_X7_circleSign) (ci := 10) (C := RX7) (T := TX7) (Nf := 5) (ty := tyX7) cl10 dX7_circleSign_9 ly_252 0 (by decide) t_545 rfl ?_
  refine z_iload (M := M_X7_circleSign) dX7_circleSign_12 rfl ?_
  obtain ⟨x_3, x_3_e, hi_4, H⟩ := rd_e H
  refine z_lald (M := M_X7_circleSign) dX7_circleSign_14 ly_253 rfl rfl rfl hi_4 x_3_e ?_
  obtain ⟨σ_6, hc_5, H⟩ := bd_e H
  refine z_callV (M := M_X7_circleSign) (M' := M_X7_difference) (as := [vi 2, vl x_1, vl x_3]) (rest := []) rfl rfl dX7_circleSign_15 m_X7_difference t_2327 t_2329 s_148 (c_X7_difference hl  hc_5) rfl rfl ly_252 rfl (Nat.le_of_ble_eq_true rfl) (Nat.le_of_ble_eq_true rfl) (Nat.le_of_ble_eq_true rfl) (Nat.le_of_ble_eq_true rfl) ?_
  refine z_st (st' := []) rfl ?_
  refine z_aload_n (M := M_X7_circleSign) dX7_circleSign_18 rfl ?_
  refine z_iconst (M := M_X7_circleSign) dX7_circleSign_19 ?_
  refine z_aload_n (M := M_X7_circleSign) dX7_circleSign_20 rfl ?_
  refine z_getR (M := M_X7_circleSign) (ci := 10) (C := RX7) (T := TX7) (Nf := 5) (ty := tyX7) cl10 dX7_circleSign_21 ly_252 1 (by decide) t_547 rfl ?_
  refine z_iload_n (M := M_X7_circleSign) dX7_circleSign_24 rfl ?_
  obtain ⟨x_7, x_7_e, hi_8, H⟩ := rd_e H
  refine z_lald (M := M_X7_circleSign) dX7_circleSign_25 ly_254 rfl rfl rfl hi_8 x_7_e ?_
  refine z_aload_n (M := M_X7_circleSign) dX7_circleSign_26 rfl ?_
  refine z_getR (M := M_X7_circleSign) (ci := 10) (C := RX7) (T := TX7) (Nf := 5) (ty := tyX7) cl10 dX7_circleSign_27 ly_252 1 (by decide) t_547 rfl ?_
  refine z_iload (M := M_X7_circleSign) dX7_circleSign_30 rfl ?_
  obtain ⟨x_9, x_9_e, hi_10, H⟩ := rd_e H
  refine z_lald (M := M_X7_circleSign) dX7_circleSign_32 ly_254 rfl rfl rfl hi_10 x_9_e ?_
  obtain ⟨σ_12, hc_11, H⟩ := bd_e H
  refine z_callV (M := M_X7_circleSign) (M' := M_X7_difference) (as := [vi 3, vl x_7, vl x_9]) (rest := []) rfl rfl dX7_circleSign_33 m_X7_difference t_2327 t_2329 s_148 (c_X7_difference hl  hc_11) rfl rfl ly_252 rfl (Nat.le_of_ble_eq_true rfl) (Nat.le_of_ble_eq_true rfl) (Nat.le_of_ble_eq_true rfl) (Nat.le_of_ble_eq_true rfl) ?_
  refine z_st (st' := []) rfl ?_
  refine z_aload_n (M := M_X7_circleSign) dX7_circleSign_36 rfl ?_
  refine z_iconst (M := M_X7_circleSign) dX7_circleSign_37 ?_
  refine z_aload_n (M := M_X7_circleSign) dX7_circleSign_38 rfl ?_
  refine z_getR (M := M_X7_circleSign) (ci := 10) (C := RX7) (T := TX7) (Nf := 5) (ty := tyX7) cl10 dX7_circleSign_39 ly_252 0 (by decide) t_545 rfl ?_
  refine z_iload_n (M := M_X7_circleSign) dX7_circleSign_42 rfl ?_
  obtain ⟨x_13, x_13_e, hi_14, H⟩ := rd_e H
  refine z_lald (M := M_X7_circleSign) dX7_circleSign_43 ly_253 rfl rfl rfl hi_14 x_13_e ?_
  refine z_aload_n (M := M_X7_circleSign) dX7_circleSign_44 rfl ?_
  refine z_getR (M := M_X7_circleSign) (ci := 10) (C := RX7) (T := TX7) (Nf := 5) (ty := tyX7) cl10 dX7_circleSign_45 ly_252 0 (by decide) t_545 rfl ?_
  refine z_iload (M := M_X7_circleSign) dX7_circleSign_48 rfl ?_
  obtain ⟨x_15, x_15_e, hi_16, H⟩ := rd_e H
  refine z_lald (M := M_X7_circleSign) dX7_circleSign_50 ly_253 rfl rfl rfl hi_16 x_15_e ?_
  obtain ⟨σ_18, hc_17, H⟩ := bd_e H
  refine z_callV (M := M_X7_circleSign) (M' := M_X7_difference) (as := [vi 4, vl x_13, vl x_15]) (rest := []) rfl rfl dX7_circleSign_51 m_X7_difference t_2327 t_2329 s_148 (c_X7_difference hl  hc_17) rfl rfl ly_252 rfl (Nat.le_of_ble_eq_true rfl) (Nat.le_of_ble_eq_true rfl) (Nat.le_of_ble_eq_true rfl) (Nat.le_of_ble_eq_true rfl) ?_
  refine z_st (st' := []) rfl ?_
  refine z_aload_n (M := M_X7_circleSign) dX7_circleSign_54 rfl ?_
  refine z_iconst (M := M_X7_circleSign) dX7_circleSign_55 ?_
  refine z_aload_n (M := M_X7_circleSign) dX7_circleSign_56 rfl ?_
  refine z_getR (M := M_X7_circleSign) (ci := 10) (C := RX7) (T := TX7) (Nf := 5) (ty := tyX7) cl10 dX7_circleSign_57 ly_252 1 (by decide) t_547 rfl ?_
  refine z_iload_n (M := M_X7_circleSign) dX7_circleSign_60 rfl ?_
  obtain ⟨x_19, x_19_e, hi_20, H⟩ := rd_e H
  refine z_lald (M := M_X7_circleSign) dX7_circleSign_61 ly_254 rfl rfl rfl hi_20 x_19_e ?_
  refine z_aload_n (M := M_X7_circleSign) dX7_circleSign_62 rfl ?_
  refine z_getR (M := M_X7_circleSign) (ci := 10) (C := RX7) (T := TX7) (Nf := 5) (ty := tyX7) cl10 dX7_circleSign_63 ly_252 1 (by decide) t_547 rfl ?_
  refine z_iload (M := M_X7_circleSign) dX7_circleSign_66 rfl ?_
  obtain ⟨x_21, x_21_e, hi_22, H⟩ := rd_e H
  refine z_lald (M := M_X7_circleSign) dX7_circleSign_68 ly_254 rfl rfl rfl hi_22 x_21_e ?_
  obtain ⟨σ_24, hc_23, H⟩ := bd_e H
  refine z_callV (M := M_X7_circleSign) (M' := M_X7_difference) (as := [vi 5, vl x_19, vl x_21]) (rest := []) rfl rfl dX7_circleSign_69 m_X7_difference t_2327 t_2329 s_148 (c_X7_difference hl  hc_23) rfl rfl ly_252 rfl (Nat.le_of_ble_eq_true rfl) (Nat.le_of_ble_eq_true rfl) (Nat.le_of_ble_eq_true rfl) (Nat.le_of_ble_eq_true rfl) ?_
  refine z_st (st' := []) rfl ?_
  refine z_aload_n (M := M_X7_circleSign) dX7_circleSign_72 rfl ?_
  refine z_bipush (M := M_X7_circleSign) dX7_circleSign_73 (by decide +kernel) ?_
  refine z_aload_n (M := M_X7_circleSign) dX7_circleSign_75 rfl ?_
  refine z_getR (M := M_X7_circleSign) (ci := 10) (C := RX7) (T := TX7) (Nf := 5) (ty := tyX7) cl10 dX7_circleSign_76 ly_252 0 (by decide) t_545 rfl ?_
  refine z_iload_n (M := M_X7_circleSign) dX7_circleSign_79 rfl ?_
  obtain ⟨x_25, x_25_e, hi_26, H⟩ := rd_e H
  refine z_lald (M := M_X7_circleSign) dX7_circleSign_80 ly_253 rfl rfl rfl hi_26 x_25_e ?_
  refine z_aload_n (M := M_X7_circleSign) dX7_circleSign_81 rfl ?_
  refine z_getR (M := M_X7_circleSign) (ci := 10) (C := RX7) (T := TX7) (Nf := 5) (ty := tyX7) cl10 dX7_circleSign_82 ly_252 0 (by decide) t_545 rfl ?_
  refine z_iload (M := M_X7_circleSign) dX7_circleSign_85 rfl ?_
  obtain ⟨x_27, x_27_e, hi_28, H⟩ := rd_e H
  refine z_lald (M := M_X7_circleSign) dX7_circleSign_87 ly_253 rfl rfl rfl hi_28 x_27_e ?_
  obtain ⟨σ_30, hc_29, H⟩ := bd_e H
  refine z_callV (M := M_X7_circleSign) (M' := M_X7_difference) (as := [vi 6, vl x_25, vl x_27]) (rest := []) rfl rfl dX7_circleSign_88 m_X7_difference t_2327 t_2329 s_148 (c_X7_difference hl  hc_29) rfl rfl ly_252 rfl (Nat.le_of_ble_eq_true rfl) (Nat.le_of_ble_eq_true rfl) (Nat.le_of_ble_eq_true rfl) (Nat.le_of_ble_eq_true rfl) ?_
  refine z_st (st' := []) rfl ?_
  refine z_aload_n (M := M_X7_circleSign) dX7_circleSign_91 rfl ?_
  refine z_bipush (M := M_X7_circleSign) dX7_circleSign_92 (by decide +kernel) ?_
  refine z_aload_n (M := M_X7_circleSign) dX7_circleSign_94 rfl ?_
  refine z_getR (M := M_X7_circleSign) (ci := 10) (C := RX7) (T := TX7) (Nf := 5) (ty := tyX7) cl10 dX7_circleSign_95 ly_252 1 (by decide) t_547 rfl ?_
  refine z_iload_n (M := M_X7_circleSign) dX7_circleSign_98 rfl ?_
  obtain ⟨x_31, x_31_e, hi_32, H⟩ := rd_e H
  refine z_lald (M := M_X7_circleSign) dX7_circleSign_99 ly_254 rfl rfl rfl hi_32 x_31_e ?_
  refine z_aload_n (M := M_X7_circleSign) dX7_circleSign_100 rfl ?_
  refine z_getR (M := M_X7_circleSign) (ci := 10) (C := RX7) (T := TX7) (Nf := 5) (ty := tyX7) cl10 dX7_circleSign_101 ly_252 1 (by decide) t_547 rfl ?_
  refine z_iload (M := M_X7_circleSign) dX7_circleSign_104 rfl ?_
  obtain ⟨x_33, x_33_e, hi_34, H⟩ := rd_e H
  refine z_lald (M := M_X7_circleSign) dX7_circleSign_106 ly_254 rfl rfl rfl hi_34 x_33_e ?_
  obtain ⟨σ_36, hc_35, H⟩ := bd_e H
  refine z_callV (M := M_X7_circleSign) (M' := M_X7_difference) (as := [vi 7, vl x_31, vl x_33]) (rest := []) rfl rfl dX7_circleSign_107 m_X7_difference t_2327 t_2329 s_148 (c_X7_difference hl  hc_35) rfl rfl ly_252 rfl (Nat.le_of_ble_eq_true rfl) (Nat.le_of_ble_eq_true rfl) (Nat.le_of_ble_eq_true rfl) (Nat.le_of_ble_eq_true rfl) ?_
  refine z_st (st' := []) rfl ?_
  refine z_aload_n (M := M_X7_circleSign) dX7_circleSign_110 rfl ?_
  refine z_bipush (M := M_X7_circleSign) dX7_circleSign_111 (by decide +kernel) ?_
  refine z_iconst (M := M_X7_circleSign) dX7_circleSign_113 ?_
  refine z_iconst (M := M_X7_circleSign) dX7_circleSign_114 ?_
  refine z_bipush (M := M_X7_circleSign) dX7_circleSign_115 (by decide +kernel) ?_
  obtain ⟨σ_38, hc_37, H⟩ := bd_e H
  refine z_callV (M := M_X7_circleSign) (M' := M_X7_putTerm) (as := [vi 8, vi 2, vi 4, vi 6]) (rest := []) rfl rfl dX7_circleSign_117 m_X7_putTerm t_2375 t_2377 s_156 (c_X7_putTerm hl  hc_37) rfl rfl ly_252 rfl (Nat.le_of_ble_eq_true rfl) (Nat.le_of_ble_eq_true rfl) (Nat.le_of_ble_eq_true rfl) (Nat.le_of_ble_eq_true rfl) ?_
  refine z_st (st' := []) rfl ?_
  refine z_aload_n (M := M_X7_circleSign) dX7_circleSign_120 rfl ?_
  refine z_bipush (M := M_X7_circleSign) dX7_circleSign_121 (by decide +kernel) ?_
  refine z_iconst (M := M_X7_circleSign) dX7_circleSign_123 ?_
  refine z_bipush (M := M_X7_circleSign) dX7_circleSign_124 (by decide +kernel) ?_
  refine z_iconst (M := M_X7_circleSign) dX7_circleSign_126 ?_
  obtain ⟨σ_40, hc_39, H⟩ := bd_e H
  refine z_callV (M := M_X7_circleSign) (M' := M_X7_putTerm) (as := [vi 9, vi 4, vi 6, vi 2]) (rest := []) rfl rfl dX7_circleSign_127 m_X7_putTerm t_2375 t_2377 s_156 (c_X7_putTerm hl  hc_39) rfl rfl ly_252 rfl (Nat.le_of_ble_eq_true rfl) (Nat.le_of_ble_eq_true rfl) (Nat.le_of_ble_eq_true rfl) (Nat.le_of_ble_eq_true rfl) ?_
  refine z_st (st' := []) rfl ?_
  refine z_aload_n (M := M_X7_circleSign) dX7_circleSign_130 rfl ?_
  refine z_bipush (M := M_X7_circleSign) dX7_circleSign_131 (by decide +kernel) ?_
  refine z_bipush (M := M_X7_circleSign) dX7_circleSign_133 (by decide +kernel) ?_
  refine z_iconst (M := M_X7_circleSign) dX7_circleSign_135 ?_
  refine z_iconst (M := M_X7_circleSign) dX7_circleSign_136 ?_
  obtain ⟨σ_42, hc_41, H⟩ := bd_e H
  refine z_callV (M := M_X7_circleSign) (M' := M_X7_putTerm) (as := [vi 10, vi 6, vi 2, vi 4]) (rest := []) rfl rfl dX7_circleSign_137 m_X7_putTerm t_2375 t_2377 s_156 (c_X7_putTerm hl  hc_41) rfl rfl ly_252 rfl (Nat.le_of_ble_eq_true rfl) (Nat.le_of_ble_eq_true rfl) (Nat.le_of_ble_eq_true rfl) (Nat.le_of_ble_eq_true rfl) ?_
  refine z_st (st' := []) rfl ?_
  refine z_aload_n (M := M_X7_circleSign) dX7_circleSign_140 rfl ?_
  refine z_bipush (M := M_X7_circleSign) dX7_circleSign_141 (by decide +kernel) ?_
  refine z_bipush (M := M_X7_circleSign) dX7_circleSign_143 (by decide +kernel) ?_
  refine z_bipush (M := M_X7_circleSign) dX7_circleSign_145 (by decide +kernel) ?_
  refine z_iconst (M := M_X7_circleSign) dX7_circleSign_147 ?_
  obtain ⟨σ_44, hc_43, H⟩ := bd_e H
  refine z_callV (M := M_X7_circleSign) (M' := M_X7_addSigned) (as := [vi 11, vi 8, vi 9, vi 1]) (rest := []) rfl rfl dX7_circleSign_148 m_X7_addSigned t_2343 t_2345 s_151 (c_X7_addSigned hl  hc_43) rfl rfl ly_252 rfl (Nat.le_of_ble_eq_true rfl) (Nat.le_of_ble_eq_true rfl) (Nat.le_of_ble_eq_true rfl) (Nat.le_of_ble_eq_true rfl) ?_
  refine z_st (st' := []) rfl ?_
  refine z_aload_n (M := M_X7_circleSign) dX7_circleSign_151 rfl ?_
  refine z_bipush (M := M_X7_circleSign) dX7_circleSign_152 (by decide +kernel) ?_
  refine z_bipush (M := M_X7_circleSign) dX7_circleSign_154 (by decide +kernel) ?_
  refine z_bipush (M := M_X7_circleSign) dX7_circleSign_156 (by decide +kernel) ?_
  refine z_iconst (M := M_X7_circleSign) dX7_circleSign_158 ?_
  obtain ⟨σ_46, hc_45, H⟩ := bd_e H
  refine z_callV (M := M_X7_circleSign) (M' := M_X7_addSigned) (as := [vi 12, vi 11, vi 10, vi 1]) (rest := []) rfl rfl dX7_circleSign_159 m_X7_addSigned t_2343 t_2345 s_151 (c_X7_addSigned hl  hc_45) rfl rfl ly_252 rfl (Nat.le_of_ble_eq_true rfl) (Nat.le_of_ble_eq_true rfl) (Nat.le_of_ble_eq_true rfl) (Nat.le_of_ble_eq_true rfl) ?_
  refine z_st (st' := []) rfl ?_
  refine z_aload_n (M := M_X7_circleSign) dX7_circleSign_162 rfl ?_
  refine z_getR (M := M_X7_circleSign) (ci := 10) (C := RX7) (T := TX7) (Nf := 5) (ty := tyX7) cl10 dX7_circleSign_163 ly_252 4 (by decide) t_551 rfl ?_
  refine z_bipush (M := M_X7_circleSign) dX7_circleSign_166 (by decide +kernel) ?_
  obtain ⟨x_47, x_47_e, hi_48, H⟩ := rd_e H
  refine z_iald (M := M_X7_circleSign) dX7_circleSign_168 ly_273 rfl (by decide +kernel) rfl hi_48 x_47_e ?_
  cases H
  exact z_iret (M := M_X7_circleSign) dX7_circleSign_169 rfl (Nat.le_of_ble_eq_true rfl) (Nat.le_of_ble_eq_true rfl) ⟨rfl, rfl⟩
theorem c_X11_circle (hl : l.stackTraces = false) {σ : SG} {i_0 : Int} {j_0 : Int} {k_0 : Int} {l_0 : Int} {r : Int ⊕ Nat} {σ' : SG}  (H : fQ_circle σ i_0 j_0 k_0 l_0 = some (r, σ')) : en_S l E M_X11_circle 6 1 6 [vr 32, vi i_0, vi j_0, vi k_0, vi l_0] σ (pT (riT r) σ') := by
  unfold fQ_circle at H
  refine z_mk (lv := [some (vr 32), some (vi i_0), some (vi j_0), some (vi k_0), some (vi l_0)]) m_X11_circle rfl hl (Nat.le_of_ble_eq_true rfl) rfl ?_
  rcases if_e H with ⟨h_4, H⟩ | ⟨h_4, H⟩
  · have J_5 : YY l E M_X11_circle 6 1 6 (pT (riT r) σ') 29 [some (vr 32), some (vi i_0), some (vi j_0), some (vi k_0), some (vi l_0)] [] σ 0 0 := by
      cases H
      exact z_throw (M := M_X11_circle) (names := en_nm) rfl dX11_circle_29 dX11_circle_32 dX11_circle_33 dX11_circle_36 (by decide +kernel) en_nm_ok (Or.inl t_748) (Or.inl t_22) at_X11_IndexOutOfBoundsException_139 (Nat.le_of_ble_eq_true rfl) (Nat.le_of_ble_eq_true rfl) (Nat.le_of_ble_eq_true rfl) (Nat.le_of_ble_eq_true rfl) ⟨rfl, rfl⟩
    refine z_iload_n (M := M_X11_circle) dX11_circle_0 rfl ?_
    refine z_callS (M := M_X11_circle) (M' := M_X11_isNoSignPoint) (as := [vi i_0]) (rest := []) rfl rfl dX11_circle_1 m_X11_isNoSignPoint t_2309 t_2310 (c_X11_isNoSignPoint hl  rfl) rfl rfl (Nat.le_of_ble_eq_true rfl) (Nat.le_of_ble_eq_true rfl) (Nat.le_of_ble_eq_true rfl) (Nat.le_of_ble_eq_true rfl) ?_
    refine z_st (st' := [zv (fQ_isNoSignPoint i_0)]) rfl ?_
    by_cases h_7 : (fQ_isNoSignPoint i_0) = true
    · refine z_zne_t (M := M_X11_circle) (tgt := 29) dX11_circle_4 (by decide) h_7 ?_
      exact J_5
    · refine z_zne_f (M := M_X11_circle) (tgt := 29) dX11_circle_4 (by decide) h_7 ?_
      refine z_iload_n (M := M_X11_circle) dX11_circle_7 rfl ?_
      refine z_callS (M := M_X11_circle) (M' := M_X11_isNoSignPoint) (as := [vi j_0]) (rest := []) rfl rfl dX11_circle_8 m_X11_isNoSignPoint t_2309 t_2310 (c_X11_isNoSignPoint hl  rfl) rfl rfl (Nat.le_of_ble_eq_true rfl) (Nat.le_of_ble_eq_true rfl) (Nat.le_of_ble_eq_true rfl) (Nat.le_of_ble_eq_true rfl) ?_
      refine z_st (st' := [zv (fQ_isNoSignPoint j_0)]) rfl ?_
      by_cases h_8 : (fQ_isNoSignPoint j_0) = true
      · refine z_zne_t (M := M_X11_circle) (tgt := 29) dX11_circle_11 (by decide) h_8 ?_
        exact J_5
      · refine z_zne_f (M := M_X11_circle) (tgt := 29) dX11_circle_11 (by decide) h_8 ?_
        refine z_iload_n (M := M_X11_circle) dX11_circle_14 rfl ?_
        refine z_callS (M := M_X11_circle) (M' := M_X11_isNoSignPoint) (as := [vi k_0]) (rest := []) rfl rfl dX11_circle_15 m_X11_isNoSignPoint t_2309 t_2310 (c_X11_isNoSignPoint hl  rfl) rfl rfl (Nat.le_of_ble_eq_true rfl) (Nat.le_of_ble_eq_true rfl) (Nat.le_of_ble_eq_true rfl) (Nat.le_of_ble_eq_true rfl) ?_
        refine z_st (st' := [zv (fQ_isNoSignPoint k_0)]) rfl ?_
        by_cases h_9 : (fQ_isNoSignPoint k_0) = true
        · refine z_zne_t (M := M_X11_circle) (tgt := 29) dX11_circle_18 (by decide) h_9 ?_
          exact J_5
        · refine z_zne_f (M := M_X11_circle) (tgt := 29) dX11_circle_18 (by decide) h_9 ?_
          refine z_iload (M := M_X11_circle) dX11_circle_21 rfl ?_
          refine z_callS (M := M_X11_circle) (M' := M_X11_isNoSignPoint) (as := [vi l_0]) (rest := []) rfl rfl dX11_circle_23 m_X11_isNoSignPoint t_2309 t_2310 (c_X11_isNoSignPoint hl  rfl) rfl rfl (Nat.le_of_ble_eq_true rfl) (Nat.le_of_ble_eq_true rfl) (Nat.le_of_ble_eq_true rfl) (Nat.le_of_ble_eq_true rfl) ?_
          refine z_st (st' := [zv (fQ_isNoSignPoint l_0)]) rfl ?_
          by_cases h_10 : (fQ_isNoSignPoint l_0) = true
          · refine z_zeq_f (M := M_X11_circle) (tgt := 37) dX11_circle_26 (by decide) h_10 ?_
            exact J_5
          · refine z_zeq_t (M := M_X11_circle) (tgt := 37) dX11_circle_26 (by decide) h_10 ?_
            exact absurd h_4 (fun q => q.elim (fun q => q.elim (fun q => q.elim h_7 h_8) h_9) h_10)
  · have J_6 : YY l E M_X11_circle 6 1 6 (pT (riT r) σ') 37 [some (vr 32), some (vi i_0), some (vi j_0), some (vi k_0), some (vi l_0)] [] σ 0 0 := by
      refine z_aload_n (M := M_X11_circle) dX11_circle_37 rfl ?_
      refine z_getR (M := M_X11_circle) (ci := 14) (C := RX11) (T := TX11) (Nf := 19) (ty := tyX11) cl14 dX11_circle_38 ly_32 14 (by decide) t_577 rfl ?_
      refine z_iload_n (M := M_X11_circle) dX11_circle_41 rfl ?_
      refine z_iload_n (M := M_X11_circle) dX11_circle_42 rfl ?_
      refine z_iload_n (M := M_X11_circle) dX11_circle_43 rfl ?_
      refine z_iload (M := M_X11_circle) dX11_circle_44 rfl ?_
      obtain ⟨⟨x_3, σ_2⟩, hc_1, H⟩ := bd_e H
      refine z_callV (M := M_X11_circle) (M' := M_X7_circleSign) (as := [vi i_0, vi j_0, vi k_0, vi l_0]) (rest := []) rfl rfl dX11_circle_46 m_X7_circleSign t_2371 t_2372 t_2373 (c_X7_circleSign hl  hc_1) rfl rfl ly_252 rfl (Nat.le_of_ble_eq_true rfl) (Nat.le_of_ble_eq_true rfl) (Nat.le_of_ble_eq_true rfl) (Nat.le_of_ble_eq_true rfl) ?_
      refine z_st (st' := [vi x_3]) rfl ?_
      cases H
      exact z_iret (M := M_X11_circle) dX11_circle_49 rfl (Nat.le_of_ble_eq_true rfl) (Nat.le_of_ble_eq_true rfl) ⟨rfl, rfl⟩
    refine z_iload_n (M := M_X11_circle) dX11_circle_0 rfl ?_
    refine z_callS (M := M_X11_circle) (M' := M_X11_isNoSignPoint) (as := [vi i_0]) (rest := []) rfl rfl dX11_circle_1 m_X11_isNoSignPoint t_2309 t_2310 (c_X11_isNoSignPoint hl  rfl) rfl rfl (Nat.le_of_ble_eq_true rfl) (Nat.le_of_ble_eq_true rfl) (Nat.le_of_ble_eq_true rfl) (Nat.le_of_ble_eq_true rfl) ?_
    refine z_st (st' := [zv (fQ_isNoSignPoint i_0)]) rfl ?_
    by_cases h_11 : (fQ_isNoSignPoint i_0) = true
    · refine z_zne_t (M := M_X11_circle) (tgt := 29) dX11_circle_4 (by decide) h_11 ?_
      exact absurd (Or.inl (Or.inl (Or.inl h_11))) h_4
    · refine z_zne_f (M := M_X11_circle) (tgt := 29) dX11_circle_4 (by decide) h_11 ?_
      refine z_iload_n (M := M_X11_circle) dX11_circle_7 rfl ?_
      refine z_callS (M := M_X11_circle) (M' := M_X11_isNoSignPoint) (as := [vi j_0]) (rest := []) rfl rfl dX11_circle_8 m_X11_isNoSignPoint t_2309 t_2310 (c_X11_isNoSignPoint hl  rfl) rfl rfl (Nat.le_of_ble_eq_true rfl) (Nat.le_of_ble_eq_true rfl) (Nat.le_of_ble_eq_true rfl) (Nat.le_of_ble_eq_true rfl) ?_
      refine z_st (st' := [zv (fQ_isNoSignPoint j_0)]) rfl ?_
      by_cases h_12 : (fQ_isNoSignPoint j_0) = true
      · refine z_zne_t (M := M_X11_circle) (tgt := 29) dX11_circle_11 (by decide) h_12 ?_
        exact absurd (Or.inl (Or.inl (Or.inr h_12))) h_4
      · refine z_zne_f (M := M_X11_circle) (tgt := 29) dX11_circle_11 (by decide) h_12 ?_
        refine z_iload_n (M := M_X11_circle) dX11_circle_14 rfl ?_
        refine z_callS (M := M_X11_circle) (M' := M_X11_isNoSignPoint) (as := [vi k_0]) (rest := []) rfl rfl dX11_circle_15 m_X11_isNoSignPoint t_2309 t_2310 (c_X11_isNoSignPoint hl  rfl) rfl rfl (Nat.le_of_ble_eq_true rfl) (Nat.le_of_ble_eq_true rfl) (Nat.le_of_ble_eq_true rfl) (Nat.le_of_ble_eq_true rfl) ?_
        refine z_st (st' := [zv (fQ_isNoSignPoint k_0)]) rfl ?_
        by_cases h_13 : (fQ_isNoSignPoint k_0) = true
        · refine z_zne_t (M := M_X11_circle) (tgt := 29) dX11_circle_18 (by decide) h_13 ?_
          exact absurd (Or.inl (Or.inr h_13)) h_4
        · refine z_zne_f (M := M_X11_circle) (tgt := 29) dX11_circle_18 (by decide) h_13 ?_
          refine z_iload (M := M_X11_circle) dX11_circle_21 rfl ?_
          refine z_callS (M := M_X11_circle) (M' := M_X11_isNoSignPoint) (as := [vi l_0]) (rest := []) rfl rfl dX11_circle_23 m_X11_isNoSignPoint t_2309 t_2310 (c_X11_isNoSignPoint hl  rfl) rfl rfl (Nat.le_of_ble_eq_true rfl) (Nat.le_of_ble_eq_true rfl) (Nat.le_of_ble_eq_true rfl) (Nat.le_of_ble_eq_true rfl) ?_
          refine z_st (st' := [zv (fQ_isNoSignPoint l_0)]) rfl ?_
          by_cases h_14 : (fQ_isNoSignPoint l_0) = true
          · refine z_zeq_f (M := M_X11_circle) (tgt := 37) dX11_circle_26 (by decide) h_14 ?_
            exact absurd (Or.inr h_14) h_4
          · refine z_zeq_t (M := M_X11_circle) (tgt := 37) dX11_circle_26 (by decide) h_14 ?_
            exact J_6
theorem c_X6_hasRoomForPoint (hl : l.stackTraces = false) {σ : SG} {this_0 : Nat} {r : Bool} (h_this : isS this_0) (H : fA_hasRoomForPoint σ this_0 = r) : en_S l E M_X6_hasRoomForPoint 1 0 0 [vr this_0] σ (pS (some (zv r)) σ) := by
  unfold fA_hasRoomForPoint at H
  refine z_mk (lv := [some (vr this_0)]) m_X6_hasRoomForPoint rfl hl (Nat.le_of_ble_eq_true rfl) rfl ?_
  have J_1 : YY l E M_X6_hasRoomForPoint 1 0 0 (pS (some (zv r)) σ) 15 [some (vr this_0)] [zv (decide ((w32 (σ (kA_points this_0) 0)) < 2048))] σ 0 0 := by
    cases H
    exact z_zret (M := M_X6_hasRoomForPoint) dX6_hasRoomForPoint_15 rfl (Nat.le_of_ble_eq_true rfl) (Nat.le_of_ble_eq_true rfl) ⟨rfl, rfl⟩
  refine z_aload_n (M := M_X6_hasRoomForPoint) dX6_hasRoomForPoint_0 rfl ?_
  refine z_getI (M := M_X6_hasRoomForPoint) (ci := 9) (C := RX6) (T := TX6) (Nf := 5) (ty := tyX6) cl9 dX6_hasRoomForPoint_1 (ly_S h_this) 4 (by decide) t_83 rfl rfl ?_
  refine z_sipush (M := M_X6_hasRoomForPoint) dX6_hasRoomForPoint_4 (by decide +kernel) ?_
  by_cases h_2 : (w32 (σ (kA_points this_0) 0)) < 2048
  · refine z_icmp_ge_f (M := M_X6_hasRoomForPoint) (tgt := 14) dX6_hasRoomForPoint_7 (by decide) rfl (by decide +kernel) h_2 ?_
    refine z_iconst (M := M_X6_hasRoomForPoint) dX6_hasRoomForPoint_10 ?_
    refine z_goto (M := M_X6_hasRoomForPoint) (tgt := 15) dX6_hasRoomForPoint_11 (by decide) ?_
    exact z_st (by rw [zv_t (p := (w32 (σ (kA_points this_0) 0)) < 2048) h_2]) J_1
  · refine z_icmp_ge_t (M := M_X6_hasRoomForPoint) (tgt := 14) dX6_hasRoomForPoint_7 (by decide) rfl (by decide +kernel) (Int.not_lt.mp h_2) ?_
    refine z_iconst (M := M_X6_hasRoomForPoint) dX6_hasRoomForPoint_14 ?_
    exact z_st (by rw [zv_f (p := (w32 (σ (kA_points this_0) 0)) < 2048) h_2]) J_1
theorem c_X9_fail (hl : l.stackTraces = false) {σ : SG} {code_0 : Int} {r : Bool} {σ' : SG}  (H : fW_fail σ code_0 = some (r, σ')) : en_S l E M_X9_fail 1 0 0 [vr 167, vi code_0] σ (pS (some (zv r)) σ') := by
  unfold fW_fail at H
  refine z_mk (lv := [some (vr 167), some (vi code_0)]) m_X9_fail rfl hl (Nat.le_of_ble_eq_true rfl) rfl ?_
  refine z_aload_n (M := M_X9_fail) dX9_fail_0 rfl ?_
  refine z_iload_n (M := M_X9_fail) dX9_fail_1 rfl ?_
  obtain ⟨σ_1, σ_1_e, H⟩ := wf_e H
  refine z_putI (M := M_X9_fail) (ci := 12) (C := RX9) (T := TX9) (Nf := 12) (ty := tyX9) cl12 dX9_fail_2 ly_167 10 (by decide) t_115 rfl rfl rfl rfl σ_1_e ?_
  refine z_aload_n (M := M_X9_fail) dX9_fail_5 rfl ?_
  refine z_aload_n (M := M_X9_fail) dX9_fail_6 rfl ?_
  refine z_getI (M := M_X9_fail) (ci := 12) (C := RX9) (T := TX9) (Nf := 12) (ty := tyX9) cl12 dX9_fail_7 ly_167 6 (by decide) t_111 rfl rfl ?_
  obtain ⟨σ_2, σ_2_e, H⟩ := wf_e H
  refine z_putI (M := M_X9_fail) (ci := 12) (C := RX9) (T := TX9) (Nf := 12) (ty := tyX9) cl12 dX9_fail_10 ly_167 11 (by decide) t_117 rfl rfl rfl rfl σ_2_e ?_
  refine z_zconst (M := M_X9_fail) (b := false) dX9_fail_13 rfl ?_
  cases H
  exact z_zret (M := M_X9_fail) dX9_fail_14 rfl (Nat.le_of_ble_eq_true rfl) (Nat.le_of_ble_eq_true rfl) ⟨rfl, rfl⟩
theorem c_X9_beginsNumber (hl : l.stackTraces = false) {σ : SG} {c_0 : Int} {r : Bool}  (H : fW_beginsNumber c_0 = r) : en_S l E M_X9_beginsNumber 1 0 0 [vi c_0] σ (pS (some (zv r)) σ) := by
  unfold fW_beginsNumber at H
  refine z_mk (lv := [some (vi c_0)]) m_X9_beginsNumber rfl hl (Nat.le_of_ble_eq_true rfl) rfl ?_
  have J_1 : YY l E M_X9_beginsNumber 1 0 0 (pS (some (zv r)) σ) 35 [some (vi c_0)] [zv (decide (((((48 ≤ (w32 c_0)) ∧ ((w32 c_0) ≤ 57)) ∨ ((w32 c_0) = 43)) ∨ ((w32 c_0) = 45)) ∨ ((w32 c_0) = 46)))] σ 0 0 := by
    cases H
    exact z_zret (M := M_X9_beginsNumber) dX9_beginsNumber_35 rfl (Nat.le_of_ble_eq_true rfl) (Nat.le_of_ble_eq_true rfl) ⟨rfl, rfl⟩
  refine z_iload_n (M := M_X9_beginsNumber) dX9_beginsNumber_0 rfl ?_
  refine z_bipush (M := M_X9_beginsNumber) dX9_beginsNumber_1 (by decide +kernel) ?_
  by_cases h_2 : 48 ≤ (w32 c_0)
  · refine z_icmp_lt_f (M := M_X9_beginsNumber) (tgt := 12) dX9_beginsNumber_3 (by decide) rfl (by decide +kernel) h_2 ?_
    refine z_iload_n (M := M_X9_beginsNumber) dX9_beginsNumber_6 rfl ?_
    refine z_bipush (M := M_X9_beginsNumber) dX9_beginsNumber_7 (by decide +kernel) ?_
    by_cases h_3 : (w32 c_0) ≤ 57
    · refine z_icmp_le_t (M := M_X9_beginsNumber) (tgt := 30) dX9_beginsNumber_9 (by decide) rfl (by decide +kernel) h_3 ?_
      refine z_iconst (M := M_X9_beginsNumber) dX9_beginsNumber_30 ?_
      refine z_goto (M := M_X9_beginsNumber) (tgt := 35) dX9_beginsNumber_31 (by decide) ?_
      exact z_st (by rw [zv_t (p := ((((48 ≤ (w32 c_0)) ∧ ((w32 c_0) ≤ 57)) ∨ ((w32 c_0) = 43)) ∨ ((w32 c_0) = 45)) ∨ ((w32 c_0) = 46)) (Or.inl (Or.inl (Or.inl ⟨h_2, h_3⟩)))]) J_1
    · refine z_icmp_le_f (M := M_X9_beginsNumber) (tgt := 30) dX9_beginsNumber_9 (by decide) rfl (by decide +kernel) (Int.not_le.mp h_3) ?_
      refine z_iload_n (M := M_X9_beginsNumber) dX9_beginsNumber_12 rfl ?_
      refine z_bipush (M := M_X9_beginsNumber) dX9_beginsNumber_13 (by decide +kernel) ?_
      by_cases h_4 : (w32 c_0) = 43
      · refine z_icmp_eq_t (M := M_X9_beginsNumber) (tgt := 30) dX9_beginsNumber_15 (by decide) rfl (by decide +kernel) h_4 ?_
        refine z_iconst (M := M_X9_beginsNumber) dX9_beginsNumber_30 ?_
        refine z_goto (M := M_X9_beginsNumber) (tgt := 35) dX9_beginsNumber_31 (by decide) ?_
        exact z_st (by rw [zv_t (p := ((((48 ≤ (w32 c_0)) ∧ ((w32 c_0) ≤ 57)) ∨ ((w32 c_0) = 43)) ∨ ((w32 c_0) = 45)) ∨ ((w32 c_0) = 46)) (Or.inl (Or.inl (Or.inr h_4)))]) J_1
      · refine z_icmp_eq_f (M := M_X9_beginsNumber) (tgt := 30) dX9_beginsNumber_15 (by decide) rfl (by decide +kernel) h_4 ?_
        refine z_iload_n (M := M_X9_beginsNumber) dX9_beginsNumber_18 rfl ?_
        refine z_bipush (M := M_X9_beginsNumber) dX9_beginsNumber_19 (by decide +kernel) ?_
        by_cases h_5 : (w32 c_0) = 45
        · refine z_icmp_eq_t (M := M_X9_beginsNumber) (tgt := 30) dX9_beginsNumber_21 (by decide) rfl (by decide +kernel) h_5 ?_
          refine z_iconst (M := M_X9_beginsNumber) dX9_beginsNumber_30 ?_
          refine z_goto (M := M_X9_beginsNumber) (tgt := 35) dX9_beginsNumber_31 (by decide) ?_
          exact z_st (by rw [zv_t (p := ((((48 ≤ (w32 c_0)) ∧ ((w32 c_0) ≤ 57)) ∨ ((w32 c_0) = 43)) ∨ ((w32 c_0) = 45)) ∨ ((w32 c_0) = 46)) (Or.inl (Or.inr h_5))]) J_1
        · refine z_icmp_eq_f (M := M_X9_beginsNumber) (tgt := 30) dX9_beginsNumber_21 (by decide) rfl (by decide +kernel) h_5 ?_
          refine z_iload_n (M := M_X9_beginsNumber) dX9_beginsNumber_24 rfl ?_
          refine z_bipush (M := M_X9_beginsNumber) dX9_beginsNumber_25 (by decide +kernel) ?_
          by_cases h_6 : (w32 c_0) = 46
          · refine z_icmp_ne_f (M := M_X9_beginsNumber) (tgt := 34) dX9_beginsNumber_27 (by decide) rfl (by decide +kernel) h_6 ?_
            refine z_iconst (M := M_X9_beginsNumber) dX9_beginsNumber_30 ?_
            refine z_goto (M := M_X9_beginsNumber) (tgt := 35) dX9_beginsNumber_31 (by decide) ?_
            exact z_st (by rw [zv_t (p := ((((48 ≤ (w32 c_0)) ∧ ((w32 c_0) ≤ 57)) ∨ ((w32 c_0) = 43)) ∨ ((w32 c_0) = 45)) ∨ ((w32 c_0) = 46)) (Or.inr h_6)]) J_1
          · refine z_icmp_ne_t (M := M_X9_beginsNumber) (tgt := 34) dX9_beginsNumber_27 (by decide) rfl (by decide +kernel) h_6 ?_
            refine z_iconst (M := M_X9_beginsNumber) dX9_beginsNumber_34 ?_
            exact z_st (by rw [zv_f (p := ((((48 ≤ (w32 c_0)) ∧ ((w32 c_0) ≤ 57)) ∨ ((w32 c_0) = 43)) ∨ ((w32 c_0) = 45)) ∨ ((w32 c_0) = 46)) (fun q => q.elim (fun q => q.elim (fun q => q.elim (fun q => h_3 q.2) h_4) h_5) h_6)]) J_1
  · refine z_icmp_lt_t (M := M_X9_beginsNumber) (tgt := 12) dX9_beginsNumber_3 (by decide) rfl (by decide +kernel) (Int.not_le.mp h_2) ?_
    refine z_iload_n (M := M_X9_beginsNumber) dX9_beginsNumber_12 rfl ?_
    refine z_bipush (M := M_X9_beginsNumber) dX9_beginsNumber_13 (by decide +kernel) ?_
    by_cases h_7 : (w32 c_0) = 43
    · refine z_icmp_eq_t (M := M_X9_beginsNumber) (tgt := 30) dX9_beginsNumber_15 (by decide) rfl (by decide +kernel) h_7 ?_
      refine z_iconst (M := M_X9_beginsNumber) dX9_beginsNumber_30 ?_
      refine z_goto (M := M_X9_beginsNumber) (tgt := 35) dX9_beginsNumber_31 (by decide) ?_
      exact z_st (by rw [zv_t (p := ((((48 ≤ (w32 c_0)) ∧ ((w32 c_0) ≤ 57)) ∨ ((w32 c_0) = 43)) ∨ ((w32 c_0) = 45)) ∨ ((w32 c_0) = 46)) (Or.inl (Or.inl (Or.inr h_7)))]) J_1
    · refine z_icmp_eq_f (M := M_X9_beginsNumber) (tgt := 30) dX9_beginsNumber_15 (by decide) rfl (by decide +kernel) h_7 ?_
      refine z_iload_n (M := M_X9_beginsNumber) dX9_beginsNumber_18 rfl ?_
      refine z_bipush (M := M_X9_beginsNumber) dX9_beginsNumber_19 (by decide +kernel) ?_
      by_cases h_8 : (w32 c_0) = 45
      · refine z_icmp_eq_t (M := M_X9_beginsNumber) (tgt := 30) dX9_beginsNumber_21 (by decide) rfl (by decide +kernel) h_8 ?_
        refine z_iconst (M := M_X9_beginsNumber) dX9_beginsNumber_30 ?_
        refine z_goto (M := M_X9_beginsNumber) (tgt := 35) dX9_beginsNumber_31 (by decide) ?_
        exact z_st (by rw [zv_t (p := ((((48 ≤ (w32 c_0)) ∧ ((w32 c_0) ≤ 57)) ∨ ((w32 c_0) = 43)) ∨ ((w32 c_0) = 45)) ∨ ((w32 c_0) = 46)) (Or.inl (Or.inr h_8))]) J_1
      · refine z_icmp_eq_f (M := M_X9_beginsNumber) (tgt := 30) dX9_beginsNumber_21 (by decide) rfl (by decide +kernel) h_8 ?_
        refine z_iload_n (M := M_X9_beginsNumber) dX9_beginsNumber_24 rfl ?_
        refine z_bipush (M := M_X9_beginsNumber) dX9_beginsNumber_25 (by decide +kernel) ?_
        by_cases h_9 : (w32 c_0) = 46
        · refine z_icmp_ne_f (M := M_X9_beginsNumber) (tgt := 34) dX9_beginsNumber_27 (by decide) rfl (by decide +kernel) h_9 ?_
          refine z_iconst (M := M_X9_beginsNumber) dX9_beginsNumber_30 ?_
          refine z_goto (M := M_X9_beginsNumber) (tgt := 35) dX9_beginsNumber_31 (by decide) ?_
          exact z_st (by rw [zv_t (p := ((((48 ≤ (w32 c_0)) ∧ ((w32 c_0) ≤ 57)) ∨ ((w32 c_0) = 43)) ∨ ((w32 c_0) = 45)) ∨ ((w32 c_0) = 46)) (Or.inr h_9)]) J_1
        · refine z_icmp_ne_t (M := M_X9_beginsNumber) (tgt := 34) dX9_beginsNumber_27 (by decide) rfl (by decide +kernel) h_9 ?_
          refine z_iconst (M := M_X9_beginsNumber) dX9_beginsNumber_34 ?_
          exact z_st (by rw [zv_f (p := ((((48 ≤ (w32 c_0)) ∧ ((w32 c_0) ≤ 57)) ∨ ((w32 c_0) = 43)) ∨ ((w32 c_0) = 45)) ∨ ((w32 c_0) = 46)) (fun q => q.elim (fun q => q.elim (fun q => q.elim (fun q => h_2 q.1) h_7) h_8) h_9)]) J_1
theorem c_X9_isLetter (hl : l.stackTraces = false) {σ : SG} {c_0 : Int} {r : Bool}  (H : fW_isLetter c_0 = r) : en_S l E M_X9_isLetter 1 0 0 [vi c_0] σ (pS (some (zv r)) σ) := by
  unfold fW_isLetter at H
  refine z_mk (lv := [some (vi c_0)]) m_X9_isLetter rfl hl (Nat.le_of_ble_eq_true rfl) rfl ?_
  have J_1 : YY l E M_X9_isLetter 1 0 0 (pS (some (zv r)) σ) 29 [some (vi c_0)] [zv (decide (((65 ≤ (w32 c_0)) ∧ ((w32 c_0) ≤ 90)) ∨ ((97 ≤ (w32 c_0)) ∧ ((w32 c_0) ≤ 122))))] σ 0 0 := by
    cases H
    exact z_zret (M := M_X9_isLetter) dX9_isLetter_29 rfl (Nat.le_of_ble_eq_true rfl) (Nat.le_of_ble_eq_true rfl) ⟨rfl, rfl⟩
  refine z_iload_n (M := M_X9_isLetter) dX9_isLetter_0 rfl ?_
  refine z_bipush (M := M_X9_isLetter) dX9_isLetter_1 (by decide +kernel) ?_
  by_cases h_2 : 65 ≤ (w32 c_0)
  · refine z_icmp_lt_f (M := M_X9_isLetter) (tgt := 12) dX9_isLetter_3 (by decide) rfl (by decide +kernel) h_2 ?_
    refine z_iload_n (M := M_X9_isLetter) dX9_isLetter_6 rfl ?_
    refine z_bipush (M := M_X9_isLetter) dX9_isLetter_7 (by decide +kernel) ?_
    by_cases h_3 : (w32 c_0) ≤ 90
    · refine z_icmp_le_t (M := M_X9_isLetter) (tgt := 24) dX9_isLetter_9 (by decide) rfl (by decide +kernel) h_3 ?_
      refine z_iconst (M := M_X9_isLetter) dX9_isLetter_24 ?_
      refine z_goto (M := M_X9_isLetter) (tgt := 29) dX9_isLetter_25 (by decide) ?_
      exact z_st (by rw [zv_t (p := ((65 ≤ (w32 c_0)) ∧ ((w32 c_0) ≤ 90)) ∨ ((97 ≤ (w32 c_0)) ∧ ((w32 c_0) ≤ 122))) (Or.inl ⟨h_2, h_3⟩)]) J_1
    · refine z_icmp_le_f (M := M_X9_isLetter) (tgt := 24) dX9_isLetter_9 (by decide) rfl (by decide +kernel) (Int.not_le.mp h_3) ?_
      refine z_iload_n (M := M_X9_isLetter) dX9_isLetter_12 rfl ?_
      refine z_bipush (M := M_X9_isLetter) dX9_isLetter_13 (by decide +kernel) ?_
      by_cases h_4 : 97 ≤ (w32 c_0)
      · refine z_icmp_lt_f (M := M_X9_isLetter) (tgt := 28) dX9_isLetter_15 (by decide) rfl (by decide +kernel) h_4 ?_
        refine z_iload_n (M := M_X9_isLetter) dX9_isLetter_18 rfl ?_
        refine z_bipush (M := M_X9_isLetter) dX9_isLetter_19 (by decide +kernel) ?_
        by_cases h_5 : (w32 c_0) ≤ 122
        · refine z_icmp_gt_f (M := M_X9_isLetter) (tgt := 28) dX9_isLetter_21 (by decide) rfl (by decide +kernel) h_5 ?_
          refine z_iconst (M := M_X9_isLetter) dX9_isLetter_24 ?_
          refine z_goto (M := M_X9_isLetter) (tgt := 29) dX9_isLetter_25 (by decide) ?_
          exact z_st (by rw [zv_t (p := ((65 ≤ (w32 c_0)) ∧ ((w32 c_0) ≤ 90)) ∨ ((97 ≤ (w32 c_0)) ∧ ((w32 c_0) ≤ 122))) (Or.inr ⟨h_4, h_5⟩)]) J_1
        · refine z_icmp_gt_t (M := M_X9_isLetter) (tgt := 28) dX9_isLetter_21 (by decide) rfl (by decide +kernel) (Int.not_le.mp h_5) ?_
          refine z_iconst (M := M_X9_isLetter) dX9_isLetter_28 ?_
          exact z_st (by rw [zv_f (p := ((65 ≤ (w32 c_0)) ∧ ((w32 c_0) ≤ 90)) ∨ ((97 ≤ (w32 c_0)) ∧ ((w32 c_0) ≤ 122))) (fun q => q.elim (fun q => h_3 q.2) (fun q => h_5 q.2))]) J_1
      · refine z_icmp_lt_t (M := M_X9_isLetter) (tgt := 28) dX9_isLetter_15 (by decide) rfl (by decide +kernel) (Int.not_le.mp h_4) ?_
        refine z_iconst (M := M_X9_isLetter) dX9_isLetter_28 ?_
        exact z_st (by rw [zv_f (p := ((65 ≤ (w32 c_0)) ∧ ((w32 c_0) ≤ 90)) ∨ ((97 ≤ (w32 c_0)) ∧ ((w32 c_0) ≤ 122))) (fun q => q.elim (fun q => h_3 q.2) (fun q => h_4 q.1))]) J_1
  · refine z_icmp_lt_t (M := M_X9_isLetter) (tgt := 12) dX9_isLetter_3 (by decide) rfl (by decide +kernel) (Int.not_le.mp h_2) ?_
    refine z_iload_n (M := M_X9_isLetter) dX9_isLetter_12 rfl ?_
    refine z_bipush (M := M_X9_isLetter) dX9_isLetter_13 (by decide +kernel) ?_
    by_cases h_6 : 97 ≤ (w32 c_0)
    · refine z_icmp_lt_f (M := M_X9_isLetter) (tgt := 28) dX9_isLetter_15 (by decide) rfl (by decide +kernel) h_6 ?_
      refine z_iload_n (M := M_X9_isLetter) dX9_isLetter_18 rfl ?_
      refine z_bipush (M := M_X9_isLetter) dX9_isLetter_19 (by decide +kernel) ?_
      by_cases h_7 : (w32 c_0) ≤ 122
      · refine z_icmp_gt_f (M := M_X9_isLetter) (tgt := 28) dX9_isLetter_21 (by decide) rfl (by decide +kernel) h_7 ?_
        refine z_iconst (M := M_X9_isLetter) dX9_isLetter_24 ?_
        refine z_goto (M := M_X9_isLetter) (tgt := 29) dX9_isLetter_25 (by decide) ?_
        exact z_st (by rw [zv_t (p := ((65 ≤ (w32 c_0)) ∧ ((w32 c_0) ≤ 90)) ∨ ((97 ≤ (w32 c_0)) ∧ ((w32 c_0) ≤ 122))) (Or.inr ⟨h_6, h_7⟩)]) J_1
      · refine z_icmp_gt_t (M := M_X9_isLetter) (tgt := 28) dX9_isLetter_21 (by decide) rfl (by decide +kernel) (Int.not_le.mp h_7) ?_
        refine z_iconst (M := M_X9_isLetter) dX9_isLetter_28 ?_
        exact z_st (by rw [zv_f (p := ((65 ≤ (w32 c_0)) ∧ ((w32 c_0) ≤ 90)) ∨ ((97 ≤ (w32 c_0)) ∧ ((w32 c_0) ≤ 122))) (fun q => q.elim (fun q => h_2 q.1) (fun q => h_7 q.2))]) J_1
    · refine z_icmp_lt_t (M := M_X9_isLetter) (tgt := 28) dX9_isLetter_15 (by decide) rfl (by decide +kernel) (Int.not_le.mp h_6) ?_
      refine z_iconst (M := M_X9_isLetter) dX9_isLetter_28 ?_
      exact z_st (by rw [zv_f (p := ((65 ≤ (w32 c_0)) ∧ ((w32 c_0) ≤ 90)) ∨ ((97 ≤ (w32 c_0)) ∧ ((w32 c_0) ≤ 122))) (fun q => q.elim (fun q => h_2 q.1) (fun q => h_6 q.1))]) J_1
theorem c_X9_signAt (hl : l.stackTraces = false) {σ : SG} {i_0 : Int} {r : Int}  (H : fW_signAt σ i_0 = some r) : en_S l E M_X9_signAt 1 0 0 [vr 167, vi i_0] σ (pS (some (vi r)) σ) := by
  unfold fW_signAt at H
  refine z_mk (lv := [some (vr 167), some (vi i_0)]) m_X9_signAt rfl hl (Nat.le_of_ble_eq_true rfl) rfl ?_
  obtain ⟨v_15, he_16, hk_17⟩ := bd_e H
  have J_18 : ∀ x_14, v_15 = x_14 → YY l E M_X9_signAt 1 0 0 (pS (some (vi r)) σ) 26 [some (vr 167), some (vi i_0)] [vi x_14] σ 0 0 := by
    intro x_14 e
    have H := hk_17
    rw [e] at H
    cases H
    exact z_iret (M := M_X9_signAt) dX9_signAt_26 rfl (Nat.le_of_ble_eq_true rfl) (Nat.le_of_ble_eq_true rfl) ⟨rfl, rfl⟩
  have H := he_16
  rcases if_e H with ⟨h_7, H⟩ | ⟨h_7, H⟩
  · have J_8 : YY l E M_X9_signAt 1 0 0 (pS (some (vi r)) σ) 12 [some (vr 167), some (vi i_0)] [] σ 0 0 := by
      refine z_aload_n (M := M_X9_signAt) dX9_signAt_12 rfl ?_
      refine z_getR (M := M_X9_signAt) (ci := 12) (C := RX9) (T := TX9) (Nf := 12) (ty := tyX9) cl12 dX9_signAt_13 ly_167 1 (by decide) t_106 rfl ?_
      refine z_iload_n (M := M_X9_signAt) dX9_signAt_16 rfl ?_
      obtain ⟨x_3, x_3_e, hi_4, H⟩ := rd_e H
      refine z_bald (M := M_X9_signAt) dX9_signAt_17 ly_166 rfl rfl rfl hi_4 x_3_e ?_
      refine z_sipush (M := M_X9_signAt) dX9_signAt_18 (by decide +kernel) ?_
      refine z_iand (M := M_X9_signAt) dX9_signAt_21 ?_
      refine z_goto (M := M_X9_signAt) (tgt := 26) dX9_signAt_22 (by decide) ?_
      exact J_18 _ (Option.some.inj H).symm
    refine z_iload_n (M := M_X9_signAt) dX9_signAt_0 rfl ?_
    by_cases h_10 : 0 ≤ (w32 i_0)
    · refine z_if_lt_f (M := M_X9_signAt) (tgt := 25) dX9_signAt_1 (by decide) rfl h_10 ?_
      refine z_iload_n (M := M_X9_signAt) dX9_signAt_4 rfl ?_
      refine z_aload_n (M := M_X9_signAt) dX9_signAt_5 rfl ?_
      refine z_getI (M := M_X9_signAt) (ci := 12) (C := RX9) (T := TX9) (Nf := 12) (ty := tyX9) cl12 dX9_signAt_6 ly_167 5 (by decide) t_110 rfl rfl ?_
      by_cases h_11 : (w32 i_0) < (w32 (σ kW_length 0))
      · refine z_icmp_ge_f (M := M_X9_signAt) (tgt := 25) dX9_signAt_9 (by decide) rfl rfl h_11 ?_
        exact J_8
      · refine z_icmp_ge_t (M := M_X9_signAt) (tgt := 25) dX9_signAt_9 (by decide) rfl rfl (Int.not_lt.mp h_11) ?_
        exact absurd h_7 (fun q => h_11 q.2)
    · refine z_if_lt_t (M := M_X9_signAt) (tgt := 25) dX9_signAt_1 (by decide) rfl (Int.not_le.mp h_10) ?_
      exact absurd h_7 (fun q => h_10 q.1)
  · have J_9 : YY l E M_X9_signAt 1 0 0 (pS (some (vi r)) σ) 25 [some (vr 167), some (vi i_0)] [] σ 0 0 := by
      refine z_iconst (M := M_X9_signAt) dX9_signAt_25 ?_
      exact J_18 _ (Option.some.inj H).symm
    refine z_iload_n (M := M_X9_signAt) dX9_signAt_0 rfl ?_
    by_cases h_12 : 0 ≤ (w32 i_0)
    · refine z_if_lt_f (M := M_X9_signAt) (tgt := 25) dX9_signAt_1 (by decide) rfl h_12 ?_
      refine z_iload_n (M := M_X9_signAt) dX9_signAt_4 rfl ?_
      refine z_aload_n (M := M_X9_signAt) dX9_signAt_5 rfl ?_
      refine z_getI (M := M_X9_signAt) (ci := 12) (C := RX9) (T := TX9) (Nf := 12) (ty := tyX9) cl12 dX9_signAt_6 ly_167 5 (by decide) t_110 rfl rfl ?_
      by_cases h_13 : (w32 i_0) < (w32 (σ kW_length 0))
      · refine z_icmp_ge_f (M := M_X9_signAt) (tgt := 25) dX9_signAt_9 (by decide) rfl rfl h_13 ?_
        exact absurd ⟨h_12, h_13⟩ h_7
      · refine z_icmp_ge_t (M := M_X9_signAt) (tgt := 25) dX9_signAt_9 (by decide) rfl rfl (Int.not_lt.mp h_13) ?_
        exact J_9
    · refine z_if_lt_t (M := M_X9_signAt) (tgt := 25) dX9_signAt_1 (by decide) rfl (Int.not_le.mp h_12) ?_
      exact J_9
theorem c_X9_unexpected (hl : l.stackTraces = false) {σ : SG} {r : Bool} {σ' : SG}  (H : fW_unexpected σ = some (r, σ')) : en_S l E M_X9_unexpected 2 0 0 [vr 167] σ (pS (some (zv r)) σ') := by
  unfold fW_unexpected at H
  refine z_mk (lv := [some (vr 167), none, none]) m_X9_unexpected rfl hl (Nat.le_of_ble_eq_true rfl) rfl ?_
  refine z_aload_n (M := M_X9_unexpected) dX9_unexpected_0 rfl ?_
  refine z_aload_n (M := M_X9_unexpected) dX9_unexpected_1 rfl ?_
  refine z_getI (M := M_X9_unexpected) (ci := 12) (C := RX9) (T := TX9) (Nf := 12) (ty := tyX9) cl12 dX9_unexpected_2 ly_167 6 (by decide) t_111 rfl rfl ?_
  obtain ⟨x_2, hc_1, H⟩ := bd_e H
  refine z_callV (M := M_X9_unexpected) (M' := M_X9_signAt) (as := [vi (σ kW_at 0)]) (rest := []) rfl rfl dX9_unexpected_5 m_X9_signAt t_783 t_785 s_5 (c_X9_signAt hl  hc_1) rfl rfl ly_167 rfl (Nat.le_of_ble_eq_true rfl) (Nat.le_of_ble_eq_true rfl) (Nat.le_of_ble_eq_true rfl) (Nat.le_of_ble_eq_true rfl) ?_
  refine z_st (st' := [vi x_2]) rfl ?_
  refine z_istore_n (M := M_X9_unexpected) (lv' := [some (vr 167), some (vi x_2), none]) dX9_unexpected_8 (Nat.le_of_ble_eq_true rfl) rfl rfl ?_
  have J_3 : YY l E M_X9_unexpected 2 0 0 (pS (some (zv r)) σ') 50 [some (vr 167), some (vi x_2), none] [zv (decide (((((((w32 x_2) < 0) ∨ ((fW_isLetter x_2) = true)) ∨ ((fW_beginsNumber x_2) = true)) ∨ ((w32 x_2) = 40)) ∨ ((w32 x_2) = 41)) ∨ ((w32 x_2) = 44)))] σ 0 0 := by
    obtain ⟨x_4, x_4_e, H⟩ := lt_e H
    refine z_st (congrArg (fun z => zv z :: []) x_4_e) ?_
    refine z_zstore_n (M := M_X9_unexpected) (lv' := [some (vr 167), some (vi x_2), some (zv x_4)]) dX9_unexpected_50 (Nat.le_of_ble_eq_true rfl) rfl rfl ?_
    refine z_aload_n (M := M_X9_unexpected) dX9_unexpected_51 rfl ?_
    have J_5 : YY l E M_X9_unexpected 2 0 0 (pS (some (zv r)) σ') 61 [some (vr 167), some (vi x_2), some (zv x_4)] [vi (if x_4 = true then 3 else 1), vr 167] σ 0 0 := by
      obtain ⟨⟨x_8, σ_7⟩, hc_6, H⟩ := bd_e H
      refine z_callV (M := M_X9_unexpected) (M' := M_X9_fail) (as := [vi (if x_4 = true then 3 else 1)]) (rest := []) rfl rfl dX9_unexpected_61 m_X9_fail t_797 t_799 s_7 (c_X9_fail hl  hc_6) rfl rfl ly_167 rfl (Nat.le_of_ble_eq_true rfl) (Nat.le_of_ble_eq_true rfl) (Nat.le_of_ble_eq_true rfl) (Nat.le_of_ble_eq_true rfl) ?_
      refine z_st (st' := [zv x_8]) rfl ?_
      cases H
      exact z_zret (M := M_X9_unexpected) dX9_unexpected_64 rfl (Nat.le_of_ble_eq_true rfl) (Nat.le_of_ble_eq_true rfl) ⟨rfl, rfl⟩
    refine z_zload_n (M := M_X9_unexpected) dX9_unexpected_52 rfl ?_
    by_cases h_9 : x_4 = true
    · refine z_zeq_f (M := M_X9_unexpected) (tgt := 60) dX9_unexpected_53 (by decide) h_9 ?_
      refine z_iconst (M := M_X9_unexpected) dX9_unexpected_56 ?_
      refine z_goto (M := M_X9_unexpected) (tgt := 61) dX9_unexpected_57 (by decide) ?_
      exact z_st (by rw [if_pos (c := x_4 = true) h_9]) J_5
    · refine z_zeq_t (M := M_X9_unexpected) (tgt := 60) dX9_unexpected_53 (by decide) h_9 ?_
      refine z_iconst (M := M_X9_unexpected) dX9_unexpected_60 ?_
      exact z_st (by rw [if_neg (c := x_4 = true) h_9]) J_5
  refine z_iload_n (M := M_X9_unexpected) dX9_unexpected_9 rfl ?_
  by_cases h_10 : (w32 x_2) < 0
  · refine z_if_lt_t (M := M_X9_unexpected) (tgt := 45) dX9_unexpected_10 (by decide) rfl h_10 ?_
    refine z_iconst (M := M_X9_unexpected) dX9_unexpected_45 ?_
    refine z_goto (M := M_X9_unexpected) (tgt := 50) dX9_unexpected_46 (by decide) ?_
    exact z_st (by rw [zv_t (p := ((((((w32 x_2) < 0) ∨ ((fW_isLetter x_2) = true)) ∨ ((fW_beginsNumber x_2) = true)) ∨ ((w32 x_2) = 40)) ∨ ((w32 x_2) = 41)) ∨ ((w32 x_2) = 44)) (Or.inl (Or.inl (Or.inl (Or.inl (Or.inl h_10)))))]) J_3
  · refine z_if_lt_f (M := M_X9_unexpected) (tgt := 45) dX9_unexpected_10 (by decide) rfl (Int.not_lt.mp h_10) ?_
    refine z_iload_n (M := M_X9_unexpected) dX9_unexpected_13 rfl ?_
    refine z_callS (M := M_X9_unexpected) (M' := M_X9_isLetter) (as := [vi x_2]) (rest := []) rfl rfl dX9_unexpected_14 m_X9_isLetter t_787 t_788 (c_X9_isLetter hl  rfl) rfl rfl (Nat.le_of_ble_eq_true rfl) (Nat.le_of_ble_eq_true rfl) (Nat.le_of_ble_eq_true rfl) (Nat.le_of_ble_eq_true rfl) ?_
    refine z_st (st' := [zv (fW_isLetter x_2)]) rfl ?_
    by_cases h_11 : (fW_isLetter x_2) = true
    · refine z_zne_t (M := M_X9_unexpected) (tgt := 45) dX9_unexpected_17 (by decide) h_11 ?_
      refine z_iconst (M := M_X9_unexpected) dX9_unexpected_45 ?_
      refine z_goto (M := M_X9_unexpected) (tgt := 50) dX9_unexpected_46 (by decide) ?_
      exact z_st (by rw [zv_t (p := ((((((w32 x_2) < 0) ∨ ((fW_isLetter x_2) = true)) ∨ ((fW_beginsNumber x_2) = true)) ∨ ((w32 x_2) = 40)) ∨ ((w32 x_2) = 41)) ∨ ((w32 x_2) = 44)) (Or.inl (Or.inl (Or.inl (Or.inl (Or.inr h_11)))))]) J_3
    · refine z_zne_f (M := M_X9_unexpected) (tgt := 45) dX9_unexpected_17 (by decide) h_11 ?_
      refine z_iload_n (M := M_X9_unexpected) dX9_unexpected_20 rfl ?_
      refine z_callS (M := M_X9_unexpected) (M' := M_X9_beginsNumber) (as := [vi x_2]) (rest := []) rfl rfl dX9_unexpected_21 m_X9_beginsNumber t_794 t_795 (c_X9_beginsNumber hl  rfl) rfl rfl (Nat.le_of_ble_eq_true rfl) (Nat.le_of_ble_eq_true rfl) (Nat.le_of_ble_eq_true rfl) (Nat.le_of_ble_eq_true rfl) ?_
      refine z_st (st' := [zv (fW_beginsNumber x_2)]) rfl ?_
      by_cases h_12 : (fW_beginsNumber x_2) = true
      · refine z_zne_t (M := M_X9_unexpected) (tgt := 45) dX9_unexpected_24 (by decide) h_12 ?_
        refine z_iconst (M := M_X9_unexpected) dX9_unexpected_45 ?_
        refine z_goto (M := M_X9_unexpected) (tgt := 50) dX9_unexpected_46 (by decide) ?_
        exact z_st (by rw [zv_t (p := ((((((w32 x_2) < 0) ∨ ((fW_isLetter x_2) = true)) ∨ ((fW_beginsNumber x_2) = true)) ∨ ((w32 x_2) = 40)) ∨ ((w32 x_2) = 41)) ∨ ((w32 x_2) = 44)) (Or.inl (Or.inl (Or.inl (Or.inr h_12))))]) J_3
      · refine z_zne_f (M := M_X9_unexpected) (tgt := 45) dX9_unexpected_24 (by decide) h_12 ?_
        refine z_iload_n (M := M_X9_unexpected) dX9_unexpected_27 rfl ?_
        refine z_bipush (M := M_X9_unexpected) dX9_unexpected_28 (by decide +kernel) ?_
        by_cases h_13 : (w32 x_2) = 40
        · refine z_icmp_eq_t (M := M_X9_unexpected) (tgt := 45) dX9_unexpected_30 (by decide) rfl (by decide +kernel) h_13 ?_
          refine z_iconst (M := M_X9_unexpected) dX9_unexpected_45 ?_
          refine z_goto (M := M_X9_unexpected) (tgt := 50) dX9_unexpected_46 (by decide) ?_
          exact z_st (by rw [zv_t (p := ((((((w32 x_2) < 0) ∨ ((fW_isLetter x_2) = true)) ∨ ((fW_beginsNumber x_2) = true)) ∨ ((w32 x_2) = 40)) ∨ ((w32 x_2) = 41)) ∨ ((w32 x_2) = 44)) (Or.inl (Or.inl (Or.inr h_13)))]) J_3
        · refine z_icmp_eq_f (M := M_X9_unexpected) (tgt := 45) dX9_unexpected_30 (by decide) rfl (by decide +kernel) h_13 ?_
          refine z_iload_n (M := M_X9_unexpected) dX9_unexpected_33 rfl ?_
          refine z_bipush (M := M_X9_unexpected) dX9_unexpected_34 (by decide +kernel) ?_
          by_cases h_14 : (w32 x_2) = 41
          · refine z_icmp_eq_t (M := M_X9_unexpected) (tgt := 45) dX9_unexpected_36 (by decide) rfl (by decide +kernel) h_14 ?_
            refine z_iconst (M := M_X9_unexpected) dX9_unexpected_45 ?_
            refine z_goto (M := M_X9_unexpected) (tgt := 50) dX9_unexpected_46 (by decide) ?_
            exact z_st (by rw [zv_t (p := ((((((w32 x_2) < 0) ∨ ((fW_isLetter x_2) = true)) ∨ ((fW_beginsNumber x_2) = true)) ∨ ((w32 x_2) = 40)) ∨ ((w32 x_2) = 41)) ∨ ((w32 x_2) = 44)) (Or.inl (Or.inr h_14))]) J_3
          · refine z_icmp_eq_f (M := M_X9_unexpected) (tgt := 45) dX9_unexpected_36 (by decide) rfl (by decide +kernel) h_14 ?_
            refine z_iload_n (M := M_X9_unexpected) dX9_unexpected_39 rfl ?_
            refine z_bipush (M := M_X9_unexpected) dX9_unexpected_40 (by decide +kernel) ?_
            by_cases h_15 : (w32 x_2) = 44
            · refine z_icmp_ne_f (M := M_X9_unexpected) (tgt := 49) dX9_unexpected_42 (by decide) rfl (by decide +kernel) h_15 ?_
              refine z_iconst (M := M_X9_unexpected) dX9_unexpected_45 ?_
              refine z_goto (M := M_X9_unexpected) (tgt := 50) dX9_unexpected_46 (by decide) ?_
              exact z_st (by rw [zv_t (p := ((((((w32 x_2) < 0) ∨ ((fW_isLetter x_2) = true)) ∨ ((fW_beginsNumber x_2) = true)) ∨ ((w32 x_2) = 40)) ∨ ((w32 x_2) = 41)) ∨ ((w32 x_2) = 44)) (Or.inr h_15)]) J_3
            · refine z_icmp_ne_t (M := M_X9_unexpected) (tgt := 49) dX9_unexpected_42 (by decide) rfl (by decide +kernel) h_15 ?_
              refine z_iconst (M := M_X9_unexpected) dX9_unexpected_49 ?_
              exact z_st (by rw [zv_f (p := ((((((w32 x_2) < 0) ∨ ((fW_isLetter x_2) = true)) ∨ ((fW_beginsNumber x_2) = true)) ∨ ((w32 x_2) = 40)) ∨ ((w32 x_2) = 41)) ∨ ((w32 x_2) = 44)) (fun q => q.elim (fun q => q.elim (fun q => q.elim (fun q => q.elim (fun q => q.elim h_10 h_11) h_12) h_13) h_14) h_15)]) J_3
theorem c_X9_isBlank (hl : l.stackTraces = false) {σ : SG} {c_0 : Int} {r : Bool}  (H : fW_isBlank c_0 = r) : en_S l E M_X9_isBlank 1 0 0 [vi c_0] σ (pS (some (zv r)) σ) := by
  unfold fW_isBlank at H
  refine z_mk (lv := [some (vi c_0)]) m_X9_isBlank rfl hl (Nat.le_of_ble_eq_true rfl) rfl ?_
  have J_1 : YY l E M_X9_isBlank 1 0 0 (pS (some (zv r)) σ) 29 [some (vi c_0)] [zv (decide (((((w32 c_0) = 32) ∨ ((w32 c_0) = 9)) ∨ ((w32 c_0) = 10)) ∨ ((w32 c_0) = 13)))] σ 0 0 := by
    cases H
    exact z_zret (M := M_X9_isBlank) dX9_isBlank_29 rfl (Nat.le_of_ble_eq_true rfl) (Nat.le_of_ble_eq_true rfl) ⟨rfl, rfl⟩
  refine z_iload_n (M := M_X9_isBlank) dX9_isBlank_0 rfl ?_
  refine z_bipush (M := M_X9_isBlank) dX9_isBlank_1 (by decide +kernel) ?_
  by_cases h_2 : (w32 c_0) = 32
  · refine z_icmp_eq_t (M := M_X9_isBlank) (tgt := 24) dX9_isBlank_3 (by decide) rfl (by decide +kernel) h_2 ?_
    refine z_iconst (M := M_X9_isBlank) dX9_isBlank_24 ?_
    refine z_goto (M := M_X9_isBlank) (tgt := 29) dX9_isBlank_25 (by decide) ?_
    exact z_st (by rw [zv_t (p := ((((w32 c_0) = 32) ∨ ((w32 c_0) = 9)) ∨ ((w32 c_0) = 10)) ∨ ((w32 c_0) = 13)) (Or.inl (Or.inl (Or.inl h_2)))]) J_1
  · refine z_icmp_eq_f (M := M_X9_isBlank) (tgt := 24) dX9_isBlank_3 (by decide) rfl (by decide +kernel) h_2 ?_
    refine z_iload_n (M := M_X9_isBlank) dX9_isBlank_6 rfl ?_
    refine z_bipush (M := M_X9_isBlank) dX9_isBlank_7 (by decide +kernel) ?_
    by_cases h_3 : (w32 c_0) = 9
    · refine z_icmp_eq_t (M := M_X9_isBlank) (tgt := 24) dX9_isBlank_9 (by decide) rfl (by decide +kernel) h_3 ?_
      refine z_iconst (M := M_X9_isBlank) dX9_isBlank_24 ?_
      refine z_goto (M := M_X9_isBlank) (tgt := 29) dX9_isBlank_25 (by decide) ?_
      exact z_st (by rw [zv_t (p := ((((w32 c_0) = 32) ∨ ((w32 c_0) = 9)) ∨ ((w32 c_0) = 10)) ∨ ((w32 c_0) = 13)) (Or.inl (Or.inl (Or.inr h_3)))]) J_1
    · refine z_icmp_eq_f (M := M_X9_isBlank) (tgt := 24) dX9_isBlank_9 (by decide) rfl (by decide +kernel) h_3 ?_
      refine z_iload_n (M := M_X9_isBlank) dX9_isBlank_12 rfl ?_
      refine z_bipush (M := M_X9_isBlank) dX9_isBlank_13 (by decide +kernel) ?_
      by_cases h_4 : (w32 c_0) = 10
      · refine z_icmp_eq_t (M := M_X9_isBlank) (tgt := 24) dX9_isBlank_15 (by decide) rfl (by decide +kernel) h_4 ?_
        refine z_iconst (M := M_X9_isBlank) dX9_isBlank_24 ?_
        refine z_goto (M := M_X9_isBlank) (tgt := 29) dX9_isBlank_25 (by decide) ?_
        exact z_st (by rw [zv_t (p := ((((w32 c_0) = 32) ∨ ((w32 c_0) = 9)) ∨ ((w32 c_0) = 10)) ∨ ((w32 c_0) = 13)) (Or.inl (Or.inr h_4))]) J_1
      · refine z_icmp_eq_f (M := M_X9_isBlank) (tgt := 24) dX9_isBlank_15 (by decide) rfl (by decide +kernel) h_4 ?_
        refine z_iload_n (M := M_X9_isBlank) dX9_isBlank_18 rfl ?_
        refine z_bipush (M := M_X9_isBlank) dX9_isBlank_19 (by decide +kernel) ?_
        by_cases h_5 : (w32 c_0) = 13
        · refine z_icmp_ne_f (M := M_X9_isBlank) (tgt := 28) dX9_isBlank_21 (by decide) rfl (by decide +kernel) h_5 ?_
          refine z_iconst (M := M_X9_isBlank) dX9_isBlank_24 ?_
          refine z_goto (M := M_X9_isBlank) (tgt := 29) dX9_isBlank_25 (by decide) ?_
          exact z_st (by rw [zv_t (p := ((((w32 c_0) = 32) ∨ ((w32 c_0) = 9)) ∨ ((w32 c_0) = 10)) ∨ ((w32 c_0) = 13)) (Or.inr h_5)]) J_1
        · refine z_icmp_ne_t (M := M_X9_isBlank) (tgt := 28) dX9_isBlank_21 (by decide) rfl (by decide +kernel) h_5 ?_
          refine z_iconst (M := M_X9_isBlank) dX9_isBlank_28 ?_
          exact z_st (by rw [zv_f (p := ((((w32 c_0) = 32) ∨ ((w32 c_0) = 9)) ∨ ((w32 c_0) = 10)) ∨ ((w32 c_0) = 13)) (fun q => q.elim (fun q => q.elim (fun q => q.elim h_2 h_3) h_4) h_5)]) J_1
theorem c_X9_skipBlanks (hl : l.stackTraces = false) {σ : SG} {σ' : SG}  (H : fW_skipBlanks σ = some σ') : en_S l E M_X9_skipBlanks 2 0 0 [vr 167] σ (pS (none) σ') := by
  unfold fW_skipBlanks at H
  refine z_mk (lv := [some (vr 167)]) m_X9_skipBlanks rfl hl (Nat.le_of_ble_eq_true rfl) rfl ?_
  obtain ⟨rl_5, hw_2, hk_3⟩ := bd_e H
  have J_26 : ∀ σ_25, rl_5 = σ_25 → YY l E M_X9_skipBlanks 2 0 0 (pS (none) σ') 39 [some (vr 167)] [] σ_25 0 0 := by
    intro σ_25 e
    have H := hk_3
    rw [e] at H
    cases H
    exact z_vret (M := M_X9_skipBlanks) dX9_skipBlanks_39 rfl (Nat.le_of_ble_eq_true rfl) (Nat.le_of_ble_eq_true rfl) ⟨rfl, rfl⟩
  refine whl_go hw_2 (fun σ_1 => YY l E M_X9_skipBlanks 2 0 0 (pS (none) σ') 0 [some (vr 167)] [] σ_1 0 0) ?_
  rintro σ_1 o_6 H K_7 K_8
  refine z_aload_n (M := M_X9_skipBlanks) dX9_skipBlanks_0 rfl ?_
  refine z_getI (M := M_X9_skipBlanks) (ci := 12) (C := RX9) (T := TX9) (Nf := 12) (ty := tyX9) cl12 dX9_skipBlanks_1 ly_167 6 (by decide) t_111 rfl rfl ?_
  refine z_aload_n (M := M_X9_skipBlanks) dX9_skipBlanks_4 rfl ?_
  refine z_getI (M := M_X9_skipBlanks) (ci := 12) (C := RX9) (T := TX9) (Nf := 12) (ty := tyX9) cl12 dX9_skipBlanks_5 ly_167 5 (by decide) t_110 rfl rfl ?_
  rcases if_e H with ⟨h_17, H⟩ | ⟨h_17, H⟩
  · refine z_icmp_ge_f (M := M_X9_skipBlanks) (tgt := 39) dX9_skipBlanks_8 (by decide) rfl rfl h_17 ?_
    refine z_aload_n (M := M_X9_skipBlanks) dX9_skipBlanks_11 rfl ?_
    refine z_getR (M := M_X9_skipBlanks) (ci := 12) (C := RX9) (T := TX9) (Nf := 12) (ty := tyX9) cl12 dX9_skipBlanks_12 ly_167 1 (by decide) t_106 rfl ?_
    refine z_aload_n (M := M_X9_skipBlanks) dX9_skipBlanks_15 rfl ?_
    refine z_getI (M := M_X9_skipBlanks) (ci := 12) (C := RX9) (T := TX9) (Nf := 12) (ty := tyX9) cl12 dX9_skipBlanks_16 ly_167 6 (by decide) t_111 rfl rfl ?_
    obtain ⟨x_18, x_18_e, hi_19, H⟩ := rd_e H
    refine z_bald (M := M_X9_skipBlanks) dX9_skipBlanks_19 ly_166 rfl rfl rfl hi_19 x_18_e ?_
    refine z_callS (M := M_X9_skipBlanks) (M' := M_X9_isBlank) (as := [vi (w8 x_18)]) (rest := []) rfl rfl dX9_skipBlanks_20 m_X9_isBlank t_780 t_781 (c_X9_isBlank hl  rfl) rfl rfl (Nat.le_of_ble_eq_true rfl) (Nat.le_of_ble_eq_true rfl) (Nat.le_of_ble_eq_true rfl) (Nat.le_of_ble_eq_true rfl) ?_
    refine z_st (st' := [zv (fW_isBlank (w8 x_18))]) rfl ?_
    rcases if_e H with ⟨h_20, H⟩ | ⟨h_20, H⟩
    · refine z_zeq_f (M := M_X9_skipBlanks) (tgt := 39) dX9_skipBlanks_23 (by decide) h_20 ?_
      refine z_aload_n (M := M_X9_skipBlanks) dX9_skipBlanks_26 rfl ?_
      refine z_dup (M := M_X9_skipBlanks) dX9_skipBlanks_27 rfl ?_
      refine z_getI (M := M_X9_skipBlanks) (ci := 12) (C := RX9) (T := TX9) (Nf := 12) (ty := tyX9) cl12 dX9_skipBlanks_28 ly_167 6 (by decide) t_111 rfl rfl ?_
      refine z_iconst (M := M_X9_skipBlanks) dX9_skipBlanks_31 ?_
      refine z_iadd (M := M_X9_skipBlanks) dX9_skipBlanks_32 ?_
      obtain ⟨σ_21, σ_21_e, H⟩ := wf_e H
      refine z_putI (M := M_X9_skipBlanks) (ci := 12) (C := RX9) (T := TX9) (Nf := 12) (ty := tyX9) cl12 dX9_skipBlanks_33 ly_167 6 (by decide) t_111 rfl rfl rfl rfl σ_21_e ?_
      refine z_goto (M := M_X9_skipBlanks) (tgt := 0) dX9_skipBlanks_36 (by decide) ?_
      exact K_7 _ (Option.some.inj H).symm
    · refine z_zeq_t (M := M_X9_skipBlanks) (tgt := 39) dX9_skipBlanks_23 (by decide) h_20 ?_
      exact J_26 _ (K_8 _ (Option.some.inj H).symm).symm
  · refine z_icmp_ge_t (M := M_X9_skipBlanks) (tgt := 39) dX9_skipBlanks_8 (by decide) rfl rfl (Int.not_lt.mp h_17) ?_
    exact J_26 _ (K_8 _ (Option.some.inj H).symm).symm
theorem c_X9_isDigit (hl : l.stackTraces = false) {σ : SG} {c_0 : Int} {r : Bool}  (H : fW_isDigit c_0 = r) : en_S l E M_X9_isDigit 1 0 0 [vi c_0] σ (pS (some (zv r)) σ) := by
  unfold fW_isDigit at H
  refine z_mk (lv := [some (vi c_0)]) m_X9_isDigit rfl hl (Nat.le_of_ble_eq_true rfl) rfl ?_
  have J_1 : YY l E M_X9_isDigit 1 0 0 (pS (some (zv r)) σ) 17 [some (vi c_0)] [zv (decide ((48 ≤ (w32 c_0)) ∧ ((w32 c_0) ≤ 57)))] σ 0 0 := by
    cases H
    exact z_zret (M := M_X9_isDigit) dX9_isDigit_17 rfl (Nat.le_of_ble_eq_true rfl) (Nat.le_of_ble_eq_true rfl) ⟨rfl, rfl⟩
  refine z_iload_n (M := M_X9_isDigit) dX9_isDigit_0 rfl ?_
  refine z_bipush (M := M_X9_isDigit) dX9_isDigit_1 (by decide +kernel) ?_
  by_cases h_2 : 48 ≤ (w32 c_0)
  · refine z_icmp_lt_f (M := M_X9_isDigit) (tgt := 16) dX9_isDigit_3 (by decide) rfl (by decide +kernel) h_2 ?_
    refine z_iload_n (M := M_X9_isDigit) dX9_isDigit_6 rfl ?_
    refine z_bipush (M := M_X9_isDigit) dX9_isDigit_7 (by decide +kernel) ?_
    by_cases h_3 : (w32 c_0) ≤ 57
    · refine z_icmp_gt_f (M := M_X9_isDigit) (tgt := 16) dX9_isDigit_9 (by decide) rfl (by decide +kernel) h_3 ?_
      refine z_iconst (M := M_X9_isDigit) dX9_isDigit_12 ?_
      refine z_goto (M := M_X9_isDigit) (tgt := 17) dX9_isDigit_13 (by decide) ?_
      exact z_st (by rw [zv_t (p := (48 ≤ (w32 c_0)) ∧ ((w32 c_0) ≤ 57)) ⟨h_2, h_3⟩]) J_1
    · refine z_icmp_gt_t (M := M_X9_isDigit) (tgt := 16) dX9_isDigit_9 (by decide) rfl (by decide +kernel) (Int.not_le.mp h_3) ?_
      refine z_iconst (M := M_X9_isDigit) dX9_isDigit_16 ?_
      exact z_st (by rw [zv_f (p := (48 ≤ (w32 c_0)) ∧ ((w32 c_0) ≤ 57)) (fun q => h_3 q.2)]) J_1
  · refine z_icmp_lt_t (M := M_X9_isDigit) (tgt := 16) dX9_isDigit_3 (by decide) rfl (by decide +kernel) (Int.not_le.mp h_2) ?_
    refine z_iconst (M := M_X9_isDigit) dX9_isDigit_16 ?_
    exact z_st (by rw [zv_f (p := (48 ≤ (w32 c_0)) ∧ ((w32 c_0) ≤ 57)) (fun q => h_2 q.1)]) J_1
theorem c_X9_behindWord (hl : l.stackTraces = false) {σ : SG} {r : Int}  (H : fW_behindWord σ = some r) : en_S l E M_X9_behindWord 2 0 0 [vr 167] σ (pS (some (vi r)) σ) := by
  unfold fW_behindWord at H
  refine z_mk (lv := [some (vr 167), none]) m_X9_behindWord rfl hl (Nat.le_of_ble_eq_true rfl) rfl ?_
  refine z_aload_n (M := M_X9_behindWord) dX9_behindWord_0 rfl ?_
  refine z_getI (M := M_X9_behindWord) (ci := 12) (C := RX9) (T := TX9) (Nf := 12) (ty := tyX9) cl12 dX9_behindWord_1 ly_167 6 (by decide) t_111 rfl rfl ?_
  refine z_istore_n (M := M_X9_behindWord) (lv' := [some (vr 167), some (vi (σ kW_at 0))]) dX9_behindWord_4 (Nat.le_of_ble_eq_true rfl) rfl rfl ?_
  obtain ⟨rl_5, hw_2, hk_3⟩ := bd_e H
  have J_25 : ∀ i_24, rl_5 = i_24 → YY l E M_X9_behindWord 2 0 0 (pS (some (vi r)) σ) 31 [some (vr 167), some (vi i_24)] [] σ 0 0 := by
    intro i_24 e
    have H := hk_3
    rw [e] at H
    refine z_iload_n (M := M_X9_behindWord) dX9_behindWord_31 rfl ?_
    cases H
    exact z_iret (M := M_X9_behindWord) dX9_behindWord_32 rfl (Nat.le_of_ble_eq_true rfl) (Nat.le_of_ble_eq_true rfl) ⟨rfl, rfl⟩
  refine whl_go hw_2 (fun i_1 => YY l E M_X9_behindWord 2 0 0 (pS (some (vi r)) σ) 5 [some (vr 167), some (vi i_1)] [] σ 0 0) ?_
  rintro i_1 o_6 H K_7 K_8
  refine z_iload_n (M := M_X9_behindWord) dX9_behindWord_5 rfl ?_
  refine z_aload_n (M := M_X9_behindWord) dX9_behindWord_6 rfl ?_
  refine z_getI (M := M_X9_behindWord) (ci := 12) (C := RX9) (T := TX9) (Nf := 12) (ty := tyX9) cl12 dX9_behindWord_7 ly_167 5 (by decide) t_110 rfl rfl ?_
  rcases if_e H with ⟨h_17, H⟩ | ⟨h_17, H⟩
  · refine z_icmp_ge_f (M := M_X9_behindWord) (tgt := 31) dX9_behindWord_10 (by decide) rfl rfl h_17 ?_
    refine z_aload_n (M := M_X9_behindWord) dX9_behindWord_13 rfl ?_
    refine z_getR (M := M_X9_behindWord) (ci := 12) (C := RX9) (T := TX9) (Nf := 12) (ty := tyX9) cl12 dX9_behindWord_14 ly_167 1 (by decide) t_106 rfl ?_
    refine z_iload_n (M := M_X9_behindWord) dX9_behindWord_17 rfl ?_
    obtain ⟨x_18, x_18_e, hi_19, H⟩ := rd_e H
    refine z_bald (M := M_X9_behindWord) dX9_behindWord_18 ly_166 rfl rfl rfl hi_19 x_18_e ?_
    refine z_callS (M := M_X9_behindWord) (M' := M_X9_isLetter) (as := [vi (w8 x_18)]) (rest := []) rfl rfl dX9_behindWord_19 m_X9_isLetter t_787 t_788 (c_X9_isLetter hl  rfl) rfl rfl (Nat.le_of_ble_eq_true rfl) (Nat.le_of_ble_eq_true rfl) (Nat.le_of_ble_eq_true rfl) (Nat.le_of_ble_eq_true rfl) ?_
    refine z_st (st' := [zv (fW_isLetter (w8 x_18))]) rfl ?_
    rcases if_e H with ⟨h_20, H⟩ | ⟨h_20, H⟩
    · refine z_zeq_f (M := M_X9_behindWord) (tgt := 31) dX9_behindWord_22 (by decide) h_20 ?_
      refine z_iinc (M := M_X9_behindWord) (lv' := [some (vr 167), some (vi (i_1 + 1))]) dX9_behindWord_25 rfl (Nat.le_of_ble_eq_true rfl) rfl rfl ?_
      refine z_goto (M := M_X9_behindWord) (tgt := 5) dX9_behindWord_28 (by decide) ?_
      exact K_7 _ (Option.some.inj H).symm
    · refine z_zeq_t (M := M_X9_behindWord) (tgt := 31) dX9_behindWord_22 (by decide) h_20 ?_
      exact J_25 _ (K_8 _ (Option.some.inj H).symm).symm
  · refine z_icmp_ge_t (M := M_X9_behindWord) (tgt := 31) dX9_behindWord_10 (by decide) rfl rfl (Int.not_lt.mp h_17) ?_
    exact J_25 _ (K_8 _ (Option.some.inj H).symm).symm
theorem c_X9_openLevel (hl : l.stackTraces = false) {σ : SG} {kind_0 : Int} {r : Bool} {σ' : SG}  (H : fW_openLevel σ kind_0 = some (r, σ')) : en_S l E M_X9_openLevel 2 0 0 [vr 167, vi kind_0] σ (pS (some (zv r)) σ') := by
  unfold fW_openLevel at H
  refine z_mk (lv := [some (vr 167), some (vi kind_0)]) m_X9_openLevel rfl hl (Nat.le_of_ble_eq_true rfl) rfl ?_
  refine z_aload_n (M := M_X9_openLevel) dX9_openLevel_0 rfl ?_
  refine z_getI (M := M_X9_openLevel) (ci := 12) (C := RX9) (T := TX9) (Nf := 12) (ty := tyX9) cl12 dX9_openLevel_1 ly_167 7 (by decide) t_112 rfl rfl ?_
  refine z_bipush (M := M_X9_openLevel) dX9_openLevel_4 (by decide +kernel) ?_
  rcases if_e H with ⟨h_1, H⟩ | ⟨h_1, H⟩
  · refine z_icmp_lt_f (M := M_X9_openLevel) (tgt := 16) dX9_openLevel_6 (by decide) rfl (by decide +kernel) h_1 ?_
    refine z_aload_n (M := M_X9_openLevel) dX9_openLevel_9 rfl ?_
    refine z_bipush (M := M_X9_openLevel) dX9_openLevel_10 (by decide +kernel) ?_
    obtain ⟨⟨x_4, σ_3⟩, hc_2, H⟩ := bd_e H
    refine z_callV (M := M_X9_openLevel) (M' := M_X9_fail) (as := [vi 6]) (rest := []) rfl rfl dX9_openLevel_12 m_X9_fail t_797 t_799 s_7 (c_X9_fail hl  hc_2) rfl rfl ly_167 rfl (Nat.le_of_ble_eq_true rfl) (Nat.le_of_ble_eq_true rfl) (Nat.le_of_ble_eq_true rfl) (Nat.le_of_ble_eq_true rfl) ?_
    refine z_st (st' := [zv x_4]) rfl ?_
    cases H
    exact z_zret (M := M_X9_openLevel) dX9_openLevel_15 rfl (Nat.le_of_ble_eq_true rfl) (Nat.le_of_ble_eq_true rfl) ⟨rfl, rfl⟩
  · refine z_icmp_lt_t (M := M_X9_openLevel) (tgt := 16) dX9_openLevel_6 (by decide) rfl (by decide +kernel) (Int.not_le.mp h_1) ?_
    refine z_aload_n (M := M_X9_openLevel) dX9_openLevel_16 rfl ?_
    refine z_getR (M := M_X9_openLevel) (ci := 12) (C := RX9) (T := TX9) (Nf := 12) (ty := tyX9) cl12 dX9_openLevel_17 ly_167 2 (by decide) t_107 rfl ?_
    refine z_aload_n (M := M_X9_openLevel) dX9_openLevel_20 rfl ?_
    refine z_getI (M := M_X9_openLevel) (ci := 12) (C := RX9) (T := TX9) (Nf := 12) (ty := tyX9) cl12 dX9_openLevel_21 ly_167 7 (by decide) t_112 rfl rfl ?_
    refine z_iload_n (M := M_X9_openLevel) dX9_openLevel_24 rfl ?_
    obtain ⟨σ_5, σ_5_e, hi_6, H⟩ := wa_e H
    refine z_iast (M := M_X9_openLevel) dX9_openLevel_25 ly_168 rfl rfl rfl hi_6 σ_5_e ?_
    refine z_aload_n (M := M_X9_openLevel) dX9_openLevel_26 rfl ?_
    refine z_getR (M := M_X9_openLevel) (ci := 12) (C := RX9) (T := TX9) (Nf := 12) (ty := tyX9) cl12 dX9_openLevel_27 ly_167 3 (by decide) t_108 rfl ?_
    refine z_aload_n (M := M_X9_openLevel) dX9_openLevel_30 rfl ?_
    refine z_getI (M := M_X9_openLevel) (ci := 12) (C := RX9) (T := TX9) (Nf := 12) (ty := tyX9) cl12 dX9_openLevel_31 ly_167 7 (by decide) t_112 rfl rfl ?_
    refine z_aload_n (M := M_X9_openLevel) dX9_openLevel_34 rfl ?_
    obtain ⟨hs_7, H⟩ := ck_e H
    refine z_getV (M := M_X9_openLevel) (ci := 12) (C := RX9) (T := TX9) (Nf := 12) (ty := tyX9) cl12 dX9_openLevel_35 ly_167 4 (by decide) t_109 rfl rfl ?_
    refine z_getI (M := M_X9_openLevel) (ci := 9) (C := RX6) (T := TX6) (Nf := 5) (ty := tyX6) cl9 dX9_openLevel_38 (ly_S hs_7) 3 (by decide) t_78 rfl rfl ?_
    refine z_iconst (M := M_X9_openLevel) dX9_openLevel_41 ?_
    refine z_isub (M := M_X9_openLevel) dX9_openLevel_42 ?_
    obtain ⟨σ_8, σ_8_e, hi_9, H⟩ := wa_e H
    refine z_iast (M := M_X9_openLevel) dX9_openLevel_43 ly_169 rfl rfl rfl hi_9 σ_8_e ?_
    refine z_aload_n (M := M_X9_openLevel) dX9_openLevel_44 rfl ?_
    refine z_dup (M := M_X9_openLevel) dX9_openLevel_45 rfl ?_
    refine z_getI (M := M_X9_openLevel) (ci := 12) (C := RX9) (T := TX9) (Nf := 12) (ty := tyX9) cl12 dX9_openLevel_46 ly_167 7 (by decide) t_112 rfl rfl ?_
    refine z_iconst (M := M_X9_openLevel) dX9_openLevel_49 ?_
    refine z_iadd (M := M_X9_openLevel) dX9_openLevel_50 ?_
    obtain ⟨σ_10, σ_10_e, H⟩ := wf_e H
    refine z_putI (M := M_X9_openLevel) (ci := 12) (C := RX9) (T := TX9) (Nf := 12) (ty := tyX9) cl12 dX9_openLevel_51 ly_167 7 (by decide) t_112 rfl rfl rfl rfl σ_10_e ?_
    obtain ⟨v_14, he_11, hk_12⟩ := bd_e H
    have J_21 : ∀ σ_19, v_14 = σ_19 → YY l E M_X9_openLevel 2 0 0 (pS (some (zv r)) σ') 70 [some (vr 167), some (vi kind_0)] [] σ_19 0 0 := by
      intro σ_19 e
      have H := hk_12
      rw [e] at H
      refine z_aload_n (M := M_X9_openLevel) dX9_openLevel_70 rfl ?_
      refine z_dup (M := M_X9_openLevel) dX9_openLevel_71 rfl ?_
      refine z_getI (M := M_X9_openLevel) (ci := 12) (C := RX9) (T := TX9) (Nf := 12) (ty := tyX9) cl12 dX9_openLevel_72 ly_167 6 (by decide) t_111 rfl rfl ?_
      refine z_iconst (M := M_X9_openLevel) dX9_openLevel_75 ?_
      refine z_iadd (M := M_X9_openLevel) dX9_openLevel_76 ?_
      obtain ⟨σ_20, σ_20_e, H⟩ := wf_e H
      refine z_putI (M := M_X9_openLevel) (ci := 12) (C := RX9) (T := TX9) (Nf := 12) (ty := tyX9) cl12 dX9_openLevel_77 ly_167 6 (by decide) t_111 rfl rfl rfl rfl σ_20_e ?_
      refine z_zconst (M := M_X9_openLevel) (b := true) dX9_openLevel_80 rfl ?_
      cases H
      exact z_zret (M := M_X9_openLevel) dX9_openLevel_81 rfl (Nat.le_of_ble_eq_true rfl) (Nat.le_of_ble_eq_true rfl) ⟨rfl, rfl⟩
    have H := he_11
    refine z_iload_n (M := M_X9_openLevel) dX9_openLevel_54 rfl ?_
    refine z_bipush (M := M_X9_openLevel) dX9_openLevel_55 (by decide +kernel) ?_
    rcases if_e H with ⟨h_15, H⟩ | ⟨h_15, H⟩
    · refine z_icmp_ne_f (M := M_X9_openLevel) (tgt := 70) dX9_openLevel_57 (by decide) rfl (by decide +kernel) h_15 ?_
      refine z_aload_n (M := M_X9_openLevel) dX9_openLevel_60 rfl ?_
      refine z_dup (M := M_X9_openLevel) dX9_openLevel_61 rfl ?_
      refine z_getI (M := M_X9_openLevel) (ci := 12) (C := RX9) (T := TX9) (Nf := 12) (ty := tyX9) cl12 dX9_openLevel_62 ly_167 8 (by decide) t_113 rfl rfl ?_
      refine z_iconst (M := M_X9_openLevel) dX9_openLevel_65 ?_
      refine z_iadd (M := M_X9_openLevel) dX9_openLevel_66 ?_
      obtain ⟨σ_16, σ_16_e, H⟩ := wf_e H
      refine z_putI (M := M_X9_openLevel) (ci := 12) (C := RX9) (T := TX9) (Nf := 12) (ty := tyX9) cl12 dX9_openLevel_67 ly_167 8 (by decide) t_113 rfl rfl rfl rfl σ_16_e ?_
      exact J_21 _ (Option.some.inj H).symm
    · refine z_icmp_ne_t (M := M_X9_openLevel) (tgt := 70) dX9_openLevel_57 (by decide) rfl (by decide +kernel) h_15 ?_
      exact J_21 _ (Option.some.inj H).symm
theorem c_X9_readRing (hl : l.stackTraces = false) {σ : SG} {r : Bool} {σ' : SG}  (H : fW_readRing σ = some (r, σ')) : en_S l E M_X9_readRing 3 0 0 [vr 167] σ (pS (some (zv r)) σ') := by
  unfold fW_readRing at H
  refine z_mk (lv := [some (vr 167)]) m_X9_readRing rfl hl (Nat.le_of_ble_eq_true rfl) rfl ?_
  refine z_aload_n (M := M_X9_readRing) dX9_readRing_0 rfl ?_
  obtain ⟨σ_2, hc_1, H⟩ := bd_e H
  refine z_callV (M := M_X9_readRing) (M' := M_X9_skipBlanks) (as := []) (rest := []) rfl rfl dX9_readRing_1 m_X9_skipBlanks t_776 t_778 s_4 (c_X9_skipBlanks hl  hc_1) rfl rfl ly_167 rfl (Nat.le_of_ble_eq_true rfl) (Nat.le_of_ble_eq_true rfl) (Nat.le_of_ble_eq_true rfl) (Nat.le_of_ble_eq_true rfl) ?_
  refine z_st (st' := []) rfl ?_
  refine z_aload_n (M := M_X9_readRing) dX9_readRing_4 rfl ?_
  obtain ⟨hs_3, H⟩ := ck_e H
  refine z_getV (M := M_X9_readRing) (ci := 12) (C := RX9) (T := TX9) (Nf := 12) (ty := tyX9) cl12 dX9_readRing_5 ly_167 4 (by decide) t_109 rfl rfl ?_
  refine z_iconst (M := M_X9_readRing) dX9_readRing_8 ?_
  obtain ⟨⟨x_6, σ_5⟩, hc_4, H⟩ := bd_e H
  refine z_callV (M := M_X9_readRing) (M' := M_X6_addRing) (as := [vi 0]) (rest := []) rfl rfl dX9_readRing_9 m_X6_addRing t_892 t_893 t_894 (c_X6_addRing hl hs_3 hc_4) rfl rfl (ly_S hs_3) rfl (Nat.le_of_ble_eq_true rfl) (Nat.le_of_ble_eq_true rfl) (Nat.le_of_ble_eq_true rfl) (Nat.le_of_ble_eq_true rfl) ?_
  refine z_st (st' := [zv x_6]) rfl ?_
  rcases if_e H with ⟨h_7, H⟩ | ⟨h_7, H⟩
  · refine z_zne_t (M := M_X9_readRing) (tgt := 22) dX9_readRing_12 (by decide) h_7 ?_
    obtain ⟨v_21, he_22, hk_23⟩ := bd_e H
    have J_24 : ∀ x_19 σ_20, v_21 = (x_19, σ_20) → YY l E M_X9_readRing 3 0 0 (pS (some (zv r)) σ') 48 [some (vr 167)] [zv x_19] σ_20 0 0 := by
      intro x_19 σ_20 e
      have H := hk_23
      rw [e] at H
      cases H
      exact z_zret (M := M_X9_readRing) dX9_readRing_48 rfl (Nat.le_of_ble_eq_true rfl) (Nat.le_of_ble_eq_true rfl) ⟨rfl, rfl⟩
    have H := he_22
    refine z_aload_n (M := M_X9_readRing) dX9_readRing_22 rfl ?_
    refine z_aload_n (M := M_X9_readRing) dX9_readRing_23 rfl ?_
    refine z_getI (M := M_X9_readRing) (ci := 12) (C := RX9) (T := TX9) (Nf := 12) (ty := tyX9) cl12 dX9_readRing_24 ly_167 6 (by decide) t_111 rfl rfl ?_
    obtain ⟨x_9, hc_8, H⟩ := bd_e H
    refine z_callV (M := M_X9_readRing) (M' := M_X9_signAt) (as := [vi (σ_5 kW_at 0)]) (rest := []) rfl rfl dX9_readRing_27 m_X9_signAt t_783 t_785 s_5 (c_X9_signAt hl  hc_8) rfl rfl ly_167 rfl (Nat.le_of_ble_eq_true rfl) (Nat.le_of_ble_eq_true rfl) (Nat.le_of_ble_eq_true rfl) (Nat.le_of_ble_eq_true rfl) ?_
    refine z_st (st' := [vi x_9]) rfl ?_
    refine z_bipush (M := M_X9_readRing) dX9_readRing_30 (by decide +kernel) ?_
    rcases if_e H with ⟨h_10, H⟩ | ⟨h_10, H⟩
    · refine z_icmp_ne_f (M := M_X9_readRing) (tgt := 44) dX9_readRing_32 (by decide) rfl (by decide +kernel) h_10 ?_
      refine z_aload_n (M := M_X9_readRing) dX9_readRing_35 rfl ?_
      refine z_bipush (M := M_X9_readRing) dX9_readRing_36 (by decide +kernel) ?_
      obtain ⟨⟨x_13, σ_12⟩, hc_11, H⟩ := bd_e H
      refine z_callV (M := M_X9_readRing) (M' := M_X9_openLevel) (as := [vi 8]) (rest := []) rfl rfl dX9_readRing_38 m_X9_openLevel t_879 t_881 s_12 (c_X9_openLevel hl  hc_11) rfl rfl ly_167 rfl (Nat.le_of_ble_eq_true rfl) (Nat.le_of_ble_eq_true rfl) (Nat.le_of_ble_eq_true rfl) (Nat.le_of_ble_eq_true rfl) ?_
      refine z_st (st' := [zv x_13]) rfl ?_
      refine z_goto (M := M_X9_readRing) (tgt := 48) dX9_readRing_41 (by decide) ?_
      exact J_24 _ _ (Option.some.inj H).symm
    · refine z_icmp_ne_t (M := M_X9_readRing) (tgt := 44) dX9_readRing_32 (by decide) rfl (by decide +kernel) h_10 ?_
      refine z_aload_n (M := M_X9_readRing) dX9_readRing_44 rfl ?_
      obtain ⟨⟨x_17, σ_16⟩, hc_15, H⟩ := bd_e H
      refine z_callV (M := M_X9_readRing) (M' := M_X9_unexpected) (as := []) (rest := []) rfl rfl dX9_readRing_45 m_X9_unexpected t_790 t_792 s_6 (c_X9_unexpected hl  hc_15) rfl rfl ly_167 rfl (Nat.le_of_ble_eq_true rfl) (Nat.le_of_ble_eq_true rfl) (Nat.le_of_ble_eq_true rfl) (Nat.le_of_ble_eq_true rfl) ?_
      refine z_st (st' := [zv x_17]) rfl ?_
      exact J_24 _ _ (Option.some.inj H).symm
  · refine z_zne_f (M := M_X9_readRing) (tgt := 22) dX9_readRing_12 (by decide) h_7 ?_
    refine z_aload_n (M := M_X9_readRing) dX9_readRing_15 rfl ?_
    refine z_bipush (M := M_X9_readRing) dX9_readRing_16 (by decide +kernel) ?_
    obtain ⟨⟨x_27, σ_26⟩, hc_25, H⟩ := bd_e H
    refine z_callV (M := M_X9_readRing) (M' := M_X9_fail) (as := [vi 7]) (rest := []) rfl rfl dX9_readRing_18 m_X9_fail t_797 t_799 s_7 (c_X9_fail hl  hc_25) rfl rfl ly_167 rfl (Nat.le_of_ble_eq_true rfl) (Nat.le_of_ble_eq_true rfl) (Nat.le_of_ble_eq_true rfl) (Nat.le_of_ble_eq_true rfl) ?_
    refine z_st (st' := [zv x_27]) rfl ?_
    cases H
    exact z_zret (M := M_X9_readRing) dX9_readRing_21 rfl (Nat.le_of_ble_eq_true rfl) (Nat.le_of_ble_eq_true rfl) ⟨rfl, rfl⟩
theorem c_X9_goOnBehindItem (hl : l.stackTraces = false) {σ : SG} {r : Bool} {σ' : SG}  (H : fW_goOnBehindItem σ = some (r, σ')) : en_S l E M_X9_goOnBehindItem 3 0 0 [vr 167] σ (pS (some (zv r)) σ') := by
  unfold fW_goOnBehindItem at H
  refine z_mk (lv := [some (vr 167), none, none]) m_X9_goOnBehindItem rfl hl (Nat.le_of_ble_eq_true rfl) rfl ?_
  obtain ⟨rl_5, hw_2, hk_3, hk_4⟩ := bx_e H
  have J_43 : ∀ σ_42, rl_5 = (.inl σ_42) → YY l E M_X9_goOnBehindItem 3 0 0 (pS (some (zv r)) σ') 105 [some (vr 167), none, none] [] σ_42 0 0 := by
    intro σ_42 e
    have H := hk_3 _ e
    refine z_zconst (M := M_X9_goOnBehindItem) (b := true) dX9_goOnBehindItem_105 rfl ?_
    cases H
    exact z_zret (M := M_X9_goOnBehindItem) dX9_goOnBehindItem_106 rfl (Nat.le_of_ble_eq_true rfl) (Nat.le_of_ble_eq_true rfl) ⟨rfl, rfl⟩
  refine whl_go hw_2 (fun σ_1 => YY l E M_X9_goOnBehindItem 3 0 0 (pS (some (zv r)) σ') 0 [some (vr 167), none, none] [] σ_1 0 0) ?_
  rintro σ_1 o_6 H K_7 K_8
  refine z_aload_n (M := M_X9_goOnBehindItem) dX9_goOnBehindItem_0 rfl ?_
  refine z_getI (M := M_X9_goOnBehindItem) (ci := 12) (C := RX9) (T := TX9) (Nf := 12) (ty := tyX9) cl12 dX9_goOnBehindItem_1 ly_167 7 (by decide) t_112 rfl rfl ?_
  rcases if_e H with ⟨h_9, H⟩ | ⟨h_9, H⟩
  · refine z_if_le_f (M := M_X9_goOnBehindItem) (tgt := 105) dX9_goOnBehindItem_4 (by decide) rfl h_9 ?_
    refine z_aload_n (M := M_X9_goOnBehindItem) dX9_goOnBehindItem_7 rfl ?_
    obtain ⟨σ_11, hc_10, H⟩ := bd_e H
    refine z_callV (M := M_X9_goOnBehindItem) (M' := M_X9_skipBlanks) (as := []) (rest := []) rfl rfl dX9_goOnBehindItem_8 m_X9_skipBlanks t_776 t_778 s_4 (c_X9_skipBlanks hl  hc_10) rfl rfl ly_167 rfl (Nat.le_of_ble_eq_true rfl) (Nat.le_of_ble_eq_true rfl) (Nat.le_of_ble_eq_true rfl) (Nat.le_of_ble_eq_true rfl) ?_
    refine z_st (st' := []) rfl ?_
    refine z_aload_n (M := M_X9_goOnBehindItem) dX9_goOnBehindItem_11 rfl ?_
    refine z_getR (M := M_X9_goOnBehindItem) (ci := 12) (C := RX9) (T := TX9) (Nf := 12) (ty := tyX9) cl12 dX9_goOnBehindItem_12 ly_167 2 (by decide) t_107 rfl ?_
    refine z_aload_n (M := M_X9_goOnBehindItem) dX9_goOnBehindItem_15 rfl ?_
    refine z_getI (M := M_X9_goOnBehindItem) (ci := 12) (C := RX9) (T := TX9) (Nf := 12) (ty := tyX9) cl12 dX9_goOnBehindItem_16 ly_167 7 (by decide) t_112 rfl rfl ?_
    refine z_iconst (M := M_X9_goOnBehindItem) dX9_goOnBehindItem_19 ?_
    refine z_isub (M := M_X9_goOnBehindItem) dX9_goOnBehindItem_20 ?_
    obtain ⟨x_12, x_12_e, hi_13, H⟩ := rd_e H
    refine z_iald (M := M_X9_goOnBehindItem) dX9_goOnBehindItem_21 ly_168 rfl rfl rfl hi_13 x_12_e ?_
    refine z_istore_n (M := M_X9_goOnBehindItem) (lv' := [some (vr 167), some (vi x_12), none]) dX9_goOnBehindItem_22 (Nat.le_of_ble_eq_true rfl) rfl rfl ?_
    refine z_aload_n (M := M_X9_goOnBehindItem) dX9_goOnBehindItem_23 rfl ?_
    refine z_aload_n (M := M_X9_goOnBehindItem) dX9_goOnBehindItem_24 rfl ?_
    refine z_getI (M := M_X9_goOnBehindItem) (ci := 12) (C := RX9) (T := TX9) (Nf := 12) (ty := tyX9) cl12 dX9_goOnBehindItem_25 ly_167 6 (by decide) t_111 rfl rfl ?_
    obtain ⟨x_15, hc_14, H⟩ := bd_e H
    refine z_callV (M := M_X9_goOnBehindItem) (M' := M_X9_signAt) (as := [vi (σ_11 kW_at 0)]) (rest := []) rfl rfl dX9_goOnBehindItem_28 m_X9_signAt t_783 t_785 s_5 (c_X9_signAt hl  hc_14) rfl rfl ly_167 rfl (Nat.le_of_ble_eq_true rfl) (Nat.le_of_ble_eq_true rfl) (Nat.le_of_ble_eq_true rfl) (Nat.le_of_ble_eq_true rfl) ?_
    refine z_st (st' := [vi x_15]) rfl ?_
    refine z_istore_n (M := M_X9_goOnBehindItem) (lv' := [some (vr 167), some (vi x_12), some (vi x_15)]) dX9_goOnBehindItem_31 (Nat.le_of_ble_eq_true rfl) rfl rfl ?_
    rcases if_e H with ⟨h_34, H⟩ | ⟨h_34, H⟩
    · have J_35 : YY l E M_X9_goOnBehindItem 3 0 0 (pS (some (zv r)) σ') 43 [some (vr 167), some (vi x_12), some (vi x_15)] [] σ_11 0 0 := by
        refine z_aload_n (M := M_X9_goOnBehindItem) dX9_goOnBehindItem_43 rfl ?_
        refine z_dup (M := M_X9_goOnBehindItem) dX9_goOnBehindItem_44 rfl ?_
        refine z_getI (M := M_X9_goOnBehindItem) (ci := 12) (C := RX9) (T := TX9) (Nf := 12) (ty := tyX9) cl12 dX9_goOnBehindItem_45 ly_167 6 (by decide) t_111 rfl rfl ?_
        refine z_iconst (M := M_X9_goOnBehindItem) dX9_goOnBehindItem_48 ?_
        refine z_iadd (M := M_X9_goOnBehindItem) dX9_goOnBehindItem_49 ?_
        obtain ⟨σ_16, σ_16_e, H⟩ := wf_e H
        refine z_putI (M := M_X9_goOnBehindItem) (ci := 12) (C := RX9) (T := TX9) (Nf := 12) (ty := tyX9) cl12 dX9_goOnBehindItem_50 ly_167 6 (by decide) t_111 rfl rfl rfl rfl σ_16_e ?_
        refine z_zconst (M := M_X9_goOnBehindItem) (b := true) dX9_goOnBehindItem_53 rfl ?_
        have H := congrArg some (hk_4 _ ((K_8 _ (Option.some.inj H).symm).symm))
        cases H
        exact z_zret (M := M_X9_goOnBehindItem) dX9_goOnBehindItem_54 rfl (Nat.le_of_ble_eq_true rfl) (Nat.le_of_ble_eq_true rfl) ⟨rfl, rfl⟩
      refine z_iload_n (M := M_X9_goOnBehindItem) dX9_goOnBehindItem_32 rfl ?_
      refine z_bipush (M := M_X9_goOnBehindItem) dX9_goOnBehindItem_33 (by decide +kernel) ?_
      by_cases h_37 : (w32 x_15) = 44
      · refine z_icmp_ne_f (M := M_X9_goOnBehindItem) (tgt := 55) dX9_goOnBehindItem_35 (by decide) rfl (by decide +kernel) h_37 ?_
        refine z_iload_n (M := M_X9_goOnBehindItem) dX9_goOnBehindItem_38 rfl ?_
        refine z_iconst (M := M_X9_goOnBehindItem) dX9_goOnBehindItem_39 ?_
        by_cases h_38 : ¬ (w32 x_12) = 1
        · refine z_icmp_eq_f (M := M_X9_goOnBehindItem) (tgt := 55) dX9_goOnBehindItem_40 (by decide) rfl (by decide +kernel) h_38 ?_
          exact J_35
        · refine z_icmp_eq_t (M := M_X9_goOnBehindItem) (tgt := 55) dX9_goOnBehindItem_40 (by decide) rfl (by decide +kernel) (Decidable.not_not.mp h_38) ?_
          exact absurd h_34 (fun q => h_38 q.2)
      · refine z_icmp_ne_t (M := M_X9_goOnBehindItem) (tgt := 55) dX9_goOnBehindItem_35 (by decide) rfl (by decide +kernel) h_37 ?_
        exact absurd h_34 (fun q => h_37 q.1)
    · have J_36 : YY l E M_X9_goOnBehindItem 3 0 0 (pS (some (zv r)) σ') 55 [some (vr 167), some (vi x_12), some (vi x_15)] [] σ_11 0 0 := by
        refine z_iload_n (M := M_X9_goOnBehindItem) dX9_goOnBehindItem_55 rfl ?_
        refine z_bipush (M := M_X9_goOnBehindItem) dX9_goOnBehindItem_56 (by decide +kernel) ?_
        rcases if_e H with ⟨h_17, H⟩ | ⟨h_17, H⟩
        · refine z_icmp_eq_f (M := M_X9_goOnBehindItem) (tgt := 66) dX9_goOnBehindItem_58 (by decide) rfl (by decide +kernel) h_17 ?_
          refine z_aload_n (M := M_X9_goOnBehindItem) dX9_goOnBehindItem_61 rfl ?_
          obtain ⟨⟨x_20, σ_19⟩, hc_18, H⟩ := bd_e H
          refine z_callV (M := M_X9_goOnBehindItem) (M' := M_X9_unexpected) (as := []) (rest := []) rfl rfl dX9_goOnBehindItem_62 m_X9_unexpected t_790 t_792 s_6 (c_X9_unexpected hl  hc_18) rfl rfl ly_167 rfl (Nat.le_of_ble_eq_true rfl) (Nat.le_of_ble_eq_true rfl) (Nat.le_of_ble_eq_true rfl) (Nat.le_of_ble_eq_true rfl) ?_
          refine z_st (st' := [zv x_20]) rfl ?_
          have H := congrArg some (hk_4 _ ((K_8 _ (Option.some.inj H).symm).symm))
          cases H
          exact z_zret (M := M_X9_goOnBehindItem) dX9_goOnBehindItem_65 rfl (Nat.le_of_ble_eq_true rfl) (Nat.le_of_ble_eq_true rfl) ⟨rfl, rfl⟩
        · refine z_icmp_eq_t (M := M_X9_goOnBehindItem) (tgt := 66) dX9_goOnBehindItem_58 (by decide) rfl (by decide +kernel) (Decidable.not_not.mp h_17) ?_
          refine z_aload_n (M := M_X9_goOnBehindItem) dX9_goOnBehindItem_66 rfl ?_
          refine z_dup (M := M_X9_goOnBehindItem) dX9_goOnBehindItem_67 rfl ?_
          refine z_getI (M := M_X9_goOnBehindItem) (ci := 12) (C := RX9) (T := TX9) (Nf := 12) (ty := tyX9) cl12 dX9_goOnBehindItem_68 ly_167 6 (by decide) t_111 rfl rfl ?_
          refine z_iconst (M := M_X9_goOnBehindItem) dX9_goOnBehindItem_71 ?_
          refine z_iadd (M := M_X9_goOnBehindItem) dX9_goOnBehindItem_72 ?_
          obtain ⟨σ_21, σ_21_e, H⟩ := wf_e H
          refine z_putI (M := M_X9_goOnBehindItem) (ci := 12) (C := RX9) (T := TX9) (Nf := 12) (ty := tyX9) cl12 dX9_goOnBehindItem_73 ly_167 6 (by decide) t_111 rfl rfl rfl rfl σ_21_e ?_
          refine z_aload_n (M := M_X9_goOnBehindItem) dX9_goOnBehindItem_76 rfl ?_
          refine z_dup (M := M_X9_goOnBehindItem) dX9_goOnBehindItem_77 rfl ?_
          refine z_getI (M := M_X9_goOnBehindItem) (ci := 12) (C := RX9) (T := TX9) (Nf := 12) (ty := tyX9) cl12 dX9_goOnBehindItem_78 ly_167 7 (by decide) t_112 rfl rfl ?_
          refine z_iconst (M := M_X9_goOnBehindItem) dX9_goOnBehindItem_81 ?_
          refine z_isub (M := M_X9_goOnBehindItem) dX9_goOnBehindItem_82 ?_
          obtain ⟨σ_22, σ_22_e, H⟩ := wf_e H
          refine z_putI (M := M_X9_goOnBehindItem) (ci := 12) (C := RX9) (T := TX9) (Nf := 12) (ty := tyX9) cl12 dX9_goOnBehindItem_83 ly_167 7 (by decide) t_112 rfl rfl rfl rfl σ_22_e ?_
          obtain ⟨v_26, he_23, hk_24⟩ := bd_e H
          have J_33 : ∀ σ_31, v_26 = σ_31 → YY l E M_X9_goOnBehindItem 3 0 0 (pS (some (zv r)) σ') 102 [some (vr 167), some (vi x_12), some (vi x_15)] [] σ_31 0 0 := by
            intro σ_31 e
            have H := hk_24
            rw [e] at H
            refine z_goto (M := M_X9_goOnBehindItem) (tgt := 0) dX9_goOnBehindItem_102 (by decide) ?_
            refine z_le (lv' := [some (vr 167), none, none]) ⟨Or.inr rfl, Or.inl rfl, Or.inl rfl, trivial⟩ ?_
            exact K_7 _ (Option.some.inj H).symm
          have H := he_23
          refine z_iload_n (M := M_X9_goOnBehindItem) dX9_goOnBehindItem_86 rfl ?_
          refine z_bipush (M := M_X9_goOnBehindItem) dX9_goOnBehindItem_87 (by decide +kernel) ?_
          rcases if_e H with ⟨h_27, H⟩ | ⟨h_27, H⟩
          · refine z_icmp_ne_f (M := M_X9_goOnBehindItem) (tgt := 102) dX9_goOnBehindItem_89 (by decide) rfl (by decide +kernel) h_27 ?_
            refine z_aload_n (M := M_X9_goOnBehindItem) dX9_goOnBehindItem_92 rfl ?_
            refine z_dup (M := M_X9_goOnBehindItem) dX9_goOnBehindItem_93 rfl ?_
            refine z_getI (M := M_X9_goOnBehindItem) (ci := 12) (C := RX9) (T := TX9) (Nf := 12) (ty := tyX9) cl12 dX9_goOnBehindItem_94 ly_167 8 (by decide) t_113 rfl rfl ?_
            refine z_iconst (M := M_X9_goOnBehindItem) dX9_goOnBehindItem_97 ?_
            refine z_isub (M := M_X9_goOnBehindItem) dX9_goOnBehindItem_98 ?_
            obtain ⟨σ_28, σ_28_e, H⟩ := wf_e H
            refine z_putI (M := M_X9_goOnBehindItem) (ci := 12) (C := RX9) (T := TX9) (Nf := 12) (ty := tyX9) cl12 dX9_goOnBehindItem_99 ly_167 8 (by decide) t_113 rfl rfl rfl rfl σ_28_e ?_
            exact J_33 _ (Option.some.inj H).symm
          · refine z_icmp_ne_t (M := M_X9_goOnBehindItem) (tgt := 102) dX9_goOnBehindItem_89 (by decide) rfl (by decide +kernel) h_27 ?_
            exact J_33 _ (Option.some.inj H).symm
      refine z_iload_n (M := M_X9_goOnBehindItem) dX9_goOnBehindItem_32 rfl ?_
      refine z_bipush (M := M_X9_goOnBehindItem) dX9_goOnBehindItem_33 (by decide +kernel) ?_
      by_cases h_39 : (w32 x_15) = 44
      · refine z_icmp_ne_f (M := M_X9_goOnBehindItem) (tgt := 55) dX9_goOnBehindItem_35 (by decide) rfl (by decide +kernel) h_39 ?_
        refine z_iload_n (M := M_X9_goOnBehindItem) dX9_goOnBehindItem_38 rfl ?_
        refine z_iconst (M := M_X9_goOnBehindItem) dX9_goOnBehindItem_39 ?_
        by_cases h_40 : ¬ (w32 x_12) = 1
        · refine z_icmp_eq_f (M := M_X9_goOnBehindItem) (tgt := 55) dX9_goOnBehindItem_40 (by decide) rfl (by decide +kernel) h_40 ?_
          exact absurd ⟨h_39, h_40⟩ h_34
        · refine z_icmp_eq_t (M := M_X9_goOnBehindItem) (tgt := 55) dX9_goOnBehindItem_40 (by decide) rfl (by decide +kernel) (Decidable.not_not.mp h_40) ?_
          exact J_36
      · refine z_icmp_ne_t (M := M_X9_goOnBehindItem) (tgt := 55) dX9_goOnBehindItem_35 (by decide) rfl (by decide +kernel) h_39 ?_
        exact J_36
  · refine z_if_le_t (M := M_X9_goOnBehindItem) (tgt := 105) dX9_goOnBehindItem_4 (by decide) rfl (Int.not_lt.mp h_9) ?_
    exact J_43 _ (K_8 _ (Option.some.inj H).symm).symm
theorem c_X9_digitsFrom (hl : l.stackTraces = false) {σ : SG} {from_0 : Int} {r : Int}  (H : fW_digitsFrom σ from_0 = some r) : en_S l E M_X9_digitsFrom 2 0 0 [vr 167, vi from_0] σ (pS (some (vi r)) σ) := by
  unfold fW_digitsFrom at H
  refine z_mk (lv := [some (vr 167), some (vi from_0), none]) m_X9_digitsFrom rfl hl (Nat.le_of_ble_eq_true rfl) rfl ?_
  refine z_iload_n (M := M_X9_digitsFrom) dX9_digitsFrom_0 rfl ?_
  refine z_istore_n (M := M_X9_digitsFrom) (lv' := [some (vr 167), some (vi from_0), some (vi from_0)]) dX9_digitsFrom_1 (Nat.le_of_ble_eq_true rfl) rfl rfl ?_
  obtain ⟨rl_5, hw_2, hk_3⟩ := bd_e H
  have J_25 : ∀ i_24, rl_5 = i_24 → YY l E M_X9_digitsFrom 2 0 0 (pS (some (vi r)) σ) 27 [some (vr 167), some (vi from_0), some (vi i_24)] [] σ 0 0 := by
    intro i_24 e
    have H := hk_3
    rw [e] at H
    refine z_iload_n (M := M_X9_digitsFrom) dX9_digitsFrom_27 rfl ?_
    refine z_iload_n (M := M_X9_digitsFrom) dX9_digitsFrom_28 rfl ?_
    refine z_isub (M := M_X9_digitsFrom) dX9_digitsFrom_29 ?_
    cases H
    exact z_iret (M := M_X9_digitsFrom) dX9_digitsFrom_30 rfl (Nat.le_of_ble_eq_true rfl) (Nat.le_of_ble_eq_true rfl) ⟨rfl, rfl⟩
  refine whl_go hw_2 (fun i_1 => YY l E M_X9_digitsFrom 2 0 0 (pS (some (vi r)) σ) 2 [some (vr 167), some (vi from_0), some (vi i_1)] [] σ 0 0) ?_
  rintro i_1 o_6 H K_7 K_8
  refine z_iload_n (M := M_X9_digitsFrom) dX9_digitsFrom_2 rfl ?_
  refine z_aload_n (M := M_X9_digitsFrom) dX9_digitsFrom_3 rfl ?_
  refine z_getI (M := M_X9_digitsFrom) (ci := 12) (C := RX9) (T := TX9) (Nf := 12) (ty := tyX9) cl12 dX9_digitsFrom_4 ly_167 5 (by decide) t_110 rfl rfl ?_
  rcases if_e H with ⟨h_17, H⟩ | ⟨h_17, H⟩
  · refine z_icmp_ge_f (M := M_X9_digitsFrom) (tgt := 27) dX9_digitsFrom_7 (by decide) rfl rfl h_17 ?_
    refine z_aload_n (M := M_X9_digitsFrom) dX9_digitsFrom_10 rfl ?_
    refine z_iload_n (M := M_X9_digitsFrom) dX9_digitsFrom_11 rfl ?_
    obtain ⟨x_19, hc_18, H⟩ := bd_e H
    refine z_callV (M := M_X9_digitsFrom) (M' := M_X9_signAt) (as := [vi i_1]) (rest := []) rfl rfl dX9_digitsFrom_12 m_X9_signAt t_783 t_785 s_5 (c_X9_signAt hl  hc_18) rfl rfl ly_167 rfl (Nat.le_of_ble_eq_true rfl) (Nat.le_of_ble_eq_true rfl) (Nat.le_of_ble_eq_true rfl) (Nat.le_of_ble_eq_true rfl) ?_
    refine z_st (st' := [vi x_19]) rfl ?_
    refine z_callS (M := M_X9_digitsFrom) (M' := M_X9_isDigit) (as := [vi x_19]) (rest := []) rfl rfl dX9_digitsFrom_15 m_X9_isDigit t_919 t_920 (c_X9_isDigit hl  rfl) rfl rfl (Nat.le_of_ble_eq_true rfl) (Nat.le_of_ble_eq_true rfl) (Nat.le_of_ble_eq_true rfl) (Nat.le_of_ble_eq_true rfl) ?_
    refine z_st (st' := [zv (fW_isDigit x_19)]) rfl ?_
    rcases if_e H with ⟨h_20, H⟩ | ⟨h_20, H⟩
    · refine z_zeq_f (M := M_X9_digitsFrom) (tgt := 27) dX9_digitsFrom_18 (by decide) h_20 ?_
      refine z_iinc (M := M_X9_digitsFrom) (lv' := [some (vr 167), some (vi from_0), some (vi (i_1 + 1))]) dX9_digitsFrom_21 rfl (Nat.le_of_ble_eq_true rfl) rfl rfl ?_
      refine z_goto (M := M_X9_digitsFrom) (tgt := 2) dX9_digitsFrom_24 (by decide) ?_
      exact K_7 _ (Option.some.inj H).symm
    · refine z_zeq_t (M := M_X9_digitsFrom) (tgt := 27) dX9_digitsFrom_18 (by decide) h_20 ?_
      exact J_25 _ (K_8 _ (Option.some.inj H).symm).symm
  · refine z_icmp_ge_t (M := M_X9_digitsFrom) (tgt := 27) dX9_digitsFrom_7 (by decide) rfl rfl (Int.not_lt.mp h_17) ?_
    exact J_25 _ (K_8 _ (Option.some.inj H).symm).symm
end LFAJ
