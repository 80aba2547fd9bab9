section LFAM
variable {l : Launch} {E : EE}
theorem c_X3_has (hl : l.stackTraces = false) {σ : SG} {first_0 : Int} {second_0 : Int} {r : Bool}  (H : fT_has σ first_0 second_0 = some r) : en_S l E M_X3_has 1 0 0 [vr 222, vi first_0, vi second_0] σ (pS (some (zv r)) σ) := by
  unfold fT_has at H
  refine z_mk (lv := [some (vr 222), some (vi first_0), some (vi second_0)]) m_X3_has rfl hl (Nat.le_of_ble_eq_true rfl) rfl ?_
  obtain ⟨v_7, he_8, hk_9⟩ := bd_e H
  have J_10 : ∀ x_6, v_7 = x_6 → YY l E M_X3_has 1 0 0 (pS (some (zv r)) σ) 18 [some (vr 222), some (vi first_0), some (vi second_0)] [zv x_6] σ 0 0 := by
    intro x_6 e
    have H := hk_9
    rw [e] at H
    cases H
    exact z_zret (M := M_X3_has) dX3_has_18 rfl (Nat.le_of_ble_eq_true rfl) (Nat.le_of_ble_eq_true rfl) ⟨rfl, rfl⟩
  have H := he_8
  refine z_aload_n (M := M_X3_has) dX3_has_0 rfl ?_
  refine z_getR (M := M_X3_has) (ci := 6) (C := RX3) (T := TX3) (Nf := 12) (ty := tyX3) cl6 dX3_has_1 ly_222 1 (by decide) t_443 rfl ?_
  refine z_iconst (M := M_X3_has) dX3_has_4 ?_
  refine z_iload_n (M := M_X3_has) dX3_has_5 rfl ?_
  refine z_imul (M := M_X3_has) dX3_has_6 ?_
  refine z_iload_n (M := M_X3_has) dX3_has_7 rfl ?_
  refine z_iadd (M := M_X3_has) dX3_has_8 ?_
  obtain ⟨x_1, x_1_e, hi_2, H⟩ := rd_e H
  refine z_iald (M := M_X3_has) dX3_has_9 ly_229 rfl rfl rfl hi_2 x_1_e ?_
  rcases if_e H with ⟨h_3, H⟩ | ⟨h_3, H⟩
  · refine z_if_lt_f (M := M_X3_has) (tgt := 17) dX3_has_10 (by decide) rfl h_3 ?_
    refine z_zconst (M := M_X3_has) (b := true) dX3_has_13 rfl ?_
    refine z_goto (M := M_X3_has) (tgt := 18) dX3_has_14 (by decide) ?_
    exact J_10 _ (Option.some.inj H).symm
  · refine z_if_lt_t (M := M_X3_has) (tgt := 17) dX3_has_10 (by decide) rfl (Int.not_le.mp h_3) ?_
    refine z_zconst (M := M_X3_has) (b := false) dX3_has_17 rfl ?_
    exact J_10 _ (Option.some.inj H).symm
theorem c_X3_haveCommonPlace (hl : l.stackTraces = false) {σ : SG} {r : Bool}  (H : fT_haveCommonPlace σ = some r) : en_S l E M_X3_haveCommonPlace 2 0 0 [vr 222] σ (pS (some (zv r)) σ) := by
  unfold fT_haveCommonPlace at H
  refine z_mk (lv := [some (vr 222)]) m_X3_haveCommonPlace rfl hl (Nat.le_of_ble_eq_true rfl) rfl ?_
  obtain ⟨v_19, he_20, hk_21⟩ := bd_e H
  have J_22 : ∀ x_18, v_19 = x_18 → YY l E M_X3_haveCommonPlace 2 0 0 (pS (some (zv r)) σ) 41 [some (vr 222)] [zv x_18] σ 0 0 := by
    intro x_18 e
    have H := hk_21
    rw [e] at H
    cases H
    exact z_zret (M := M_X3_haveCommonPlace) dX3_haveCommonPlace_41 rfl (Nat.le_of_ble_eq_true rfl) (Nat.le_of_ble_eq_true rfl) ⟨rfl, rfl⟩
  have H := he_20
  refine z_aload_n (M := M_X3_haveCommonPlace) dX3_haveCommonPlace_0 rfl ?_
  refine z_iconst (M := M_X3_haveCommonPlace) dX3_haveCommonPlace_1 ?_
  refine z_iconst (M := M_X3_haveCommonPlace) dX3_haveCommonPlace_2 ?_
  obtain ⟨x_2, hc_1, H⟩ := bd_e H
  refine z_callV (M := M_X3_haveCommonPlace) (M' := M_X3_has) (as := [vi 0, vi 0]) (rest := []) rfl rfl dX3_haveCommonPlace_3 m_X3_has t_2046 t_2048 s_123 (c_X3_has hl  hc_1) rfl rfl ly_222 rfl (Nat.le_of_ble_eq_true rfl) (Nat.le_of_ble_eq_true rfl) (Nat.le_of_ble_eq_true rfl) (Nat.le_of_ble_eq_true rfl) ?_
  refine z_st (st' := [zv x_2]) rfl ?_
  rcases if_e H with ⟨h_3, H⟩ | ⟨h_3, H⟩
  · refine z_zne_t (M := M_X3_haveCommonPlace) (tgt := 36) dX3_haveCommonPlace_6 (by decide) h_3 ?_
    refine z_zconst (M := M_X3_haveCommonPlace) (b := true) dX3_haveCommonPlace_36 rfl ?_
    refine z_goto (M := M_X3_haveCommonPlace) (tgt := 41) dX3_haveCommonPlace_37 (by decide) ?_
    exact J_22 _ (Option.some.inj H).symm
  · refine z_zne_f (M := M_X3_haveCommonPlace) (tgt := 36) dX3_haveCommonPlace_6 (by decide) h_3 ?_
    refine z_aload_n (M := M_X3_haveCommonPlace) dX3_haveCommonPlace_9 rfl ?_
    refine z_iconst (M := M_X3_haveCommonPlace) dX3_haveCommonPlace_10 ?_
    refine z_iconst (M := M_X3_haveCommonPlace) dX3_haveCommonPlace_11 ?_
    obtain ⟨x_6, hc_5, H⟩ := bd_e H
    refine z_callV (M := M_X3_haveCommonPlace) (M' := M_X3_has) (as := [vi 0, vi 1]) (rest := []) rfl rfl dX3_haveCommonPlace_12 m_X3_has t_2046 t_2048 s_123 (c_X3_has hl  hc_5) rfl rfl ly_222 rfl (Nat.le_of_ble_eq_true rfl) (Nat.le_of_ble_eq_true rfl) (Nat.le_of_ble_eq_true rfl) (Nat.le_of_ble_eq_true rfl) ?_
    refine z_st (st' := [zv x_6]) rfl ?_
    rcases if_e H with ⟨h_7, H⟩ | ⟨h_7, H⟩
    · refine z_zne_t (M := M_X3_haveCommonPlace) (tgt := 36) dX3_haveCommonPlace_15 (by decide) h_7 ?_
      refine z_zconst (M := M_X3_haveCommonPlace) (b := true) dX3_haveCommonPlace_36 rfl ?_
      refine z_goto (M := M_X3_haveCommonPlace) (tgt := 41) dX3_haveCommonPlace_37 (by decide) ?_
      exact J_22 _ (Option.some.inj H).symm
    · refine z_zne_f (M := M_X3_haveCommonPlace) (tgt := 36) dX3_haveCommonPlace_15 (by decide) h_7 ?_
      refine z_aload_n (M := M_X3_haveCommonPlace) dX3_haveCommonPlace_18 rfl ?_
      refine z_iconst (M := M_X3_haveCommonPlace) dX3_haveCommonPlace_19 ?_
      refine z_iconst (M := M_X3_haveCommonPlace) dX3_haveCommonPlace_20 ?_
      obtain ⟨x_10, hc_9, H⟩ := bd_e H
      refine z_callV (M := M_X3_haveCommonPlace) (M' := M_X3_has) (as := [vi 1, vi 0]) (rest := []) rfl rfl dX3_haveCommonPlace_21 m_X3_has t_2046 t_2048 s_123 (c_X3_has hl  hc_9) rfl rfl ly_222 rfl (Nat.le_of_ble_eq_true rfl) (Nat.le_of_ble_eq_true rfl) (Nat.le_of_ble_eq_true rfl) (Nat.le_of_ble_eq_true rfl) ?_
      refine z_st (st' := [zv x_10]) rfl ?_
      rcases if_e H with ⟨h_11, H⟩ | ⟨h_11, H⟩
      · refine z_zne_t (M := M_X3_haveCommonPlace) (tgt := 36) dX3_haveCommonPlace_24 (by decide) h_11 ?_
        refine z_zconst (M := M_X3_haveCommonPlace) (b := true) dX3_haveCommonPlace_36 rfl ?_
        refine z_goto (M := M_X3_haveCommonPlace) (tgt := 41) dX3_haveCommonPlace_37 (by decide) ?_
        exact J_22 _ (Option.some.inj H).symm
      · refine z_zne_f (M := M_X3_haveCommonPlace) (tgt := 36) dX3_haveCommonPlace_24 (by decide) h_11 ?_
        refine z_aload_n (M := M_X3_haveCommonPlace) dX3_haveCommonPlace_27 rfl ?_
        refine z_iconst (M := M_X3_haveCommonPlace) dX3_haveCommonPlace_28 ?_
        refine z_iconst (M := M_X3_haveCommonPlace) dX3_haveCommonPlace_29 ?_
        obtain ⟨x_14, hc_13, H⟩ := bd_e H
        refine z_callV (M := M_X3_haveCommonPlace) (M' := M_X3_has) (as := [vi 1, vi 1]) (rest := []) rfl rfl dX3_haveCommonPlace_30 m_X3_has t_2046 t_2048 s_123 (c_X3_has hl  hc_13) rfl rfl ly_222 rfl (Nat.le_of_ble_eq_true rfl) (Nat.le_of_ble_eq_true rfl) (Nat.le_of_ble_eq_true rfl) (Nat.le_of_ble_eq_true rfl) ?_
        refine z_st (st' := [zv x_14]) rfl ?_
        rcases if_e H with ⟨h_15, H⟩ | ⟨h_15, H⟩
        · refine z_zeq_f (M := M_X3_haveCommonPlace) (tgt := 40) dX3_haveCommonPlace_33 (by decide) h_15 ?_
          refine z_zconst (M := M_X3_haveCommonPlace) (b := true) dX3_haveCommonPlace_36 rfl ?_
          refine z_goto (M := M_X3_haveCommonPlace) (tgt := 41) dX3_haveCommonPlace_37 (by decide) ?_
          exact J_22 _ (Option.some.inj H).symm
        · refine z_zeq_t (M := M_X3_haveCommonPlace) (tgt := 40) dX3_haveCommonPlace_33 (by decide) h_15 ?_
          refine z_zconst (M := M_X3_haveCommonPlace) (b := false) dX3_haveCommonPlace_40 rfl ?_
          exact J_22 _ (Option.some.inj H).symm
theorem c_X3_isFirstOutside (hl : l.stackTraces = false) {σ : SG} {r : Bool}  (H : fT_isFirstOutside σ = some r) : en_S l E M_X3_isFirstOutside 2 0 0 [vr 222] σ (pS (some (zv r)) σ) := by
  unfold fT_isFirstOutside at H
  refine z_mk (lv := [some (vr 222)]) m_X3_isFirstOutside rfl hl (Nat.le_of_ble_eq_true rfl) rfl ?_
  obtain ⟨v_11, he_12, hk_13⟩ := bd_e H
  have J_14 : ∀ x_10, v_11 = x_10 → YY l E M_X3_isFirstOutside 2 0 0 (pS (some (zv r)) σ) 23 [some (vr 222)] [zv x_10] σ 0 0 := by
    intro x_10 e
    have H := hk_13
    rw [e] at H
    cases H
    exact z_zret (M := M_X3_isFirstOutside) dX3_isFirstOutside_23 rfl (Nat.le_of_ble_eq_true rfl) (Nat.le_of_ble_eq_true rfl) ⟨rfl, rfl⟩
  have H := he_12
  refine z_aload_n (M := M_X3_isFirstOutside) dX3_isFirstOutside_0 rfl ?_
  refine z_iconst (M := M_X3_isFirstOutside) dX3_isFirstOutside_1 ?_
  refine z_iconst (M := M_X3_isFirstOutside) dX3_isFirstOutside_2 ?_
  obtain ⟨x_2, hc_1, H⟩ := bd_e H
  refine z_callV (M := M_X3_isFirstOutside) (M' := M_X3_has) (as := [vi 0, vi 2]) (rest := []) rfl rfl dX3_isFirstOutside_3 m_X3_has t_2046 t_2048 s_123 (c_X3_has hl  hc_1) rfl rfl ly_222 rfl (Nat.le_of_ble_eq_true rfl) (Nat.le_of_ble_eq_true rfl) (Nat.le_of_ble_eq_true rfl) (Nat.le_of_ble_eq_true rfl) ?_
  refine z_st (st' := [zv x_2]) rfl ?_
  rcases if_e H with ⟨h_3, H⟩ | ⟨h_3, H⟩
  · refine z_zne_t (M := M_X3_isFirstOutside) (tgt := 18) dX3_isFirstOutside_6 (by decide) h_3 ?_
    refine z_zconst (M := M_X3_isFirstOutside) (b := true) dX3_isFirstOutside_18 rfl ?_
    refine z_goto (M := M_X3_isFirstOutside) (tgt := 23) dX3_isFirstOutside_19 (by decide) ?_
    exact J_14 _ (Option.some.inj H).symm
  · refine z_zne_f (M := M_X3_isFirstOutside) (tgt := 18) dX3_isFirstOutside_6 (by decide) h_3 ?_
    refine z_aload_n (M := M_X3_isFirstOutside) dX3_isFirstOutside_9 rfl ?_
    refine z_iconst (M := M_X3_isFirstOutside) dX3_isFirstOutside_10 ?_
    refine z_iconst (M := M_X3_isFirstOutside) dX3_isFirstOutside_11 ?_
    obtain ⟨x_6, hc_5, H⟩ := bd_e H
    refine z_callV (M := M_X3_isFirstOutside) (M' := M_X3_has) (as := [vi 1, vi 2]) (rest := []) rfl rfl dX3_isFirstOutside_12 m_X3_has t_2046 t_2048 s_123 (c_X3_has hl  hc_5) rfl rfl ly_222 rfl (Nat.le_of_ble_eq_true rfl) (Nat.le_of_ble_eq_true rfl) (Nat.le_of_ble_eq_true rfl) (Nat.le_of_ble_eq_true rfl) ?_
    refine z_st (st' := [zv x_6]) rfl ?_
    rcases if_e H with ⟨h_7, H⟩ | ⟨h_7, H⟩
    · refine z_zeq_f (M := M_X3_isFirstOutside) (tgt := 22) dX3_isFirstOutside_15 (by decide) h_7 ?_
      refine z_zconst (M := M_X3_isFirstOutside) (b := true) dX3_isFirstOutside_18 rfl ?_
      refine z_goto (M := M_X3_isFirstOutside) (tgt := 23) dX3_isFirstOutside_19 (by decide) ?_
      exact J_14 _ (Option.some.inj H).symm
    · refine z_zeq_t (M := M_X3_isFirstOutside) (tgt := 22) dX3_isFirstOutside_15 (by decide) h_7 ?_
      refine z_zconst (M := M_X3_isFirstOutside) (b := false) dX3_isFirstOutside_22 rfl ?_
      exact J_14 _ (Option.some.inj H).symm
theorem c_X3_isSecondOutside (hl : l.stackTraces = false) {σ : SG} {r : Bool}  (H : fT_isSecondOutside σ = some r) : en_S l E M_X3_isSecondOutside 2 0 0 [vr 222] σ (pS (some (zv r)) σ) := by
  unfold fT_isSecondOutside at H
  refine z_mk (lv := [some (vr 222)]) m_X3_isSecondOutside rfl hl (Nat.le_of_ble_eq_true rfl) rfl ?_
  obtain ⟨v_11, he_12, hk_13⟩ := bd_e H
  have J_14 : ∀ x_10, v_11 = x_10 → YY l E M_X3_isSecondOutside 2 0 0 (pS (some (zv r)) σ) 23 [some (vr 222)] [zv x_10] σ 0 0 := by
    intro x_10 e
    have H := hk_13
    rw [e] at H
    cases H
    exact z_zret (M := M_X3_isSecondOutside) dX3_isSecondOutside_23 rfl (Nat.le_of_ble_eq_true rfl) (Nat.le_of_ble_eq_true rfl) ⟨rfl, rfl⟩
  have H := he_12
  refine z_aload_n (M := M_X3_isSecondOutside) dX3_isSecondOutside_0 rfl ?_
  refine z_iconst (M := M_X3_isSecondOutside) dX3_isSecondOutside_1 ?_
  refine z_iconst (M := M_X3_isSecondOutside) dX3_isSecondOutside_2 ?_
  obtain ⟨x_2, hc_1, H⟩ := bd_e H
  refine z_callV (M := M_X3_isSecondOutside) (M' := M_X3_has) (as := [vi 2, vi 0]) (rest := []) rfl rfl dX3_isSecondOutside_3 m_X3_has t_2046 t_2048 s_123 (c_X3_has hl  hc_1) rfl rfl ly_222 rfl (Nat.le_of_ble_eq_true rfl) (Nat.le_of_ble_eq_true rfl) (Nat.le_of_ble_eq_true rfl) (Nat.le_of_ble_eq_true rfl) ?_
  refine z_st (st' := [zv x_2]) rfl ?_
  rcases if_e H with ⟨h_3, H⟩ | ⟨h_3, H⟩
  · refine z_zne_t (M := M_X3_isSecondOutside) (tgt := 18) dX3_isSecondOutside_6 (by decide) h_3 ?_
    refine z_zconst (M := M_X3_isSecondOutside) (b := true) dX3_isSecondOutside_18 rfl ?_
    refine z_goto (M := M_X3_isSecondOutside) (tgt := 23) dX3_isSecondOutside_19 (by decide) ?_
    exact J_14 _ (Option.some.inj H).symm
  · refine z_zne_f (M := M_X3_isSecondOutside) (tgt := 18) dX3_isSecondOutside_6 (by decide) h_3 ?_
    refine z_aload_n (M := M_X3_isSecondOutside) dX3_isSecondOutside_9 rfl ?_
    refine z_iconst (M := M_X3_isSecondOutside) dX3_isSecondOutside_10 ?_
    refine z_iconst (M := M_X3_isSecondOutside) dX3_isSecondOutside_11 ?_
    obtain ⟨x_6, hc_5, H⟩ := bd_e H
    refine z_callV (M := M_X3_isSecondOutside) (M' := M_X3_has) (as := [vi 2, vi 1]) (rest := []) rfl rfl dX3_isSecondOutside_12 m_X3_has t_2046 t_2048 s_123 (c_X3_has hl  hc_5) rfl rfl ly_222 rfl (Nat.le_of_ble_eq_true rfl) (Nat.le_of_ble_eq_true rfl) (Nat.le_of_ble_eq_true rfl) (Nat.le_of_ble_eq_true rfl) ?_
    refine z_st (st' := [zv x_6]) rfl ?_
    rcases if_e H with ⟨h_7, H⟩ | ⟨h_7, H⟩
    · refine z_zeq_f (M := M_X3_isSecondOutside) (tgt := 22) dX3_isSecondOutside_15 (by decide) h_7 ?_
      refine z_zconst (M := M_X3_isSecondOutside) (b := true) dX3_isSecondOutside_18 rfl ?_
      refine z_goto (M := M_X3_isSecondOutside) (tgt := 23) dX3_isSecondOutside_19 (by decide) ?_
      exact J_14 _ (Option.some.inj H).symm
    · refine z_zeq_t (M := M_X3_isSecondOutside) (tgt := 22) dX3_isSecondOutside_15 (by decide) h_7 ?_
      refine z_zconst (M := M_X3_isSecondOutside) (b := false) dX3_isSecondOutside_22 rfl ?_
      exact J_14 _ (Option.some.inj H).symm
theorem c_X3_lieAcross (hl : l.stackTraces = false) {σ : SG} {first_0 : Int} {second_0 : Int} {r : Bool}  (H : fT_lieAcross σ first_0 second_0 = some r) : en_S l E M_X3_lieAcross 2 0 0 [vr 222, vi first_0, vi second_0] σ (pS (some (zv r)) σ) := by
  unfold fT_lieAcross at H
  refine z_mk (lv := [some (vr 222), some (vi first_0), some (vi second_0)]) m_X3_lieAcross rfl hl (Nat.le_of_ble_eq_true rfl) rfl ?_
  refine z_iload_n (M := M_X3_lieAcross) dX3_lieAcross_0 rfl ?_
  refine z_iload_n (M := M_X3_lieAcross) dX3_lieAcross_1 rfl ?_
  rcases if_e H with ⟨h_1, H⟩ | ⟨h_1, H⟩
  · refine z_icmp_ge_f (M := M_X3_lieAcross) (tgt := 29) dX3_lieAcross_2 (by decide) rfl rfl h_1 ?_
    obtain ⟨v_12, he_13, hk_14⟩ := bd_e H
    have J_15 : ∀ x_11, v_12 = x_11 → YY l E M_X3_lieAcross 2 0 0 (pS (some (zv r)) σ) 28 [some (vr 222), some (vi first_0), some (vi second_0)] [zv x_11] σ 0 0 := by
      intro x_11 e
      have H := hk_14
      rw [e] at H
      cases H
      exact z_zret (M := M_X3_lieAcross) dX3_lieAcross_28 rfl (Nat.le_of_ble_eq_true rfl) (Nat.le_of_ble_eq_true rfl) ⟨rfl, rfl⟩
    have H := he_13
    refine z_aload_n (M := M_X3_lieAcross) dX3_lieAcross_5 rfl ?_
    refine z_iconst (M := M_X3_lieAcross) dX3_lieAcross_6 ?_
    refine z_iconst (M := M_X3_lieAcross) dX3_lieAcross_7 ?_
    obtain ⟨x_3, hc_2, H⟩ := bd_e H
    refine z_callV (M := M_X3_lieAcross) (M' := M_X3_has) (as := [vi 0, vi 0]) (rest := []) rfl rfl dX3_lieAcross_8 m_X3_has t_2046 t_2048 s_123 (c_X3_has hl  hc_2) rfl rfl ly_222 rfl (Nat.le_of_ble_eq_true rfl) (Nat.le_of_ble_eq_true rfl) (Nat.le_of_ble_eq_true rfl) (Nat.le_of_ble_eq_true rfl) ?_
    refine z_st (st' := [zv x_3]) rfl ?_
    rcases if_e H with ⟨h_4, H⟩ | ⟨h_4, H⟩
    · refine z_zeq_f (M := M_X3_lieAcross) (tgt := 27) dX3_lieAcross_11 (by decide) h_4 ?_
      refine z_aload_n (M := M_X3_lieAcross) dX3_lieAcross_14 rfl ?_
      refine z_iconst (M := M_X3_lieAcross) dX3_lieAcross_15 ?_
      refine z_iconst (M := M_X3_lieAcross) dX3_lieAcross_16 ?_
      obtain ⟨x_6, hc_5, H⟩ := bd_e H
      refine z_callV (M := M_X3_lieAcross) (M' := M_X3_has) (as := [vi 0, vi 2]) (rest := []) rfl rfl dX3_lieAcross_17 m_X3_has t_2046 t_2048 s_123 (c_X3_has hl  hc_5) rfl rfl ly_222 rfl (Nat.le_of_ble_eq_true rfl) (Nat.le_of_ble_eq_true rfl) (Nat.le_of_ble_eq_true rfl) (Nat.le_of_ble_eq_true rfl) ?_
      refine z_st (st' := [zv x_6]) rfl ?_
      rcases if_e H with ⟨h_7, H⟩ | ⟨h_7, H⟩
      · refine z_zeq_f (M := M_X3_lieAcross) (tgt := 27) dX3_lieAcross_20 (by decide) h_7 ?_
        refine z_zconst (M := M_X3_lieAcross) (b := true) dX3_lieAcross_23 rfl ?_
        refine z_goto (M := M_X3_lieAcross) (tgt := 28) dX3_lieAcross_24 (by decide) ?_
        exact J_15 _ (Option.some.inj H).symm
      · refine z_zeq_t (M := M_X3_lieAcross) (tgt := 27) dX3_lieAcross_20 (by decide) h_7 ?_
        refine z_zconst (M := M_X3_lieAcross) (b := false) dX3_lieAcross_27 rfl ?_
        exact J_15 _ (Option.some.inj H).symm
    · refine z_zeq_t (M := M_X3_lieAcross) (tgt := 27) dX3_lieAcross_11 (by decide) h_4 ?_
      refine z_zconst (M := M_X3_lieAcross) (b := false) dX3_lieAcross_27 rfl ?_
      exact J_15 _ (Option.some.inj H).symm
  · refine z_icmp_ge_t (M := M_X3_lieAcross) (tgt := 29) dX3_lieAcross_2 (by decide) rfl rfl (Int.not_lt.mp h_1) ?_
    refine z_iload_n (M := M_X3_lieAcross) dX3_lieAcross_29 rfl ?_
    refine z_iload_n (M := M_X3_lieAcross) dX3_lieAcross_30 rfl ?_
    rcases if_e H with ⟨h_16, H⟩ | ⟨h_16, H⟩
    · refine z_icmp_le_f (M := M_X3_lieAcross) (tgt := 58) dX3_lieAcross_31 (by decide) rfl rfl h_16 ?_
      obtain ⟨v_27, he_28, hk_29⟩ := bd_e H
      have J_30 : ∀ x_26, v_27 = x_26 → YY l E M_X3_lieAcross 2 0 0 (pS (some (zv r)) σ) 57 [some (vr 222), some (vi first_0), some (vi second_0)] [zv x_26] σ 0 0 := by
        intro x_26 e
        have H := hk_29
        rw [e] at H
        cases H
        exact z_zret (M := M_X3_lieAcross) dX3_lieAcross_57 rfl (Nat.le_of_ble_eq_true rfl) (Nat.le_of_ble_eq_true rfl) ⟨rfl, rfl⟩
      have H := he_28
      refine z_aload_n (M := M_X3_lieAcross) dX3_lieAcross_34 rfl ?_
      refine z_iconst (M := M_X3_lieAcross) dX3_lieAcross_35 ?_
      refine z_iconst (M := M_X3_lieAcross) dX3_lieAcross_36 ?_
      obtain ⟨x_18, hc_17, H⟩ := bd_e H
      refine z_callV (M := M_X3_lieAcross) (M' := M_X3_has) (as := [vi 0, vi 0]) (rest := []) rfl rfl dX3_lieAcross_37 m_X3_has t_2046 t_2048 s_123 (c_X3_has hl  hc_17) rfl rfl ly_222 rfl (Nat.le_of_ble_eq_true rfl) (Nat.le_of_ble_eq_true rfl) (Nat.le_of_ble_eq_true rfl) (Nat.le_of_ble_eq_true rfl) ?_
      refine z_st (st' := [zv x_18]) rfl ?_
      rcases if_e H with ⟨h_19, H⟩ | ⟨h_19, H⟩
      · refine z_zeq_f (M := M_X3_lieAcross) (tgt := 56) dX3_lieAcross_40 (by decide) h_19 ?_
        refine z_aload_n (M := M_X3_lieAcross) dX3_lieAcross_43 rfl ?_
        refine z_iconst (M := M_X3_lieAcross) dX3_lieAcross_44 ?_
        refine z_iconst (M := M_X3_lieAcross) dX3_lieAcross_45 ?_
        obtain ⟨x_21, hc_20, H⟩ := bd_e H
        refine z_callV (M := M_X3_lieAcross) (M' := M_X3_has) (as := [vi 2, vi 0]) (rest := []) rfl rfl dX3_lieAcross_46 m_X3_has t_2046 t_2048 s_123 (c_X3_has hl  hc_20) rfl rfl ly_222 rfl (Nat.le_of_ble_eq_true rfl) (Nat.le_of_ble_eq_true rfl) (Nat.le_of_ble_eq_true rfl) (Nat.le_of_ble_eq_true rfl) ?_
        refine z_st (st' := [zv x_21]) rfl ?_
        rcases if_e H with ⟨h_22, H⟩ | ⟨h_22, H⟩
        · refine z_zeq_f (M := M_X3_lieAcross) (tgt := 56) dX3_lieAcross_49 (by decide) h_22 ?_
          refine z_zconst (M := M_X3_lieAcross) (b := true) dX3_lieAcross_52 rfl ?_
          refine z_goto (M := M_X3_lieAcross) (tgt := 57) dX3_lieAcross_53 (by decide) ?_
          exact J_30 _ (Option.some.inj H).symm
        · refine z_zeq_t (M := M_X3_lieAcross) (tgt := 56) dX3_lieAcross_49 (by decide) h_22 ?_
          refine z_zconst (M := M_X3_lieAcross) (b := false) dX3_lieAcross_56 rfl ?_
          exact J_30 _ (Option.some.inj H).symm
      · refine z_zeq_t (M := M_X3_lieAcross) (tgt := 56) dX3_lieAcross_40 (by decide) h_19 ?_
        refine z_zconst (M := M_X3_lieAcross) (b := false) dX3_lieAcross_56 rfl ?_
        exact J_30 _ (Option.some.inj H).symm
    · refine z_icmp_le_t (M := M_X3_lieAcross) (tgt := 58) dX3_lieAcross_31 (by decide) rfl rfl (Int.not_lt.mp h_16) ?_
      obtain ⟨v_39, he_40, hk_41⟩ := bd_e H
      have J_42 : ∀ x_38, v_39 = x_38 → YY l E M_X3_lieAcross 2 0 0 (pS (some (zv r)) σ) 77 [some (vr 222), some (vi first_0), some (vi second_0)] [zv x_38] σ 0 0 := by
        intro x_38 e
        have H := hk_41
        rw [e] at H
        cases H
        exact z_zret (M := M_X3_lieAcross) dX3_lieAcross_77 rfl (Nat.le_of_ble_eq_true rfl) (Nat.le_of_ble_eq_true rfl) ⟨rfl, rfl⟩
      have H := he_40
      refine z_iload_n (M := M_X3_lieAcross) dX3_lieAcross_58 rfl ?_
      refine z_iconst (M := M_X3_lieAcross) dX3_lieAcross_59 ?_
      rcases if_e H with ⟨h_31, H⟩ | ⟨h_31, H⟩
      · refine z_icmp_ne_f (M := M_X3_lieAcross) (tgt := 76) dX3_lieAcross_60 (by decide) rfl (by decide +kernel) h_31 ?_
        refine z_aload_n (M := M_X3_lieAcross) dX3_lieAcross_63 rfl ?_
        refine z_getR (M := M_X3_lieAcross) (ci := 6) (C := RX3) (T := TX3) (Nf := 12) (ty := tyX3) cl6 dX3_lieAcross_64 ly_222 1 (by decide) t_443 rfl ?_
        refine z_iconst (M := M_X3_lieAcross) dX3_lieAcross_67 ?_
        obtain ⟨x_32, x_32_e, hi_33, H⟩ := rd_e H
        refine z_iald (M := M_X3_lieAcross) dX3_lieAcross_68 ly_229 rfl (by decide +kernel) rfl hi_33 x_32_e ?_
        rcases if_e H with ⟨h_34, H⟩ | ⟨h_34, H⟩
        · refine z_if_ne_f (M := M_X3_lieAcross) (tgt := 76) dX3_lieAcross_69 (by decide) rfl h_34 ?_
          refine z_zconst (M := M_X3_lieAcross) (b := true) dX3_lieAcross_72 rfl ?_
          refine z_goto (M := M_X3_lieAcross) (tgt := 77) dX3_lieAcross_73 (by decide) ?_
          exact J_42 _ (Option.some.inj H).symm
        · refine z_if_ne_t (M := M_X3_lieAcross) (tgt := 76) dX3_lieAcross_69 (by decide) rfl h_34 ?_
          refine z_zconst (M := M_X3_lieAcross) (b := false) dX3_lieAcross_76 rfl ?_
          exact J_42 _ (Option.some.inj H).symm
      · refine z_icmp_ne_t (M := M_X3_lieAcross) (tgt := 76) dX3_lieAcross_60 (by decide) rfl (by decide +kernel) h_31 ?_
        refine z_zconst (M := M_X3_lieAcross) (b := false) dX3_lieAcross_76 rfl ?_
        exact J_42 _ (Option.some.inj H).symm
theorem c_X3_lieSo (hl : l.stackTraces = false) {σ : SG} {what_0 : Int} {r : Bool}  (H : fT_lieSo σ what_0 = some r) : en_S l E M_X3_lieSo 3 0 0 [vr 222, vi what_0] σ (pS (some (zv r)) σ) := by
  unfold fT_lieSo at H
  refine z_mk (lv := [some (vr 222), some (vi what_0), none, none]) m_X3_lieSo rfl hl (Nat.le_of_ble_eq_true rfl) rfl ?_
  refine z_aload_n (M := M_X3_lieSo) dX3_lieSo_0 rfl ?_
  refine z_getR (M := M_X3_lieSo) (ci := 6) (C := RX3) (T := TX3) (Nf := 12) (ty := tyX3) cl6 dX3_lieSo_1 ly_222 1 (by decide) t_443 rfl ?_
  refine z_iconst (M := M_X3_lieSo) dX3_lieSo_4 ?_
  obtain ⟨x_1, x_1_e, hi_2, H⟩ := rd_e H
  refine z_iald (M := M_X3_lieSo) dX3_lieSo_5 ly_229 rfl (by decide +kernel) rfl hi_2 x_1_e ?_
  refine z_aload_n (M := M_X3_lieSo) dX3_lieSo_6 rfl ?_
  refine z_getR (M := M_X3_lieSo) (ci := 6) (C := RX3) (T := TX3) (Nf := 12) (ty := tyX3) cl6 dX3_lieSo_7 ly_222 1 (by decide) t_443 rfl ?_
  refine z_iconst (M := M_X3_lieSo) dX3_lieSo_10 ?_
  obtain ⟨x_3, x_3_e, hi_4, H⟩ := rd_e H
  refine z_iald (M := M_X3_lieSo) dX3_lieSo_11 ly_229 rfl (by decide +kernel) rfl hi_4 x_3_e ?_
  refine z_aload_n (M := M_X3_lieSo) dX3_lieSo_12 rfl ?_
  refine z_getR (M := M_X3_lieSo) (ci := 6) (C := RX3) (T := TX3) (Nf := 12) (ty := tyX3) cl6 dX3_lieSo_13 ly_222 1 (by decide) t_443 rfl ?_
  refine z_iconst (M := M_X3_lieSo) dX3_lieSo_16 ?_
  obtain ⟨x_5, x_5_e, hi_6, H⟩ := rd_e H
  refine z_iald (M := M_X3_lieSo) dX3_lieSo_17 ly_229 rfl (by decide +kernel) rfl hi_6 x_5_e ?_
  refine z_mmax (M := M_X3_lieSo) dX3_lieSo_18 t_2002 t_1013 t_20 t_1014 (Nat.le_of_ble_eq_true rfl) (Nat.le_of_ble_eq_true rfl) (Nat.le_of_ble_eq_true rfl) (Nat.le_of_ble_eq_true rfl) ?_
  refine z_mmax (M := M_X3_lieSo) dX3_lieSo_21 t_2002 t_1013 t_20 t_1014 (Nat.le_of_ble_eq_true rfl) (Nat.le_of_ble_eq_true rfl) (Nat.le_of_ble_eq_true rfl) (Nat.le_of_ble_eq_true rfl) ?_
  refine z_istore_n (M := M_X3_lieSo) (lv' := [some (vr 222), some (vi what_0), some (vi (q_mxi x_1 (q_mxi x_3 x_5))), none]) dX3_lieSo_24 (Nat.le_of_ble_eq_true rfl) rfl rfl ?_
  refine z_aload_n (M := M_X3_lieSo) dX3_lieSo_25 rfl ?_
  refine z_getR (M := M_X3_lieSo) (ci := 6) (C := RX3) (T := TX3) (Nf := 12) (ty := tyX3) cl6 dX3_lieSo_26 ly_222 1 (by decide) t_443 rfl ?_
  refine z_iconst (M := M_X3_lieSo) dX3_lieSo_29 ?_
  obtain ⟨x_7, x_7_e, hi_8, H⟩ := rd_e H
  refine z_iald (M := M_X3_lieSo) dX3_lieSo_30 ly_229 rfl (by decide +kernel) rfl hi_8 x_7_e ?_
  refine z_aload_n (M := M_X3_lieSo) dX3_lieSo_31 rfl ?_
  refine z_getR (M := M_X3_lieSo) (ci := 6) (C := RX3) (T := TX3) (Nf := 12) (ty := tyX3) cl6 dX3_lieSo_32 ly_222 1 (by decide) t_443 rfl ?_
  refine z_iconst (M := M_X3_lieSo) dX3_lieSo_35 ?_
  obtain ⟨x_9, x_9_e, hi_10, H⟩ := rd_e H
  refine z_iald (M := M_X3_lieSo) dX3_lieSo_36 ly_229 rfl (by decide +kernel) rfl hi_10 x_9_e ?_
  refine z_aload_n (M := M_X3_lieSo) dX3_lieSo_37 rfl ?_
  refine z_getR (M := M_X3_lieSo) (ci := 6) (C := RX3) (T := TX3) (Nf := 12) (ty := tyX3) cl6 dX3_lieSo_38 ly_222 1 (by decide) t_443 rfl ?_
  refine z_bipush (M := M_X3_lieSo) dX3_lieSo_41 (by decide +kernel) ?_
  obtain ⟨x_11, x_11_e, hi_12, H⟩ := rd_e H
  refine z_iald (M := M_X3_lieSo) dX3_lieSo_43 ly_229 rfl (by decide +kernel) rfl hi_12 x_11_e ?_
  refine z_mmax (M := M_X3_lieSo) dX3_lieSo_44 t_2002 t_1013 t_20 t_1014 (Nat.le_of_ble_eq_true rfl) (Nat.le_of_ble_eq_true rfl) (Nat.le_of_ble_eq_true rfl) (Nat.le_of_ble_eq_true rfl) ?_
  refine z_mmax (M := M_X3_lieSo) dX3_lieSo_47 t_2002 t_1013 t_20 t_1014 (Nat.le_of_ble_eq_true rfl) (Nat.le_of_ble_eq_true rfl) (Nat.le_of_ble_eq_true rfl) (Nat.le_of_ble_eq_true rfl) ?_
  refine z_istore_n (M := M_X3_lieSo) (lv' := [some (vr 222), some (vi what_0), some (vi (q_mxi x_1 (q_mxi x_3 x_5))), some (vi (q_mxi x_7 (q_mxi x_9 x_11)))]) dX3_lieSo_50 (Nat.le_of_ble_eq_true rfl) rfl rfl ?_
  refine z_iload_n (M := M_X3_lieSo) dX3_lieSo_51 rfl ?_
  rcases if_e H with ⟨h_13, H⟩ | ⟨h_13, H⟩
  · refine z_tabIn (M := M_X3_lieSo) (tgt := 100) (off := 48) dX3_lieSo_52 h_13 (by decide) (by decide) rfl (by decide) ?_
    obtain ⟨v_44, he_45, hk_46⟩ := bd_e H
    have J_47 : ∀ x_43, v_44 = x_43 → YY l E M_X3_lieSo 3 0 0 (pS (some (zv r)) σ) 136 [some (vr 222), some (vi what_0), some (vi (q_mxi x_1 (q_mxi x_3 x_5))), some (vi (q_mxi x_7 (q_mxi x_9 x_11)))] [zv x_43] σ 0 0 := by
      intro x_43 e
      have H := hk_46
      rw [e] at H
      cases H
      exact z_zret (M := M_X3_lieSo) dX3_lieSo_136 rfl (Nat.le_of_ble_eq_true rfl) (Nat.le_of_ble_eq_true rfl) ⟨rfl, rfl⟩
    have H := he_45
    refine z_iload_n (M := M_X3_lieSo) dX3_lieSo_100 rfl ?_
    rcases if_e H with ⟨h_14, H⟩ | ⟨h_14, H⟩
    · refine z_if_ge_f (M := M_X3_lieSo) (tgt := 108) dX3_lieSo_101 (by decide) rfl h_14 ?_
      refine z_iload_n (M := M_X3_lieSo) dX3_lieSo_104 rfl ?_
      rcases if_e H with ⟨h_15, H⟩ | ⟨h_15, H⟩
      · refine z_if_lt_t (M := M_X3_lieSo) (tgt := 131) dX3_lieSo_105 (by decide) rfl h_15 ?_
        refine z_zconst (M := M_X3_lieSo) (b := true) dX3_lieSo_131 rfl ?_
        refine z_goto (M := M_X3_lieSo) (tgt := 136) dX3_lieSo_132 (by decide) ?_
        exact J_47 _ (Option.some.inj H).symm
      · refine z_if_lt_f (M := M_X3_lieSo) (tgt := 131) dX3_lieSo_105 (by decide) rfl (Int.not_lt.mp h_15) ?_
        refine z_aload_n (M := M_X3_lieSo) dX3_lieSo_108 rfl ?_
        refine z_iconst (M := M_X3_lieSo) dX3_lieSo_109 ?_
        refine z_iconst (M := M_X3_lieSo) dX3_lieSo_110 ?_
        obtain ⟨x_18, hc_17, H⟩ := bd_e H
        refine z_callV (M := M_X3_lieSo) (M' := M_X3_has) (as := [vi 0, vi 0]) (rest := []) rfl rfl dX3_lieSo_111 m_X3_has t_2046 t_2048 s_123 (c_X3_has hl  hc_17) rfl rfl ly_222 rfl (Nat.le_of_ble_eq_true rfl) (Nat.le_of_ble_eq_true rfl) (Nat.le_of_ble_eq_true rfl) (Nat.le_of_ble_eq_true rfl) ?_
        refine z_st (st' := [zv x_18]) rfl ?_
        rcases if_e H with ⟨h_19, H⟩ | ⟨h_19, H⟩
        · refine z_zeq_f (M := M_X3_lieSo) (tgt := 135) dX3_lieSo_114 (by decide) h_19 ?_
          refine z_aload_n (M := M_X3_lieSo) dX3_lieSo_117 rfl ?_
          obtain ⟨x_21, hc_20, H⟩ := bd_e H
          refine z_callV (M := M_X3_lieSo) (M' := M_X3_isFirstOutside) (as := []) (rest := []) rfl rfl dX3_lieSo_118 m_X3_isFirstOutside t_2050 t_2052 s_124 (c_X3_isFirstOutside hl  hc_20) rfl rfl ly_222 rfl (Nat.le_of_ble_eq_true rfl) (Nat.le_of_ble_eq_true rfl) (Nat.le_of_ble_eq_true rfl) (Nat.le_of_ble_eq_true rfl) ?_
          refine z_st (st' := [zv x_21]) rfl ?_
          rcases if_e H with ⟨h_22, H⟩ | ⟨h_22, H⟩
          · refine z_zne_t (M := M_X3_lieSo) (tgt := 135) dX3_lieSo_121 (by decide) h_22 ?_
            refine z_zconst (M := M_X3_lieSo) (b := false) dX3_lieSo_135 rfl ?_
            exact J_47 _ (Option.some.inj H).symm
          · refine z_zne_f (M := M_X3_lieSo) (tgt := 135) dX3_lieSo_121 (by decide) h_22 ?_
            refine z_aload_n (M := M_X3_lieSo) dX3_lieSo_124 rfl ?_
            obtain ⟨x_25, hc_24, H⟩ := bd_e H
            refine z_callV (M := M_X3_lieSo) (M' := M_X3_isSecondOutside) (as := []) (rest := []) rfl rfl dX3_lieSo_125 m_X3_isSecondOutside t_2054 t_2056 s_125 (c_X3_isSecondOutside hl  hc_24) rfl rfl ly_222 rfl (Nat.le_of_ble_eq_true rfl) (Nat.le_of_ble_eq_true rfl) (Nat.le_of_ble_eq_true rfl) (Nat.le_of_ble_eq_true rfl) ?_
            refine z_st (st' := [zv x_25]) rfl ?_
            rcases if_e H with ⟨h_26, H⟩ | ⟨h_26, H⟩
            · refine z_zne_t (M := M_X3_lieSo) (tgt := 135) dX3_lieSo_128 (by decide) h_26 ?_
              refine z_zconst (M := M_X3_lieSo) (b := false) dX3_lieSo_135 rfl ?_
              exact J_47 _ (Option.some.inj H).symm
            · refine z_zne_f (M := M_X3_lieSo) (tgt := 135) dX3_lieSo_128 (by decide) h_26 ?_
              refine z_zconst (M := M_X3_lieSo) (b := true) dX3_lieSo_131 rfl ?_
              refine z_goto (M := M_X3_lieSo) (tgt := 136) dX3_lieSo_132 (by decide) ?_
              exact J_47 _ (Option.some.inj H).symm
        · refine z_zeq_t (M := M_X3_lieSo) (tgt := 135) dX3_lieSo_114 (by decide) h_19 ?_
          refine z_zconst (M := M_X3_lieSo) (b := false) dX3_lieSo_135 rfl ?_
          exact J_47 _ (Option.some.inj H).symm
    · refine z_if_ge_t (M := M_X3_lieSo) (tgt := 108) dX3_lieSo_101 (by decide) rfl (Int.not_lt.mp h_14) ?_
      refine z_aload_n (M := M_X3_lieSo) dX3_lieSo_108 rfl ?_
      refine z_iconst (M := M_X3_lieSo) dX3_lieSo_109 ?_
      refine z_iconst (M := M_X3_lieSo) dX3_lieSo_110 ?_
      obtain ⟨x_31, hc_30, H⟩ := bd_e H
      refine z_callV (M := M_X3_lieSo) (M' := M_X3_has) (as := [vi 0, vi 0]) (rest := []) rfl rfl dX3_lieSo_111 m_X3_has t_2046 t_2048 s_123 (c_X3_has hl  hc_30) rfl rfl ly_222 rfl (Nat.le_of_ble_eq_true rfl) (Nat.le_of_ble_eq_true rfl) (Nat.le_of_ble_eq_true rfl) (Nat.le_of_ble_eq_true rfl) ?_
      refine z_st (st' := [zv x_31]) rfl ?_
      rcases if_e H with ⟨h_32, H⟩ | ⟨h_32, H⟩
      · refine z_zeq_f (M := M_X3_lieSo) (tgt := 135) dX3_lieSo_114 (by decide) h_32 ?_
        refine z_aload_n (M := M_X3_lieSo) dX3_lieSo_117 rfl ?_
        obtain ⟨x_34, hc_33, H⟩ := bd_e H
        refine z_callV (M := M_X3_lieSo) (M' := M_X3_isFirstOutside) (as := []) (rest := []) rfl rfl dX3_lieSo_118 m_X3_isFirstOutside t_2050 t_2052 s_124 (c_X3_isFirstOutside hl  hc_33) rfl rfl ly_222 rfl (Nat.le_of_ble_eq_true rfl) (Nat.le_of_ble_eq_true rfl) (Nat.le_of_ble_eq_true rfl) (Nat.le_of_ble_eq_true rfl) ?_
        refine z_st (st' := [zv x_34]) rfl ?_
        rcases if_e H with ⟨h_35, H⟩ | ⟨h_35, H⟩
        · refine z_zne_t (M := M_X3_lieSo) (tgt := 135) dX3_lieSo_121 (by decide) h_35 ?_
          refine z_zconst (M := M_X3_lieSo) (b := false) dX3_lieSo_135 rfl ?_
          exact J_47 _ (Option.some.inj H).symm
        · refine z_zne_f (M := M_X3_lieSo) (tgt := 135) dX3_lieSo_121 (by decide) h_35 ?_
          refine z_aload_n (M := M_X3_lieSo) dX3_lieSo_124 rfl ?_
          obtain ⟨x_38, hc_37, H⟩ := bd_e H
          refine z_callV (M := M_X3_lieSo) (M' := M_X3_isSecondOutside) (as := []) (rest := []) rfl rfl dX3_lieSo_125 m_X3_isSecondOutside t_2054 t_2056 s_125 (c_X3_isSecondOutside hl  hc_37) rfl rfl ly_222 rfl (Nat.le_of_ble_eq_true rfl) (Nat.le_of_ble_eq_true rfl) (Nat.le_of_ble_eq_true rfl) (Nat.le_of_ble_eq_true rfl) ?_
          refine z_st (st' := [zv x_38]) rfl ?_
          rcases if_e H with ⟨h_39, H⟩ | ⟨h_39, H⟩
          · refine z_zne_t (M := M_X3_lieSo) (tgt := 135) dX3_lieSo_128 (by decide) h_39 ?_
            refine z_zconst (M := M_X3_lieSo) (b := false) dX3_lieSo_135 rfl ?_
            exact J_47 _ (Option.some.inj H).symm
          · refine z_zne_f (M := M_X3_lieSo) (tgt := 135) dX3_lieSo_128 (by decide) h_39 ?_
            refine z_zconst (M := M_X3_lieSo) (b := true) dX3_lieSo_131 rfl ?_
            refine z_goto (M := M_X3_lieSo) (tgt := 136) dX3_lieSo_132 (by decide) ?_
            exact J_47 _ (Option.some.inj H).symm
      · refine z_zeq_t (M := M_X3_lieSo) (tgt := 135) dX3_lieSo_114 (by decide) h_32 ?_
        refine z_zconst (M := M_X3_lieSo) (b := false) dX3_lieSo_135 rfl ?_
        exact J_47 _ (Option.some.inj H).symm
  · rcases if_e H with ⟨h_48, H⟩ | ⟨h_48, H⟩
    · refine z_tabIn (M := M_X3_lieSo) (tgt := 137) (off := 85) dX3_lieSo_52 h_48 (by decide) (by decide) rfl (by decide) ?_
      obtain ⟨v_55, he_56, hk_57⟩ := bd_e H
      have J_58 : ∀ x_54, v_55 = x_54 → YY l E M_X3_lieSo 3 0 0 (pS (some (zv r)) σ) 149 [some (vr 222), some (vi what_0), some (vi (q_mxi x_1 (q_mxi x_3 x_5))), some (vi (q_mxi x_7 (q_mxi x_9 x_11)))] [zv x_54] σ 0 0 := by
        intro x_54 e
        have H := hk_57
        rw [e] at H
        cases H
        exact z_zret (M := M_X3_lieSo) dX3_lieSo_149 rfl (Nat.le_of_ble_eq_true rfl) (Nat.le_of_ble_eq_true rfl) ⟨rfl, rfl⟩
      have H := he_56
      refine z_aload_n (M := M_X3_lieSo) dX3_lieSo_137 rfl ?_
      obtain ⟨x_50, hc_49, H⟩ := bd_e H
      refine z_callV (M := M_X3_lieSo) (M' := M_X3_haveCommonPlace) (as := []) (rest := []) rfl rfl dX3_lieSo_138 m_X3_haveCommonPlace t_2058 t_2060 s_126 (c_X3_haveCommonPlace hl  hc_49) rfl rfl ly_222 rfl (Nat.le_of_ble_eq_true rfl) (Nat.le_of_ble_eq_true rfl) (Nat.le_of_ble_eq_true rfl) (Nat.le_of_ble_eq_true rfl) ?_
      refine z_st (st' := [zv x_50]) rfl ?_
      rcases if_e H with ⟨h_51, H⟩ | ⟨h_51, H⟩
      · refine z_zne_t (M := M_X3_lieSo) (tgt := 148) dX3_lieSo_141 (by decide) h_51 ?_
        refine z_zconst (M := M_X3_lieSo) (b := false) dX3_lieSo_148 rfl ?_
        exact J_58 _ (Option.some.inj H).symm
      · refine z_zne_f (M := M_X3_lieSo) (tgt := 148) dX3_lieSo_141 (by decide) h_51 ?_
        refine z_zconst (M := M_X3_lieSo) (b := true) dX3_lieSo_144 rfl ?_
        refine z_goto (M := M_X3_lieSo) (tgt := 149) dX3_lieSo_145 (by decide) ?_
        exact J_58 _ (Option.some.inj H).symm
    · rcases if_e H with ⟨h_59, H⟩ | ⟨h_59, H⟩
      · refine z_tabIn (M := M_X3_lieSo) (tgt := 150) (off := 98) dX3_lieSo_52 h_59 (by decide) (by decide) rfl (by decide) ?_
        obtain ⟨v_70, he_71, hk_72⟩ := bd_e H
        have J_73 : ∀ x_69, v_70 = x_69 → YY l E M_X3_lieSo 3 0 0 (pS (some (zv r)) σ) 171 [some (vr 222), some (vi what_0), some (vi (q_mxi x_1 (q_mxi x_3 x_5))), some (vi (q_mxi x_7 (q_mxi x_9 x_11)))] [zv x_69] σ 0 0 := by
          intro x_69 e
          have H := hk_72
          rw [e] at H
          cases H
          exact z_zret (M := M_X3_lieSo) dX3_lieSo_171 rfl (Nat.le_of_ble_eq_true rfl) (Nat.le_of_ble_eq_true rfl) ⟨rfl, rfl⟩
        have H := he_71
        refine z_aload_n (M := M_X3_lieSo) dX3_lieSo_150 rfl ?_
        refine z_iconst (M := M_X3_lieSo) dX3_lieSo_151 ?_
        refine z_iconst (M := M_X3_lieSo) dX3_lieSo_152 ?_
        obtain ⟨x_61, hc_60, H⟩ := bd_e H
        refine z_callV (M := M_X3_lieSo) (M' := M_X3_has) (as := [vi 0, vi 0]) (rest := []) rfl rfl dX3_lieSo_153 m_X3_has t_2046 t_2048 s_123 (c_X3_has hl  hc_60) rfl rfl ly_222 rfl (Nat.le_of_ble_eq_true rfl) (Nat.le_of_ble_eq_true rfl) (Nat.le_of_ble_eq_true rfl) (Nat.le_of_ble_eq_true rfl) ?_
        refine z_st (st' := [zv x_61]) rfl ?_
        rcases if_e H with ⟨h_62, H⟩ | ⟨h_62, H⟩
        · refine z_zne_t (M := M_X3_lieSo) (tgt := 170) dX3_lieSo_156 (by decide) h_62 ?_
          refine z_zconst (M := M_X3_lieSo) (b := false) dX3_lieSo_170 rfl ?_
          exact J_73 _ (Option.some.inj H).symm
        · refine z_zne_f (M := M_X3_lieSo) (tgt := 170) dX3_lieSo_156 (by decide) h_62 ?_
          refine z_aload_n (M := M_X3_lieSo) dX3_lieSo_159 rfl ?_
          obtain ⟨x_65, hc_64, H⟩ := bd_e H
          refine z_callV (M := M_X3_lieSo) (M' := M_X3_haveCommonPlace) (as := []) (rest := []) rfl rfl dX3_lieSo_160 m_X3_haveCommonPlace t_2058 t_2060 s_126 (c_X3_haveCommonPlace hl  hc_64) rfl rfl ly_222 rfl (Nat.le_of_ble_eq_true rfl) (Nat.le_of_ble_eq_true rfl) (Nat.le_of_ble_eq_true rfl) (Nat.le_of_ble_eq_true rfl) ?_
          refine z_st (st' := [zv x_65]) rfl ?_
          rcases if_e H with ⟨h_66, H⟩ | ⟨h_66, H⟩
          · refine z_zeq_f (M := M_X3_lieSo) (tgt := 170) dX3_lieSo_163 (by decide) h_66 ?_
            refine z_zconst (M := M_X3_lieSo) (b := true) dX3_lieSo_166 rfl ?_
            refine z_goto (M := M_X3_lieSo) (tgt := 171) dX3_lieSo_167 (by decide) ?_
            exact J_73 _ (Option.some.inj H).symm
          · refine z_zeq_t (M := M_X3_lieSo) (tgt := 170) dX3_lieSo_163 (by decide) h_66 ?_
            refine z_zconst (M := M_X3_lieSo) (b := false) dX3_lieSo_170 rfl ?_
            exact J_73 _ (Option.some.inj H).symm
      · rcases if_e H with ⟨h_74, H⟩ | ⟨h_74, H⟩
        · refine z_tabIn (M := M_X3_lieSo) (tgt := 172) (off := 120) dX3_lieSo_52 h_74 (by decide) (by decide) rfl (by decide) ?_
          refine z_aload_n (M := M_X3_lieSo) dX3_lieSo_172 rfl ?_
          refine z_iload_n (M := M_X3_lieSo) dX3_lieSo_173 rfl ?_
          refine z_iload_n (M := M_X3_lieSo) dX3_lieSo_174 rfl ?_
          obtain ⟨x_76, hc_75, H⟩ := bd_e H
          refine z_callV (M := M_X3_lieSo) (M' := M_X3_lieAcross) (as := [vi (q_mxi x_1 (q_mxi x_3 x_5)), vi (q_mxi x_7 (q_mxi x_9 x_11))]) (rest := []) rfl rfl dX3_lieSo_175 m_X3_lieAcross t_2062 t_2064 s_127 (c_X3_lieAcross hl  hc_75) rfl rfl ly_222 rfl (Nat.le_of_ble_eq_true rfl) (Nat.le_of_ble_eq_true rfl) (Nat.le_of_ble_eq_true rfl) (Nat.le_of_ble_eq_true rfl) ?_
          refine z_st (st' := [zv x_76]) rfl ?_
          cases H
          exact z_zret (M := M_X3_lieSo) dX3_lieSo_178 rfl (Nat.le_of_ble_eq_true rfl) (Nat.le_of_ble_eq_true rfl) ⟨rfl, rfl⟩
        · rcases if_e H with ⟨h_77, H⟩ | ⟨h_77, H⟩
          · refine z_tabIn (M := M_X3_lieSo) (tgt := 179) (off := 127) dX3_lieSo_52 h_77 (by decide) (by decide) rfl (by decide) ?_
            obtain ⟨v_88, he_89, hk_90⟩ := bd_e H
            have J_91 : ∀ x_87, v_88 = x_87 → YY l E M_X3_lieSo 3 0 0 (pS (some (zv r)) σ) 200 [some (vr 222), some (vi what_0), some (vi (q_mxi x_1 (q_mxi x_3 x_5))), some (vi (q_mxi x_7 (q_mxi x_9 x_11)))] [zv x_87] σ 0 0 := by
              intro x_87 e
              have H := hk_90
              rw [e] at H
              cases H
              exact z_zret (M := M_X3_lieSo) dX3_lieSo_200 rfl (Nat.le_of_ble_eq_true rfl) (Nat.le_of_ble_eq_true rfl) ⟨rfl, rfl⟩
            have H := he_89
            refine z_aload_n (M := M_X3_lieSo) dX3_lieSo_179 rfl ?_
            refine z_iconst (M := M_X3_lieSo) dX3_lieSo_180 ?_
            refine z_iconst (M := M_X3_lieSo) dX3_lieSo_181 ?_
            obtain ⟨x_79, hc_78, H⟩ := bd_e H
            refine z_callV (M := M_X3_lieSo) (M' := M_X3_has) (as := [vi 0, vi 0]) (rest := []) rfl rfl dX3_lieSo_182 m_X3_has t_2046 t_2048 s_123 (c_X3_has hl  hc_78) rfl rfl ly_222 rfl (Nat.le_of_ble_eq_true rfl) (Nat.le_of_ble_eq_true rfl) (Nat.le_of_ble_eq_true rfl) (Nat.le_of_ble_eq_true rfl) ?_
            refine z_st (st' := [zv x_79]) rfl ?_
            rcases if_e H with ⟨h_80, H⟩ | ⟨h_80, H⟩
            · refine z_zeq_f (M := M_X3_lieSo) (tgt := 199) dX3_lieSo_185 (by decide) h_80 ?_
              refine z_aload_n (M := M_X3_lieSo) dX3_lieSo_188 rfl ?_
              obtain ⟨x_82, hc_81, H⟩ := bd_e H
              refine z_callV (M := M_X3_lieSo) (M' := M_X3_isFirstOutside) (as := []) (rest := []) rfl rfl dX3_lieSo_189 m_X3_isFirstOutside t_2050 t_2052 s_124 (c_X3_isFirstOutside hl  hc_81) rfl rfl ly_222 rfl (Nat.le_of_ble_eq_true rfl) (Nat.le_of_ble_eq_true rfl) (Nat.le_of_ble_eq_true rfl) (Nat.le_of_ble_eq_true rfl) ?_
              refine z_st (st' := [zv x_82]) rfl ?_
              rcases if_e H with ⟨h_83, H⟩ | ⟨h_83, H⟩
              · refine z_zne_t (M := M_X3_lieSo) (tgt := 199) dX3_lieSo_192 (by decide) h_83 ?_
                refine z_zconst (M := M_X3_lieSo) (b := false) dX3_lieSo_199 rfl ?_
                exact J_91 _ (Option.some.inj H).symm
              · refine z_zne_f (M := M_X3_lieSo) (tgt := 199) dX3_lieSo_192 (by decide) h_83 ?_
                refine z_zconst (M := M_X3_lieSo) (b := true) dX3_lieSo_195 rfl ?_
                refine z_goto (M := M_X3_lieSo) (tgt := 200) dX3_lieSo_196 (by decide) ?_
                exact J_91 _ (Option.some.inj H).symm
            · refine z_zeq_t (M := M_X3_lieSo) (tgt := 199) dX3_lieSo_185 (by decide) h_80 ?_
              refine z_zconst (M := M_X3_lieSo) (b := false) dX3_lieSo_199 rfl ?_
              exact J_91 _ (Option.some.inj H).symm
          · rcases if_e H with ⟨h_92, H⟩ | ⟨h_92, H⟩
            · refine z_tabIn (M := M_X3_lieSo) (tgt := 201) (off := 149) dX3_lieSo_52 h_92 (by decide) (by decide) rfl (by decide) ?_
              obtain ⟨v_103, he_104, hk_105⟩ := bd_e H
              have J_106 : ∀ x_102, v_103 = x_102 → YY l E M_X3_lieSo 3 0 0 (pS (some (zv r)) σ) 222 [some (vr 222), some (vi what_0), some (vi (q_mxi x_1 (q_mxi x_3 x_5))), some (vi (q_mxi x_7 (q_mxi x_9 x_11)))] [zv x_102] σ 0 0 := by
                intro x_102 e
                have H := hk_105
                rw [e] at H
                cases H
                exact z_zret (M := M_X3_lieSo) dX3_lieSo_222 rfl (Nat.le_of_ble_eq_true rfl) (Nat.le_of_ble_eq_true rfl) ⟨rfl, rfl⟩
              have H := he_104
              refine z_aload_n (M := M_X3_lieSo) dX3_lieSo_201 rfl ?_
              refine z_iconst (M := M_X3_lieSo) dX3_lieSo_202 ?_
              refine z_iconst (M := M_X3_lieSo) dX3_lieSo_203 ?_
              obtain ⟨x_94, hc_93, H⟩ := bd_e H
              refine z_callV (M := M_X3_lieSo) (M' := M_X3_has) (as := [vi 0, vi 0]) (rest := []) rfl rfl dX3_lieSo_204 m_X3_has t_2046 t_2048 s_123 (c_X3_has hl  hc_93) rfl rfl ly_222 rfl (Nat.le_of_ble_eq_true rfl) (Nat.le_of_ble_eq_true rfl) (Nat.le_of_ble_eq_true rfl) (Nat.le_of_ble_eq_true rfl) ?_
              refine z_st (st' := [zv x_94]) rfl ?_
              rcases if_e H with ⟨h_95, H⟩ | ⟨h_95, H⟩
              · refine z_zeq_f (M := M_X3_lieSo) (tgt := 221) dX3_lieSo_207 (by decide) h_95 ?_
                refine z_aload_n (M := M_X3_lieSo) dX3_lieSo_210 rfl ?_
                obtain ⟨x_97, hc_96, H⟩ := bd_e H
                refine z_callV (M := M_X3_lieSo) (M' := M_X3_isSecondOutside) (as := []) (rest := []) rfl rfl dX3_lieSo_211 m_X3_isSecondOutside t_2054 t_2056 s_125 (c_X3_isSecondOutside hl  hc_96) rfl rfl ly_222 rfl (Nat.le_of_ble_eq_true rfl) (Nat.le_of_ble_eq_true rfl) (Nat.le_of_ble_eq_true rfl) (Nat.le_of_ble_eq_true rfl) ?_
                refine z_st (st' := [zv x_97]) rfl ?_
                rcases if_e H with ⟨h_98, H⟩ | ⟨h_98, H⟩
                · refine z_zne_t (M := M_X3_lieSo) (tgt := 221) dX3_lieSo_214 (by decide) h_98 ?_
                  refine z_zconst (M := M_X3_lieSo) (b := false) dX3_lieSo_221 rfl ?_
                  exact J_106 _ (Option.some.inj H).symm
                · refine z_zne_f (M := M_X3_lieSo) (tgt := 221) dX3_lieSo_214 (by decide) h_98 ?_
                  refine z_zconst (M := M_X3_lieSo) (b := true) dX3_lieSo_217 rfl ?_
                  refine z_goto (M := M_X3_lieSo) (tgt := 222) dX3_lieSo_218 (by decide) ?_
                  exact J_106 _ (Option.some.inj H).symm
              · refine z_zeq_t (M := M_X3_lieSo) (tgt := 221) dX3_lieSo_207 (by decide) h_95 ?_
                refine z_zconst (M := M_X3_lieSo) (b := false) dX3_lieSo_221 rfl ?_
                exact J_106 _ (Option.some.inj H).symm
            · rcases if_e H with ⟨h_107, H⟩ | ⟨h_107, H⟩
              · refine z_tabIn (M := M_X3_lieSo) (tgt := 223) (off := 171) dX3_lieSo_52 h_107 (by decide) (by decide) rfl (by decide) ?_
                obtain ⟨v_126, he_127, hk_128⟩ := bd_e H
                have J_129 : ∀ x_125, v_126 = x_125 → YY l E M_X3_lieSo 3 0 0 (pS (some (zv r)) σ) 265 [some (vr 222), some (vi what_0), some (vi (q_mxi x_1 (q_mxi x_3 x_5))), some (vi (q_mxi x_7 (q_mxi x_9 x_11)))] [zv x_125] σ 0 0 := by
                  intro x_125 e
                  have H := hk_128
                  rw [e] at H
                  cases H
                  exact z_zret (M := M_X3_lieSo) dX3_lieSo_265 rfl (Nat.le_of_ble_eq_true rfl) (Nat.le_of_ble_eq_true rfl) ⟨rfl, rfl⟩
                have H := he_127
                refine z_iload_n (M := M_X3_lieSo) dX3_lieSo_223 rfl ?_
                refine z_iload_n (M := M_X3_lieSo) dX3_lieSo_224 rfl ?_
                rcases if_e H with ⟨h_108, H⟩ | ⟨h_108, H⟩
                · refine z_icmp_ne_f (M := M_X3_lieSo) (tgt := 264) dX3_lieSo_225 (by decide) rfl rfl h_108 ?_
                  refine z_iload_n (M := M_X3_lieSo) dX3_lieSo_228 rfl ?_
                  rcases if_e H with ⟨h_109, H⟩ | ⟨h_109, H⟩
                  · refine z_if_lt_f (M := M_X3_lieSo) (tgt := 264) dX3_lieSo_229 (by decide) rfl h_109 ?_
                    refine z_aload_n (M := M_X3_lieSo) dX3_lieSo_232 rfl ?_
                    refine z_getR (M := M_X3_lieSo) (ci := 6) (C := RX3) (T := TX3) (Nf := 12) (ty := tyX3) cl6 dX3_lieSo_233 ly_222 1 (by decide) t_443 rfl ?_
                    refine z_iconst (M := M_X3_lieSo) dX3_lieSo_236 ?_
                    obtain ⟨x_110, x_110_e, hi_111, H⟩ := rd_e H
                    refine z_iald (M := M_X3_lieSo) dX3_lieSo_237 ly_229 rfl (by decide +kernel) rfl hi_111 x_110_e ?_
                    refine z_iload_n (M := M_X3_lieSo) dX3_lieSo_238 rfl ?_
                    rcases if_e H with ⟨h_112, H⟩ | ⟨h_112, H⟩
                    · refine z_icmp_ne_f (M := M_X3_lieSo) (tgt := 264) dX3_lieSo_239 (by decide) rfl rfl h_112 ?_
                      refine z_aload_n (M := M_X3_lieSo) dX3_lieSo_242 rfl ?_
                      refine z_iconst (M := M_X3_lieSo) dX3_lieSo_243 ?_
                      refine z_iconst (M := M_X3_lieSo) dX3_lieSo_244 ?_
                      obtain ⟨x_114, hc_113, H⟩ := bd_e H
                      refine z_callV (M := M_X3_lieSo) (M' := M_X3_has) (as := [vi 0, vi 2]) (rest := []) rfl rfl dX3_lieSo_245 m_X3_has t_2046 t_2048 s_123 (c_X3_has hl  hc_113) rfl rfl ly_222 rfl (Nat.le_of_ble_eq_true rfl) (Nat.le_of_ble_eq_true rfl) (Nat.le_of_ble_eq_true rfl) (Nat.le_of_ble_eq_true rfl) ?_
                      refine z_st (st' := [zv x_114]) rfl ?_
                      rcases if_e H with ⟨h_115, H⟩ | ⟨h_115, H⟩
                      · refine z_zeq_f (M := M_X3_lieSo) (tgt := 264) dX3_lieSo_248 (by decide) h_115 ?_
                        refine z_aload_n (M := M_X3_lieSo) dX3_lieSo_251 rfl ?_
                        refine z_iconst (M := M_X3_lieSo) dX3_lieSo_252 ?_
                        refine z_iconst (M := M_X3_lieSo) dX3_lieSo_253 ?_
                        obtain ⟨x_117, hc_116, H⟩ := bd_e H
                        refine z_callV (M := M_X3_lieSo) (M' := M_X3_has) (as := [vi 2, vi 0]) (rest := []) rfl rfl dX3_lieSo_254 m_X3_has t_2046 t_2048 s_123 (c_X3_has hl  hc_116) rfl rfl ly_222 rfl (Nat.le_of_ble_eq_true rfl) (Nat.le_of_ble_eq_true rfl) (Nat.le_of_ble_eq_true rfl) (Nat.le_of_ble_eq_true rfl) ?_
                        refine z_st (st' := [zv x_117]) rfl ?_
                        rcases if_e H with ⟨h_118, H⟩ | ⟨h_118, H⟩
                        · refine z_zeq_f (M := M_X3_lieSo) (tgt := 264) dX3_lieSo_257 (by decide) h_118 ?_
                          refine z_zconst (M := M_X3_lieSo) (b := true) dX3_lieSo_260 rfl ?_
                          refine z_goto (M := M_X3_lieSo) (tgt := 265) dX3_lieSo_261 (by decide) ?_
                          exact J_129 _ (Option.some.inj H).symm
                        · refine z_zeq_t (M := M_X3_lieSo) (tgt := 264) dX3_lieSo_257 (by decide) h_118 ?_
                          refine z_zconst (M := M_X3_lieSo) (b := false) dX3_lieSo_264 rfl ?_
                          exact J_129 _ (Option.some.inj H).symm
                      · refine z_zeq_t (M := M_X3_lieSo) (tgt := 264) dX3_lieSo_248 (by decide) h_115 ?_
                        refine z_zconst (M := M_X3_lieSo) (b := false) dX3_lieSo_264 rfl ?_
                        exact J_129 _ (Option.some.inj H).symm
                    · refine z_icmp_ne_t (M := M_X3_lieSo) (tgt := 264) dX3_lieSo_239 (by decide) rfl rfl h_112 ?_
                      refine z_zconst (M := M_X3_lieSo) (b := false) dX3_lieSo_264 rfl ?_
                      exact J_129 _ (Option.some.inj H).symm
                  · refine z_if_lt_t (M := M_X3_lieSo) (tgt := 264) dX3_lieSo_229 (by decide) rfl (Int.not_le.mp h_109) ?_
                    refine z_zconst (M := M_X3_lieSo) (b := false) dX3_lieSo_264 rfl ?_
                    exact J_129 _ (Option.some.inj H).symm
                · refine z_icmp_ne_t (M := M_X3_lieSo) (tgt := 264) dX3_lieSo_225 (by decide) rfl rfl h_108 ?_
                  refine z_zconst (M := M_X3_lieSo) (b := false) dX3_lieSo_264 rfl ?_
                  exact J_129 _ (Option.some.inj H).symm
              · rcases if_e H with ⟨h_130, H⟩ | ⟨h_130, H⟩
                · refine z_tabIn (M := M_X3_lieSo) (tgt := 266) (off := 214) dX3_lieSo_52 h_130 (by decide) (by decide) rfl (by decide) ?_
                  obtain ⟨v_141, he_142, hk_143⟩ := bd_e H
                  have J_144 : ∀ x_140, v_141 = x_140 → YY l E M_X3_lieSo 3 0 0 (pS (some (zv r)) σ) 285 [some (vr 222), some (vi what_0), some (vi (q_mxi x_1 (q_mxi x_3 x_5))), some (vi (q_mxi x_7 (q_mxi x_9 x_11)))] [zv x_140] σ 0 0 := by
                    intro x_140 e
                    have H := hk_143
                    rw [e] at H
                    cases H
                    exact z_zret (M := M_X3_lieSo) dX3_lieSo_285 rfl (Nat.le_of_ble_eq_true rfl) (Nat.le_of_ble_eq_true rfl) ⟨rfl, rfl⟩
                  have H := he_142
                  refine z_aload_n (M := M_X3_lieSo) dX3_lieSo_266 rfl ?_
                  obtain ⟨x_132, hc_131, H⟩ := bd_e H
                  refine z_callV (M := M_X3_lieSo) (M' := M_X3_haveCommonPlace) (as := []) (rest := []) rfl rfl dX3_lieSo_267 m_X3_haveCommonPlace t_2058 t_2060 s_126 (c_X3_haveCommonPlace hl  hc_131) rfl rfl ly_222 rfl (Nat.le_of_ble_eq_true rfl) (Nat.le_of_ble_eq_true rfl) (Nat.le_of_ble_eq_true rfl) (Nat.le_of_ble_eq_true rfl) ?_
                  refine z_st (st' := [zv x_132]) rfl ?_
                  rcases if_e H with ⟨h_133, H⟩ | ⟨h_133, H⟩
                  · refine z_zeq_f (M := M_X3_lieSo) (tgt := 284) dX3_lieSo_270 (by decide) h_133 ?_
                    refine z_aload_n (M := M_X3_lieSo) dX3_lieSo_273 rfl ?_
                    obtain ⟨x_135, hc_134, H⟩ := bd_e H
                    refine z_callV (M := M_X3_lieSo) (M' := M_X3_isFirstOutside) (as := []) (rest := []) rfl rfl dX3_lieSo_274 m_X3_isFirstOutside t_2050 t_2052 s_124 (c_X3_isFirstOutside hl  hc_134) rfl rfl ly_222 rfl (Nat.le_of_ble_eq_true rfl) (Nat.le_of_ble_eq_true rfl) (Nat.le_of_ble_eq_true rfl) (Nat.le_of_ble_eq_true rfl) ?_
                    refine z_st (st' := [zv x_135]) rfl ?_
                    rcases if_e H with ⟨h_136, H⟩ | ⟨h_136, H⟩
                    · refine z_zne_t (M := M_X3_lieSo) (tgt := 284) dX3_lieSo_277 (by decide) h_136 ?_
                      refine z_zconst (M := M_X3_lieSo) (b := false) dX3_lieSo_284 rfl ?_
                      exact J_144 _ (Option.some.inj H).symm
                    · refine z_zne_f (M := M_X3_lieSo) (tgt := 284) dX3_lieSo_277 (by decide) h_136 ?_
                      refine z_zconst (M := M_X3_lieSo) (b := true) dX3_lieSo_280 rfl ?_
                      refine z_goto (M := M_X3_lieSo) (tgt := 285) dX3_lieSo_281 (by decide) ?_
                      exact J_144 _ (Option.some.inj H).symm
                  · refine z_zeq_t (M := M_X3_lieSo) (tgt := 284) dX3_lieSo_270 (by decide) h_133 ?_
                    refine z_zconst (M := M_X3_lieSo) (b := false) dX3_lieSo_284 rfl ?_
                    exact J_144 _ (Option.some.inj H).symm
                · refine z_tabOut (M := M_X3_lieSo) (tgt := 286) dX3_lieSo_52 rfl (by omega) (by decide) ?_
                  obtain ⟨v_155, he_156, hk_157⟩ := bd_e H
                  have J_158 : ∀ x_154, v_155 = x_154 → YY l E M_X3_lieSo 3 0 0 (pS (some (zv r)) σ) 305 [some (vr 222), some (vi what_0), some (vi (q_mxi x_1 (q_mxi x_3 x_5))), some (vi (q_mxi x_7 (q_mxi x_9 x_11)))] [zv x_154] σ 0 0 := by
                    intro x_154 e
                    have H := hk_157
                    rw [e] at H
                    cases H
                    exact z_zret (M := M_X3_lieSo) dX3_lieSo_305 rfl (Nat.le_of_ble_eq_true rfl) (Nat.le_of_ble_eq_true rfl) ⟨rfl, rfl⟩
                  have H := he_156
                  refine z_aload_n (M := M_X3_lieSo) dX3_lieSo_286 rfl ?_
                  obtain ⟨x_146, hc_145, H⟩ := bd_e H
                  refine z_callV (M := M_X3_lieSo) (M' := M_X3_haveCommonPlace) (as := []) (rest := []) rfl rfl dX3_lieSo_287 m_X3_haveCommonPlace t_2058 t_2060 s_126 (c_X3_haveCommonPlace hl  hc_145) rfl rfl ly_222 rfl (Nat.le_of_ble_eq_true rfl) (Nat.le_of_ble_eq_true rfl) (Nat.le_of_ble_eq_true rfl) (Nat.le_of_ble_eq_true rfl) ?_
                  refine z_st (st' := [zv x_146]) rfl ?_
                  rcases if_e H with ⟨h_147, H⟩ | ⟨h_147, H⟩
                  · refine z_zeq_f (M := M_X3_lieSo) (tgt := 304) dX3_lieSo_290 (by decide) h_147 ?_
                    refine z_aload_n (M := M_X3_lieSo) dX3_lieSo_293 rfl ?_
                    obtain ⟨x_149, hc_148, H⟩ := bd_e H
                    refine z_callV (M := M_X3_lieSo) (M' := M_X3_isSecondOutside) (as := []) (rest := []) rfl rfl dX3_lieSo_294 m_X3_isSecondOutside t_2054 t_2056 s_125 (c_X3_isSecondOutside hl  hc_148) rfl rfl ly_222 rfl (Nat.le_of_ble_eq_true rfl) (Nat.le_of_ble_eq_true rfl) (Nat.le_of_ble_eq_true rfl) (Nat.le_of_ble_eq_true rfl) ?_
                    refine z_st (st' := [zv x_149]) rfl ?_
                    rcases if_e H with ⟨h_150, H⟩ | ⟨h_150, H⟩
                    · refine z_zne_t (M := M_X3_lieSo) (tgt := 304) dX3_lieSo_297 (by decide) h_150 ?_
                      refine z_zconst (M := M_X3_lieSo) (b := false) dX3_lieSo_304 rfl ?_
                      exact J_158 _ (Option.some.inj H).symm
                    · refine z_zne_f (M := M_X3_lieSo) (tgt := 304) dX3_lieSo_297 (by decide) h_150 ?_
                      refine z_zconst (M := M_X3_lieSo) (b := true) dX3_lieSo_300 rfl ?_
                      refine z_goto (M := M_X3_lieSo) (tgt := 305) dX3_lieSo_301 (by decide) ?_
                      exact J_158 _ (Option.some.inj H).symm
                  · refine z_zeq_t (M := M_X3_lieSo) (tgt := 304) dX3_lieSo_290 (by decide) h_147 ?_
                    refine z_zconst (M := M_X3_lieSo) (b := false) dX3_lieSo_304 rfl ?_
                    exact J_158 _ (Option.some.inj H).symm
theorem c_X12_thrown (hl : l.stackTraces = false) {σ : SG} {r : Int}  (H : fR_thrown σ = r) : en_S l E M_X12_thrown 1 0 0 [vr 277] σ (pS (some (vi r)) σ) := by
  unfold fR_thrown at H
  refine z_mk (lv := [some (vr 277)]) m_X12_thrown rfl hl (Nat.le_of_ble_eq_true rfl) rfl ?_
  refine z_aload_n (M := M_X12_thrown) dX12_thrown_0 rfl ?_
  refine z_getI (M := M_X12_thrown) (ci := 15) (C := RX12) (T := TX12) (Nf := 135) (ty := tyX12) cl15 dX12_thrown_1 ly_277 0 (by decide) t_2391 rfl rfl ?_
  cases H
  exact z_iret (M := M_X12_thrown) dX12_thrown_4 rfl (Nat.le_of_ble_eq_true rfl) (Nat.le_of_ble_eq_true rfl) ⟨rfl, rfl⟩
theorem c_X12_fails (hl : l.stackTraces = false) {σ : SG} {is_0 : Bool} {which_0 : Int} {r : Bool} {σ' : SG}  (H : fR_fails σ is_0 which_0 = some (r, σ')) : en_S l E M_X12_fails 1 0 0 [vr 277, zv is_0, vi which_0] σ (pS (some (zv r)) σ') := by
  unfold fR_fails at H
  refine z_mk (lv := [some (vr 277), some (zv is_0), some (vi which_0)]) m_X12_fails rfl hl (Nat.le_of_ble_eq_true rfl) rfl ?_
  refine z_aload_n (M := M_X12_fails) dX12_fails_0 rfl ?_
  have J_1 : YY l E M_X12_fails 1 0 0 (pS (some (zv r)) σ') 20 [some (vr 277), some (zv is_0), some (vi which_0)] [vi (if (is_0 = true) ∧ ((w32 (σ kR_thrown 0)) = 0) then which_0 else (σ kR_thrown 0)), vr 277] σ 0 0 := by
    obtain ⟨σ_2, σ_2_e, H⟩ := wf_e H
    refine z_putI (M := M_X12_fails) (ci := 15) (C := RX12) (T := TX12) (Nf := 135) (ty := tyX12) cl15 dX12_fails_20 ly_277 0 (by decide) t_2391 rfl rfl rfl rfl σ_2_e ?_
    have J_3 : YY l E M_X12_fails 1 0 0 (pS (some (zv r)) σ') 35 [some (vr 277), some (zv is_0), some (vi which_0)] [zv (decide (¬ (w32 (σ_2 kR_thrown 0)) = 0))] σ_2 0 0 := by
      cases H
      exact z_zret (M := M_X12_fails) dX12_fails_35 rfl (Nat.le_of_ble_eq_true rfl) (Nat.le_of_ble_eq_true rfl) ⟨rfl, rfl⟩
    refine z_aload_n (M := M_X12_fails) dX12_fails_23 rfl ?_
    refine z_getI (M := M_X12_fails) (ci := 15) (C := RX12) (T := TX12) (Nf := 135) (ty := tyX12) cl15 dX12_fails_24 ly_277 0 (by decide) t_2391 rfl rfl ?_
    by_cases h_4 : ¬ (w32 (σ_2 kR_thrown 0)) = 0
    · refine z_if_eq_f (M := M_X12_fails) (tgt := 34) dX12_fails_27 (by decide) rfl h_4 ?_
      refine z_iconst (M := M_X12_fails) dX12_fails_30 ?_
      refine z_goto (M := M_X12_fails) (tgt := 35) dX12_fails_31 (by decide) ?_
      exact z_st (by rw [zv_t (p := ¬ (w32 (σ_2 kR_thrown 0)) = 0) h_4]) J_3
    · refine z_if_eq_t (M := M_X12_fails) (tgt := 34) dX12_fails_27 (by decide) rfl (Decidable.not_not.mp h_4) ?_
      refine z_iconst (M := M_X12_fails) dX12_fails_34 ?_
      exact z_st (by rw [zv_f (p := ¬ (w32 (σ_2 kR_thrown 0)) = 0) h_4]) J_3
  refine z_zload_n (M := M_X12_fails) dX12_fails_1 rfl ?_
  by_cases h_5 : is_0 = true
  · refine z_zeq_f (M := M_X12_fails) (tgt := 16) dX12_fails_2 (by decide) h_5 ?_
    refine z_aload_n (M := M_X12_fails) dX12_fails_5 rfl ?_
    refine z_getI (M := M_X12_fails) (ci := 15) (C := RX12) (T := TX12) (Nf := 135) (ty := tyX12) cl15 dX12_fails_6 ly_277 0 (by decide) t_2391 rfl rfl ?_
    by_cases h_6 : (w32 (σ kR_thrown 0)) = 0
    · refine z_if_ne_f (M := M_X12_fails) (tgt := 16) dX12_fails_9 (by decide) rfl h_6 ?_
      refine z_iload_n (M := M_X12_fails) dX12_fails_12 rfl ?_
      refine z_goto (M := M_X12_fails) (tgt := 20) dX12_fails_13 (by decide) ?_
      exact z_st (by rw [if_pos (c := (is_0 = true) ∧ ((w32 (σ kR_thrown 0)) = 0)) ⟨h_5, h_6⟩]) J_1
    · refine z_if_ne_t (M := M_X12_fails) (tgt := 16) dX12_fails_9 (by decide) rfl h_6 ?_
      refine z_aload_n (M := M_X12_fails) dX12_fails_16 rfl ?_
      refine z_getI (M := M_X12_fails) (ci := 15) (C := RX12) (T := TX12) (Nf := 135) (ty := tyX12) cl15 dX12_fails_17 ly_277 0 (by decide) t_2391 rfl rfl ?_
      exact z_st (by rw [if_neg (c := (is_0 = true) ∧ ((w32 (σ kR_thrown 0)) = 0)) (fun q => h_6 q.2)]) J_1
  · refine z_zeq_t (M := M_X12_fails) (tgt := 16) dX12_fails_2 (by decide) h_5 ?_
    refine z_aload_n (M := M_X12_fails) dX12_fails_16 rfl ?_
    refine z_getI (M := M_X12_fails) (ci := 15) (C := RX12) (T := TX12) (Nf := 135) (ty := tyX12) cl15 dX12_fails_17 ly_277 0 (by decide) t_2391 rfl rfl ?_
    exact z_st (by rw [if_neg (c := (is_0 = true) ∧ ((w32 (σ kR_thrown 0)) = 0)) (fun q => h_5 q.1)]) J_1
theorem c_X12_in (hl : l.stackTraces = false) {σ : SG} {v_0 : Int} {low_0 : Int} {high_0 : Int} {r : Bool}  (H : fR_in v_0 low_0 high_0 = r) : en_S l E M_X12_in 1 0 0 [vl v_0, vl low_0, vl high_0] σ (pS (some (zv r)) σ) := by
  unfold fR_in at H
  refine z_mk (lv := [some (vl v_0), none, some (vl low_0), none, some (vl high_0), none]) m_X12_in rfl hl (Nat.le_of_ble_eq_true rfl) rfl ?_
  have J_1 : YY l E M_X12_in 1 0 0 (pS (some (zv r)) σ) 18 [some (vl v_0), none, some (vl low_0), none, some (vl high_0), none] [zv (decide (((w64 low_0) ≤ (w64 v_0)) ∧ ((w64 v_0) ≤ (w64 high_0))))] σ 0 0 := by
    cases H
    exact z_zret (M := M_X12_in) dX12_in_18 rfl (Nat.le_of_ble_eq_true rfl) (Nat.le_of_ble_eq_true rfl) ⟨rfl, rfl⟩
  refine z_lload_n (M := M_X12_in) dX12_in_0 rfl ?_
  refine z_lload_n (M := M_X12_in) dX12_in_1 rfl ?_
  refine z_lcmp (M := M_X12_in) dX12_in_2 ?_
  by_cases h_2 : (w64 low_0) ≤ (w64 v_0)
  · refine z_lif_lt_f (M := M_X12_in) (tgt := 17) dX12_in_3 (by decide) rfl rfl h_2 ?_
    refine z_lload_n (M := M_X12_in) dX12_in_6 rfl ?_
    refine z_lload (M := M_X12_in) dX12_in_7 rfl ?_
    refine z_lcmp (M := M_X12_in) dX12_in_9 ?_
    by_cases h_3 : (w64 v_0) ≤ (w64 high_0)
    · refine z_lif_gt_f (M := M_X12_in) (tgt := 17) dX12_in_10 (by decide) rfl rfl h_3 ?_
      refine z_iconst (M := M_X12_in) dX12_in_13 ?_
      refine z_goto (M := M_X12_in) (tgt := 18) dX12_in_14 (by decide) ?_
      exact z_st (by rw [zv_t (p := ((w64 low_0) ≤ (w64 v_0)) ∧ ((w64 v_0) ≤ (w64 high_0))) ⟨h_2, h_3⟩]) J_1
    · refine z_lif_gt_t (M := M_X12_in) (tgt := 17) dX12_in_10 (by decide) rfl rfl (Int.not_le.mp h_3) ?_
      refine z_iconst (M := M_X12_in) dX12_in_17 ?_
      exact z_st (by rw [zv_f (p := ((w64 low_0) ≤ (w64 v_0)) ∧ ((w64 v_0) ≤ (w64 high_0))) (fun q => h_3 q.2)]) J_1
  · refine z_lif_lt_t (M := M_X12_in) (tgt := 17) dX12_in_3 (by decide) rfl rfl (Int.not_le.mp h_2) ?_
    refine z_iconst (M := M_X12_in) dX12_in_17 ?_
    exact z_st (by rw [zv_f (p := ((w64 low_0) ≤ (w64 v_0)) ∧ ((w64 v_0) ≤ (w64 high_0))) (fun q => h_2 q.1)]) J_1
theorem c_X12_isSlot (hl : l.stackTraces = false) {σ : SG} {slot_0 : Int} {r : Bool}  (H : fR_isSlot slot_0 = r) : en_S l E M_X12_isSlot 1 0 0 [vi slot_0] σ (pS (some (zv r)) σ) := by
  unfold fR_isSlot at H
  refine z_mk (lv := [some (vi slot_0)]) m_X12_isSlot rfl hl (Nat.le_of_ble_eq_true rfl) rfl ?_
  have J_1 : YY l E M_X12_isSlot 1 0 0 (pS (some (zv r)) σ) 15 [some (vi slot_0)] [zv (decide ((0 ≤ (w32 slot_0)) ∧ ((w32 slot_0) < 32)))] σ 0 0 := by
    cases H
    exact z_zret (M := M_X12_isSlot) dX12_isSlot_15 rfl (Nat.le_of_ble_eq_true rfl) (Nat.le_of_ble_eq_true rfl) ⟨rfl, rfl⟩
  refine z_iload_n (M := M_X12_isSlot) dX12_isSlot_0 rfl ?_
  by_cases h_2 : 0 ≤ (w32 slot_0)
  · refine z_if_lt_f (M := M_X12_isSlot) (tgt := 14) dX12_isSlot_1 (by decide) rfl h_2 ?_
    refine z_iload_n (M := M_X12_isSlot) dX12_isSlot_4 rfl ?_
    refine z_bipush (M := M_X12_isSlot) dX12_isSlot_5 (by decide +kernel) ?_
    by_cases h_3 : (w32 slot_0) < 32
    · refine z_icmp_ge_f (M := M_X12_isSlot) (tgt := 14) dX12_isSlot_7 (by decide) rfl (by decide +kernel) h_3 ?_
      refine z_iconst (M := M_X12_isSlot) dX12_isSlot_10 ?_
      refine z_goto (M := M_X12_isSlot) (tgt := 15) dX12_isSlot_11 (by decide) ?_
      exact z_st (by rw [zv_t (p := (0 ≤ (w32 slot_0)) ∧ ((w32 slot_0) < 32)) ⟨h_2, h_3⟩]) J_1
    · refine z_icmp_ge_t (M := M_X12_isSlot) (tgt := 14) dX12_isSlot_7 (by decide) rfl (by decide +kernel) (Int.not_lt.mp h_3) ?_
      refine z_iconst (M := M_X12_isSlot) dX12_isSlot_14 ?_
      exact z_st (by rw [zv_f (p := (0 ≤ (w32 slot_0)) ∧ ((w32 slot_0) < 32)) (fun q => h_3 q.2)]) J_1
  · refine z_if_lt_t (M := M_X12_isSlot) (tgt := 14) dX12_isSlot_1 (by decide) rfl (Int.not_le.mp h_2) ?_
    refine z_iconst (M := M_X12_isSlot) dX12_isSlot_14 ?_
    exact z_st (by rw [zv_f (p := (0 ≤ (w32 slot_0)) ∧ ((w32 slot_0) < 32)) (fun q => h_2 q.1)]) J_1
theorem c_X12_has (hl : l.stackTraces = false) {σ : SG} {slot_0 : Int} {r : Bool}  (H : fR_has σ slot_0 = some r) : en_S l E M_X12_has 1 0 0 [vr 277, vi slot_0] σ (pS (some (zv r)) σ) := by
  unfold fR_has at H
  refine z_mk (lv := [some (vr 277), some (vi slot_0)]) m_X12_has rfl hl (Nat.le_of_ble_eq_true rfl) rfl ?_
  obtain ⟨v_7, he_8, hk_9⟩ := bd_e H
  have J_10 : ∀ x_6, v_7 = x_6 → YY l E M_X12_has 1 0 0 (pS (some (zv r)) σ) 14 [some (vr 277), some (vi slot_0)] [zv x_6] σ 0 0 := by
    intro x_6 e
    have H := hk_9
    rw [e] at H
    cases H
    exact z_zret (M := M_X12_has) dX12_has_14 rfl (Nat.le_of_ble_eq_true rfl) (Nat.le_of_ble_eq_true rfl) ⟨rfl, rfl⟩
  have H := he_8
  refine z_aload_n (M := M_X12_has) dX12_has_0 rfl ?_
  refine z_getR (M := M_X12_has) (ci := 15) (C := RX12) (T := TX12) (Nf := 135) (ty := tyX12) cl15 dX12_has_1 ly_277 9 (by decide) t_2400 rfl ?_
  refine z_iload_n (M := M_X12_has) dX12_has_4 rfl ?_
  obtain ⟨x_1, x_1_e, hi_2, H⟩ := rd_e H
  refine z_iald (M := M_X12_has) dX12_has_5 ly_280 rfl rfl rfl hi_2 x_1_e ?_
  rcases if_e H with ⟨h_3, H⟩ | ⟨h_3, H⟩
  · refine z_if_le_f (M := M_X12_has) (tgt := 13) dX12_has_6 (by decide) rfl h_3 ?_
    refine z_zconst (M := M_X12_has) (b := true) dX12_has_9 rfl ?_
    refine z_goto (M := M_X12_has) (tgt := 14) dX12_has_10 (by decide) ?_
    exact J_10 _ (Option.some.inj H).symm
  · refine z_if_le_t (M := M_X12_has) (tgt := 13) dX12_has_6 (by decide) rfl (Int.not_lt.mp h_3) ?_
    refine z_zconst (M := M_X12_has) (b := false) dX12_has_13 rfl ?_
    exact J_10 _ (Option.some.inj H).symm
theorem c_X12_clear (hl : l.stackTraces = false) {σ : SG} {slot_0 : Int} {σ' : SG}  (H : fR_clear σ slot_0 = some σ') : en_S l E M_X12_clear 1 0 0 [vr 277, vi slot_0] σ (pS (none) σ') := by
  unfold fR_clear at H
  refine z_mk (lv := [some (vr 277), some (vi slot_0)]) m_X12_clear rfl hl (Nat.le_of_ble_eq_true rfl) rfl ?_
  refine z_aload_n (M := M_X12_clear) dX12_clear_0 rfl ?_
  refine z_getR (M := M_X12_clear) (ci := 15) (C := RX12) (T := TX12) (Nf := 135) (ty := tyX12) cl15 dX12_clear_1 ly_277 9 (by decide) t_2400 rfl ?_
  refine z_iload_n (M := M_X12_clear) dX12_clear_4 rfl ?_
  refine z_iconst (M := M_X12_clear) dX12_clear_5 ?_
  obtain ⟨σ_1, σ_1_e, hi_2, H⟩ := wa_e H
  refine z_iast (M := M_X12_clear) dX12_clear_6 ly_280 rfl rfl rfl hi_2 σ_1_e ?_
  refine z_aload_n (M := M_X12_clear) dX12_clear_7 rfl ?_
  refine z_getR (M := M_X12_clear) (ci := 15) (C := RX12) (T := TX12) (Nf := 135) (ty := tyX12) cl15 dX12_clear_8 ly_277 11 (by decide) t_2402 rfl ?_
  refine z_iload_n (M := M_X12_clear) dX12_clear_11 rfl ?_
  refine z_iconst (M := M_X12_clear) dX12_clear_12 ?_
  obtain ⟨σ_3, σ_3_e, hi_4, H⟩ := wa_e H
  refine z_iast (M := M_X12_clear) dX12_clear_13 ly_282 rfl rfl rfl hi_4 σ_3_e ?_
  cases H
  exact z_vret (M := M_X12_clear) dX12_clear_14 rfl (Nat.le_of_ble_eq_true rfl) (Nat.le_of_ble_eq_true rfl) ⟨rfl, rfl⟩
theorem c_X12_move (hl : l.stackTraces = false) {σ : SG} {from_0 : Int} {to_0 : Int} {σ' : SG}  (H : fR_move σ from_0 to_0 = some σ') : en_S l E M_X12_move 1 0 0 [vr 277, vi from_0, vi to_0] σ (pS (none) σ') := by
  unfold fR_move at H
  refine z_mk (lv := [some (vr 277), some (vi from_0), some (vi to_0), none]) m_X12_move rfl hl (Nat.le_of_ble_eq_true rfl) rfl ?_
  refine z_iconst (M := M_X12_move) dX12_move_0 ?_
  refine z_istore_n (M := M_X12_move) (lv' := [some (vr 277), some (vi from_0), some (vi to_0), some (vi 0)]) dX12_move_1 (Nat.le_of_ble_eq_true rfl) rfl rfl ?_
  obtain ⟨rl_6, hw_3, hk_4⟩ := bd_e H
  have J_54 : ∀ k_19 σ_20, rl_6 = (k_19, σ_20) → YY l E M_X12_move 1 0 0 (pS (none) σ') 42 [some (vr 277), some (vi from_0), some (vi to_0), some (vi k_19)] [] σ_20 0 0 := by
    intro k_19 σ_20 e
    have H := hk_4
    rw [e] at H
    refine z_iconst (M := M_X12_move) dX12_move_42 ?_
    refine z_istore_n (M := M_X12_move) (lv' := [some (vr 277), some (vi from_0), some (vi to_0), some (vi 0)]) dX12_move_43 (Nat.le_of_ble_eq_true rfl) rfl rfl ?_
    obtain ⟨rl_26, hw_23, hk_24⟩ := bd_e H
    have J_53 : ∀ k_43 σ_44, rl_26 = (k_43, σ_44) → YY l E M_X12_move 1 0 0 (pS (none) σ') 108 [some (vr 277), some (vi from_0), some (vi to_0), some (vi k_43)] [] σ_44 0 0 := by
      intro k_43 σ_44 e
      have H := hk_24
      rw [e] at H
      refine z_aload_n (M := M_X12_move) dX12_move_108 rfl ?_
      refine z_getR (M := M_X12_move) (ci := 15) (C := RX12) (T := TX12) (Nf := 135) (ty := tyX12) cl15 dX12_move_109 ly_277 9 (by decide) t_2400 rfl ?_
      refine z_iload_n (M := M_X12_move) dX12_move_112 rfl ?_
      refine z_aload_n (M := M_X12_move) dX12_move_113 rfl ?_
      refine z_getR (M := M_X12_move) (ci := 15) (C := RX12) (T := TX12) (Nf := 135) (ty := tyX12) cl15 dX12_move_114 ly_277 9 (by decide) t_2400 rfl ?_
      refine z_iload_n (M := M_X12_move) dX12_move_117 rfl ?_
      obtain ⟨x_45, x_45_e, hi_46, H⟩ := rd_e H
      refine z_iald (M := M_X12_move) dX12_move_118 ly_280 rfl rfl rfl hi_46 x_45_e ?_
      obtain ⟨σ_47, σ_47_e, hi_48, H⟩ := wa_e H
      refine z_iast (M := M_X12_move) dX12_move_119 ly_280 rfl rfl rfl hi_48 σ_47_e ?_
      refine z_aload_n (M := M_X12_move) dX12_move_120 rfl ?_
      refine z_getR (M := M_X12_move) (ci := 15) (C := RX12) (T := TX12) (Nf := 135) (ty := tyX12) cl15 dX12_move_121 ly_277 11 (by decide) t_2402 rfl ?_
      refine z_iload_n (M := M_X12_move) dX12_move_124 rfl ?_
      refine z_aload_n (M := M_X12_move) dX12_move_125 rfl ?_
      refine z_getR (M := M_X12_move) (ci := 15) (C := RX12) (T := TX12) (Nf := 135) (ty := tyX12) cl15 dX12_move_126 ly_277 11 (by decide) t_2402 rfl ?_
      refine z_iload_n (M := M_X12_move) dX12_move_129 rfl ?_
      obtain ⟨x_49, x_49_e, hi_50, H⟩ := rd_e H
      refine z_iald (M := M_X12_move) dX12_move_130 ly_282 rfl rfl rfl hi_50 x_49_e ?_
      obtain ⟨σ_51, σ_51_e, hi_52, H⟩ := wa_e H
      refine z_iast (M := M_X12_move) dX12_move_131 ly_282 rfl rfl rfl hi_52 σ_51_e ?_
      cases H
      exact z_vret (M := M_X12_move) dX12_move_132 rfl (Nat.le_of_ble_eq_true rfl) (Nat.le_of_ble_eq_true rfl) ⟨rfl, rfl⟩
    refine whl_go hw_23 (fun (k_21, σ_22) => YY l E M_X12_move 1 0 0 (pS (none) σ') 44 [some (vr 277), some (vi from_0), some (vi to_0), some (vi k_21)] [] σ_22 0 0) ?_
    rintro ⟨k_21, σ_22⟩ o_27 H K_28 K_29
    refine z_iload_n (M := M_X12_move) dX12_move_44 rfl ?_
    refine z_aload_n (M := M_X12_move) dX12_move_45 rfl ?_
    refine z_getR (M := M_X12_move) (ci := 15) (C := RX12) (T := TX12) (Nf := 135) (ty := tyX12) cl15 dX12_move_46 ly_277 11 (by decide) t_2402 rfl ?_
    refine z_iload_n (M := M_X12_move) dX12_move_49 rfl ?_
    obtain ⟨x_30, x_30_e, hi_31, H⟩ := rd_e H
    refine z_iald (M := M_X12_move) dX12_move_50 ly_282 rfl rfl rfl hi_31 x_30_e ?_
    rcases if_e H with ⟨h_32, H⟩ | ⟨h_32, H⟩
    · refine z_icmp_ge_f (M := M_X12_move) (tgt := 108) dX12_move_51 (by decide) rfl rfl h_32 ?_
      refine z_aload_n (M := M_X12_move) dX12_move_54 rfl ?_
      refine z_getR (M := M_X12_move) (ci := 15) (C := RX12) (T := TX12) (Nf := 135) (ty := tyX12) cl15 dX12_move_55 ly_277 12 (by decide) t_2403 rfl ?_
      refine z_sipush (M := M_X12_move) dX12_move_58 (by decide +kernel) ?_
      refine z_iload_n (M := M_X12_move) dX12_move_61 rfl ?_
      refine z_imul (M := M_X12_move) dX12_move_62 ?_
      refine z_iload_n (M := M_X12_move) dX12_move_63 rfl ?_
      refine z_iadd (M := M_X12_move) dX12_move_64 ?_
      refine z_aload_n (M := M_X12_move) dX12_move_65 rfl ?_
      refine z_getR (M := M_X12_move) (ci := 15) (C := RX12) (T := TX12) (Nf := 135) (ty := tyX12) cl15 dX12_move_66 ly_277 12 (by decide) t_2403 rfl ?_
      refine z_sipush (M := M_X12_move) dX12_move_69 (by decide +kernel) ?_
      refine z_iload_n (M := M_X12_move) dX12_move_72 rfl ?_
      refine z_imul (M := M_X12_move) dX12_move_73 ?_
      refine z_iload_n (M := M_X12_move) dX12_move_74 rfl ?_
      refine z_iadd (M := M_X12_move) dX12_move_75 ?_
      obtain ⟨x_33, x_33_e, hi_34, H⟩ := rd_e H
      refine z_iald (M := M_X12_move) dX12_move_76 ly_283 rfl rfl rfl hi_34 x_33_e ?_
      obtain ⟨σ_35, σ_35_e, hi_36, H⟩ := wa_e H
      refine z_iast (M := M_X12_move) dX12_move_77 ly_283 rfl rfl rfl hi_36 σ_35_e ?_
      refine z_aload_n (M := M_X12_move) dX12_move_78 rfl ?_
      refine z_getR (M := M_X12_move) (ci := 15) (C := RX12) (T := TX12) (Nf := 135) (ty := tyX12) cl15 dX12_move_79 ly_277 13 (by decide) t_2404 rfl ?_
      refine z_sipush (M := M_X12_move) dX12_move_82 (by decide +kernel) ?_
      refine z_iload_n (M := M_X12_move) dX12_move_85 rfl ?_
      refine z_imul (M := M_X12_move) dX12_move_86 ?_
      refine z_iload_n (M := M_X12_move) dX12_move_87 rfl ?_
      refine z_iadd (M := M_X12_move) dX12_move_88 ?_
      refine z_aload_n (M := M_X12_move) dX12_move_89 rfl ?_
      refine z_getR (M := M_X12_move) (ci := 15) (C := RX12) (T := TX12) (Nf := 135) (ty := tyX12) cl15 dX12_move_90 ly_277 13 (by decide) t_2404 rfl ?_
      refine z_sipush (M := M_X12_move) dX12_move_93 (by decide +kernel) ?_
      refine z_iload_n (M := M_X12_move) dX12_move_96 rfl ?_
      refine z_imul (M := M_X12_move) dX12_move_97 ?_
      refine z_iload_n (M := M_X12_move) dX12_move_98 rfl ?_
      refine z_iadd (M := M_X12_move) dX12_move_99 ?_
      obtain ⟨x_37, x_37_e, hi_38, H⟩ := rd_e H
      refine z_iald (M := M_X12_move) dX12_move_100 ly_284 rfl rfl rfl hi_38 x_37_e ?_
      obtain ⟨σ_39, σ_39_e, hi_40, H⟩ := wa_e H
      refine z_iast (M := M_X12_move) dX12_move_101 ly_284 rfl rfl rfl hi_40 σ_39_e ?_
      refine z_iinc (M := M_X12_move) (lv' := [some (vr 277), some (vi from_0), some (vi to_0), some (vi (k_21 + 1))]) dX12_move_102 rfl (Nat.le_of_ble_eq_true rfl) rfl rfl ?_
      refine z_goto (M := M_X12_move) (tgt := 44) dX12_move_105 (by decide) ?_
      exact K_28 _ (Option.some.inj H).symm
    · refine z_icmp_ge_t (M := M_X12_move) (tgt := 108) dX12_move_51 (by decide) rfl rfl (Int.not_lt.mp h_32) ?_
      exact J_53 _ _ (K_29 _ (Option.some.inj H).symm).symm
  refine whl_go hw_3 (fun (k_1, σ_2) => YY l E M_X12_move 1 0 0 (pS (none) σ') 2 [some (vr 277), some (vi from_0), some (vi to_0), some (vi k_1)] [] σ_2 0 0) ?_
  rintro ⟨k_1, σ_2⟩ o_7 H K_8 K_9
  refine z_iload_n (M := M_X12_move) dX12_move_2 rfl ?_
  refine z_aload_n (M := M_X12_move) dX12_move_3 rfl ?_
  refine z_getR (M := M_X12_move) (ci := 15) (C := RX12) (T := TX12) (Nf := 135) (ty := tyX12) cl15 dX12_move_4 ly_277 9 (by decide) t_2400 rfl ?_
  refine z_iload_n (M := M_X12_move) dX12_move_7 rfl ?_
  obtain ⟨x_10, x_10_e, hi_11, H⟩ := rd_e H
  refine z_iald (M := M_X12_move) dX12_move_8 ly_280 rfl rfl rfl hi_11 x_10_e ?_
  rcases if_e H with ⟨h_12, H⟩ | ⟨h_12, H⟩
  · refine z_icmp_ge_f (M := M_X12_move) (tgt := 42) dX12_move_9 (by decide) rfl rfl h_12 ?_
    refine z_aload_n (M := M_X12_move) dX12_move_12 rfl ?_
    refine z_getR (M := M_X12_move) (ci := 15) (C := RX12) (T := TX12) (Nf := 135) (ty := tyX12) cl15 dX12_move_13 ly_277 10 (by decide) t_2401 rfl ?_
    refine z_sipush (M := M_X12_move) dX12_move_16 (by decide +kernel) ?_
    refine z_iload_n (M := M_X12_move) dX12_move_19 rfl ?_
    refine z_imul (M := M_X12_move) dX12_move_20 ?_
    refine z_iload_n (M := M_X12_move) dX12_move_21 rfl ?_
    refine z_iadd (M := M_X12_move) dX12_move_22 ?_
    refine z_aload_n (M := M_X12_move) dX12_move_23 rfl ?_
    refine z_getR (M := M_X12_move) (ci := 15) (C := RX12) (T := TX12) (Nf := 135) (ty := tyX12) cl15 dX12_move_24 ly_277 10 (by decide) t_2401 rfl ?_
    refine z_sipush (M := M_X12_move) dX12_move_27 (by decide +kernel) ?_
    refine z_iload_n (M := M_X12_move) dX12_move_30 rfl ?_
    refine z_imul (M := M_X12_move) dX12_move_31 ?_
    refine z_iload_n (M := M_X12_move) dX12_move_32 rfl ?_
    refine z_iadd (M := M_X12_move) dX12_move_33 ?_
    obtain ⟨x_13, x_13_e, hi_14, H⟩ := rd_e H
    refine z_iald (M := M_X12_move) dX12_move_34 ly_281 rfl rfl rfl hi_14 x_13_e ?_
    obtain ⟨σ_15, σ_15_e, hi_16, H⟩ := wa_e H
    refine z_iast (M := M_X12_move) dX12_move_35 ly_281 rfl rfl rfl hi_16 σ_15_e ?_
    refine z_iinc (M := M_X12_move) (lv' := [some (vr 277), some (vi from_0), some (vi to_0), some (vi (k_1 + 1))]) dX12_move_36 rfl (Nat.le_of_ble_eq_true rfl) rfl rfl ?_
    refine z_goto (M := M_X12_move) (tgt := 2) dX12_move_39 (by decide) ?_
    exact K_8 _ (Option.some.inj H).symm
  · refine z_icmp_ge_t (M := M_X12_move) (tgt := 42) dX12_move_9 (by decide) rfl rfl (Int.not_lt.mp h_12) ?_
    exact J_54 _ _ (K_9 _ (Option.some.inj H).symm).symm
theorem c_X12_tell (hl : l.stackTraces = false) {σ : SG} {v_0 : Int} {σ' : SG}  (H : fR_tell σ v_0 = some σ') : en_S l E M_X12_tell 1 0 0 [vr 277, vi v_0] σ (pS (none) σ') := by
  unfold fR_tell at H
  refine z_mk (lv := [some (vr 277), some (vi v_0)]) m_X12_tell rfl hl (Nat.le_of_ble_eq_true rfl) rfl ?_
  refine z_aload_n (M := M_X12_tell) dX12_tell_0 rfl ?_
  refine z_getR (M := M_X12_tell) (ci := 15) (C := RX12) (T := TX12) (Nf := 135) (ty := tyX12) cl15 dX12_tell_1 ly_277 10 (by decide) t_2401 rfl ?_
  refine z_ldc (M := M_X12_tell) (n := 65536) dX12_tell_4 t_2385 (by decide +kernel) ?_
  refine z_aload_n (M := M_X12_tell) dX12_tell_6 rfl ?_
  refine z_getR (M := M_X12_tell) (ci := 15) (C := RX12) (T := TX12) (Nf := 135) (ty := tyX12) cl15 dX12_tell_7 ly_277 9 (by decide) t_2400 rfl ?_
  refine z_bipush (M := M_X12_tell) dX12_tell_10 (by decide +kernel) ?_
  obtain ⟨x_1, x_1_e, hi_2, H⟩ := rd_e H
  refine z_iald (M := M_X12_tell) dX12_tell_12 ly_280 rfl (by decide +kernel) rfl hi_2 x_1_e ?_
  refine z_iadd (M := M_X12_tell) dX12_tell_13 ?_
  refine z_iload_n (M := M_X12_tell) dX12_tell_14 rfl ?_
  obtain ⟨σ_3, σ_3_e, hi_4, H⟩ := wa_e H
  refine z_iast (M := M_X12_tell) dX12_tell_15 ly_281 rfl rfl rfl hi_4 σ_3_e ?_
  refine z_aload_n (M := M_X12_tell) dX12_tell_16 rfl ?_
  refine z_getR (M := M_X12_tell) (ci := 15) (C := RX12) (T := TX12) (Nf := 135) (ty := tyX12) cl15 dX12_tell_17 ly_277 9 (by decide) t_2400 rfl ?_
  refine z_bipush (M := M_X12_tell) dX12_tell_20 (by decide +kernel) ?_
  refine z_dup2 (M := M_X12_tell) dX12_tell_22 rfl rfl ?_
  obtain ⟨x_5, x_5_e, hi_6, H⟩ := rd_e H
  refine z_iald (M := M_X12_tell) dX12_tell_23 ly_280 rfl (by decide +kernel) rfl hi_6 x_5_e ?_
  refine z_iconst (M := M_X12_tell) dX12_tell_24 ?_
  refine z_iadd (M := M_X12_tell) dX12_tell_25 ?_
  obtain ⟨σ_7, σ_7_e, hi_8, H⟩ := wa_e H
  refine z_iast (M := M_X12_tell) dX12_tell_26 ly_280 rfl (by decide +kernel) rfl hi_8 σ_7_e ?_
  cases H
  exact z_vret (M := M_X12_tell) dX12_tell_27 rfl (Nat.le_of_ble_eq_true rfl) (Nat.le_of_ble_eq_true rfl) ⟨rfl, rfl⟩
theorem c_X12_dot (hl : l.stackTraces = false) {σ : SG} {x_0 : Int} {y_0 : Int} {σ' : SG}  (H : fR_dot σ x_0 y_0 = some σ') : en_S l E M_X12_dot 1 0 0 [vr 277, vl x_0, vl y_0] σ (pS (none) σ') := by
  unfold fR_dot at H
  refine z_mk (lv := [some (vr 277), some (vl x_0), none, some (vl y_0), none]) m_X12_dot rfl hl (Nat.le_of_ble_eq_true rfl) rfl ?_
  refine z_aload_n (M := M_X12_dot) dX12_dot_0 rfl ?_
  refine z_getR (M := M_X12_dot) (ci := 15) (C := RX12) (T := TX12) (Nf := 135) (ty := tyX12) cl15 dX12_dot_1 ly_277 12 (by decide) t_2403 rfl ?_
  refine z_ldc (M := M_X12_dot) (n := 65536) dX12_dot_4 t_2385 (by decide +kernel) ?_
  refine z_aload_n (M := M_X12_dot) dX12_dot_6 rfl ?_
  refine z_getR (M := M_X12_dot) (ci := 15) (C := RX12) (T := TX12) (Nf := 135) (ty := tyX12) cl15 dX12_dot_7 ly_277 11 (by decide) t_2402 rfl ?_
  refine z_bipush (M := M_X12_dot) dX12_dot_10 (by decide +kernel) ?_
  obtain ⟨x_1, x_1_e, hi_2, H⟩ := rd_e H
  refine z_iald (M := M_X12_dot) dX12_dot_12 ly_282 rfl (by decide +kernel) rfl hi_2 x_1_e ?_
  refine z_iadd (M := M_X12_dot) dX12_dot_13 ?_
  refine z_lload_n (M := M_X12_dot) dX12_dot_14 rfl ?_
  refine z_l2i (M := M_X12_dot) dX12_dot_15 ?_
  obtain ⟨σ_3, σ_3_e, hi_4, H⟩ := wa_e H
  refine z_iast (M := M_X12_dot) dX12_dot_16 ly_283 rfl rfl rfl hi_4 σ_3_e ?_
  refine z_aload_n (M := M_X12_dot) dX12_dot_17 rfl ?_
  refine z_getR (M := M_X12_dot) (ci := 15) (C := RX12) (T := TX12) (Nf := 135) (ty := tyX12) cl15 dX12_dot_18 ly_277 13 (by decide) t_2404 rfl ?_
  refine z_ldc (M := M_X12_dot) (n := 65536) dX12_dot_21 t_2385 (by decide +kernel) ?_
  refine z_aload_n (M := M_X12_dot) dX12_dot_23 rfl ?_
  refine z_getR (M := M_X12_dot) (ci := 15) (C := RX12) (T := TX12) (Nf := 135) (ty := tyX12) cl15 dX12_dot_24 ly_277 11 (by decide) t_2402 rfl ?_
  refine z_bipush (M := M_X12_dot) dX12_dot_27 (by decide +kernel) ?_
  obtain ⟨x_5, x_5_e, hi_6, H⟩ := rd_e H
  refine z_iald (M := M_X12_dot) dX12_dot_29 ly_282 rfl (by decide +kernel) rfl hi_6 x_5_e ?_
  refine z_iadd (M := M_X12_dot) dX12_dot_30 ?_
  refine z_lload_n (M := M_X12_dot) dX12_dot_31 rfl ?_
  refine z_l2i (M := M_X12_dot) dX12_dot_32 ?_
  obtain ⟨σ_7, σ_7_e, hi_8, H⟩ := wa_e H
  refine z_iast (M := M_X12_dot) dX12_dot_33 ly_284 rfl rfl rfl hi_8 σ_7_e ?_
  refine z_aload_n (M := M_X12_dot) dX12_dot_34 rfl ?_
  refine z_getR (M := M_X12_dot) (ci := 15) (C := RX12) (T := TX12) (Nf := 135) (ty := tyX12) cl15 dX12_dot_35 ly_277 11 (by decide) t_2402 rfl ?_
  refine z_bipush (M := M_X12_dot) dX12_dot_38 (by decide +kernel) ?_
  refine z_dup2 (M := M_X12_dot) dX12_dot_40 rfl rfl ?_
  obtain ⟨x_9, x_9_e, hi_10, H⟩ := rd_e H
  refine z_iald (M := M_X12_dot) dX12_dot_41 ly_282 rfl (by decide +kernel) rfl hi_10 x_9_e ?_
  refine z_iconst (M := M_X12_dot) dX12_dot_42 ?_
  refine z_iadd (M := M_X12_dot) dX12_dot_43 ?_
  obtain ⟨σ_11, σ_11_e, hi_12, H⟩ := wa_e H
  refine z_iast (M := M_X12_dot) dX12_dot_44 ly_282 rfl (by decide +kernel) rfl hi_12 σ_11_e ?_
  cases H
  exact z_vret (M := M_X12_dot) dX12_dot_45 rfl (Nat.le_of_ble_eq_true rfl) (Nat.le_of_ble_eq_true rfl) ⟨rfl, rfl⟩
theorem c_X12_four (hl : l.stackTraces = false) {σ : SG} {v_0 : Int} {σ' : SG}  (H : fR_four σ v_0 = some σ') : en_S l E M_X12_four 1 0 0 [vr 277, vi v_0] σ (pS (none) σ') := by
  unfold fR_four at H
  refine z_mk (lv := [some (vr 277), some (vi v_0), none]) m_X12_four rfl hl (Nat.le_of_ble_eq_true rfl) rfl ?_
  refine z_bipush (M := M_X12_four) dX12_four_0 (by decide +kernel) ?_
  refine z_istore_n (M := M_X12_four) (lv' := [some (vr 277), some (vi v_0), some (vi 24)]) dX12_four_2 (Nat.le_of_ble_eq_true rfl) rfl rfl ?_
  obtain ⟨rl_6, hw_3, hk_4⟩ := bd_e H
  have J_18 : ∀ k_16 σ_17, rl_6 = (k_16, σ_17) → YY l E M_X12_four 1 0 0 (pS (none) σ') 36 [some (vr 277), some (vi v_0), some (vi k_16)] [] σ_17 0 0 := by
    intro k_16 σ_17 e
    have H := hk_4
    rw [e] at H
    cases H
    exact z_vret (M := M_X12_four) dX12_four_36 rfl (Nat.le_of_ble_eq_true rfl) (Nat.le_of_ble_eq_true rfl) ⟨rfl, rfl⟩
  refine whl_go hw_3 (fun (k_1, σ_2) => YY l E M_X12_four 1 0 0 (pS (none) σ') 3 [some (vr 277), some (vi v_0), some (vi k_1)] [] σ_2 0 0) ?_
  rintro ⟨k_1, σ_2⟩ o_7 H K_8 K_9
  refine z_iload_n (M := M_X12_four) dX12_four_3 rfl ?_
  rcases if_e H with ⟨h_10, H⟩ | ⟨h_10, H⟩
  · refine z_if_lt_f (M := M_X12_four) (tgt := 36) dX12_four_4 (by decide) rfl h_10 ?_
    refine z_aload_n (M := M_X12_four) dX12_four_7 rfl ?_
    refine z_getR (M := M_X12_four) (ci := 15) (C := RX12) (T := TX12) (Nf := 135) (ty := tyX12) cl15 dX12_four_8 ly_277 3 (by decide) t_2394 rfl ?_
    refine z_aload_n (M := M_X12_four) dX12_four_11 rfl ?_
    refine z_getI (M := M_X12_four) (ci := 15) (C := RX12) (T := TX12) (Nf := 135) (ty := tyX12) cl15 dX12_four_12 ly_277 4 (by decide) t_2395 rfl rfl ?_
    refine z_iload_n (M := M_X12_four) dX12_four_15 rfl ?_
    refine z_iload_n (M := M_X12_four) dX12_four_16 rfl ?_
    refine z_ishr (M := M_X12_four) dX12_four_17 ?_
    refine z_i2b (M := M_X12_four) dX12_four_18 ?_
    obtain ⟨σ_11, σ_11_e, hi_12, H⟩ := wa_e H
    refine z_bast (M := M_X12_four) dX12_four_19 ly_278 rfl rfl rfl hi_12 σ_11_e ?_
    refine z_aload_n (M := M_X12_four) dX12_four_20 rfl ?_
    refine z_dup (M := M_X12_four) dX12_four_21 rfl ?_
    refine z_getI (M := M_X12_four) (ci := 15) (C := RX12) (T := TX12) (Nf := 135) (ty := tyX12) cl15 dX12_four_22 ly_277 4 (by decide) t_2395 rfl rfl ?_
    refine z_iconst (M := M_X12_four) dX12_four_25 ?_
    refine z_iadd (M := M_X12_four) dX12_four_26 ?_
    obtain ⟨σ_13, σ_13_e, H⟩ := wf_e H
    refine z_putI (M := M_X12_four) (ci := 15) (C := RX12) (T := TX12) (Nf := 135) (ty := tyX12) cl15 dX12_four_27 ly_277 4 (by decide) t_2395 rfl rfl rfl rfl σ_13_e ?_
    refine z_iinc (M := M_X12_four) (lv' := [some (vr 277), some (vi v_0), some (vi (k_1 + (-8)))]) dX12_four_30 rfl (Nat.le_of_ble_eq_true rfl) rfl rfl ?_
    refine z_goto (M := M_X12_four) (tgt := 3) dX12_four_33 (by decide) ?_
    exact K_8 _ (Option.some.inj H).symm
  · refine z_if_lt_t (M := M_X12_four) (tgt := 36) dX12_four_4 (by decide) rfl (Int.not_le.mp h_10) ?_
    exact J_18 _ _ (K_9 _ (Option.some.inj H).symm).symm
theorem c_X12_feed (hl : l.stackTraces = false) {σ : SG} {a_0 : Int} {b_0 : Int} {c_0 : Int} {d_0 : Int} {e_0 : Int} {r : Int} {σ' : SG}  (H : fR_feed σ a_0 b_0 c_0 d_0 e_0 = some (r, σ')) : en_S l E M_X12_feed 2 0 0 [vr 277, vi a_0, vi b_0, vi c_0, vi d_0, vi e_0] σ (pS (some (vi r)) σ') := by
  unfold fR_feed at H
  refine z_mk (lv := [some (vr 277), some (vi a_0), some (vi b_0), some (vi c_0), some (vi d_0), some (vi e_0)]) m_X12_feed rfl hl (Nat.le_of_ble_eq_true rfl) rfl ?_
  refine z_aload_n (M := M_X12_feed) dX12_feed_0 rfl ?_
  refine z_iconst (M := M_X12_feed) dX12_feed_1 ?_
  obtain ⟨σ_1, σ_1_e, H⟩ := wf_e H
  refine z_putI (M := M_X12_feed) (ci := 15) (C := RX12) (T := TX12) (Nf := 135) (ty := tyX12) cl15 dX12_feed_2 ly_277 0 (by decide) t_2391 rfl rfl rfl rfl σ_1_e ?_
  refine z_aload_n (M := M_X12_feed) dX12_feed_5 rfl ?_
  have J_2 : YY l E M_X12_feed 2 0 0 (pS (some (vi r)) σ') 23 [some (vr 277), some (vi a_0), some (vi b_0), some (vi c_0), some (vi d_0), some (vi e_0)] [zv (decide (65536 < (w32 ((σ_1 kR_tapeMany 0) + 20)))), vr 277] σ_1 0 0 := by
    refine z_iconst (M := M_X12_feed) dX12_feed_23 ?_
    obtain ⟨⟨x_5, σ_4⟩, hc_3, H⟩ := bd_e H
    refine z_callV (M := M_X12_feed) (M' := M_X12_fails) (as := [zv (decide (65536 < (w32 ((σ_1 kR_tapeMany 0) + 20)))), vi 1]) (rest := []) rfl rfl dX12_feed_24 m_X12_fails t_2805 t_2807 s_157 (c_X12_fails hl  hc_3) rfl rfl ly_277 rfl (Nat.le_of_ble_eq_true rfl) (Nat.le_of_ble_eq_true rfl) (Nat.le_of_ble_eq_true rfl) (Nat.le_of_ble_eq_true rfl) ?_
    refine z_st (st' := [zv x_5]) rfl ?_
    rcases if_e H with ⟨h_6, H⟩ | ⟨h_6, H⟩
    · refine z_zeq_f (M := M_X12_feed) (tgt := 32) dX12_feed_27 (by decide) h_6 ?_
      refine z_iconst (M := M_X12_feed) dX12_feed_30 ?_
      cases H
      exact z_iret (M := M_X12_feed) dX12_feed_31 rfl (Nat.le_of_ble_eq_true rfl) (Nat.le_of_ble_eq_true rfl) ⟨rfl, rfl⟩
    · refine z_zeq_t (M := M_X12_feed) (tgt := 32) dX12_feed_27 (by decide) h_6 ?_
      refine z_aload_n (M := M_X12_feed) dX12_feed_32 rfl ?_
      refine z_iload_n (M := M_X12_feed) dX12_feed_33 rfl ?_
      obtain ⟨σ_8, hc_7, H⟩ := bd_e H
      refine z_callV (M := M_X12_feed) (M' := M_X12_four) (as := [vi a_0]) (rest := []) rfl rfl dX12_feed_34 m_X12_four t_2809 t_2811 s_158 (c_X12_four hl  hc_7) rfl rfl ly_277 rfl (Nat.le_of_ble_eq_true rfl) (Nat.le_of_ble_eq_true rfl) (Nat.le_of_ble_eq_true rfl) (Nat.le_of_ble_eq_true rfl) ?_
      refine z_st (st' := []) rfl ?_
      refine z_aload_n (M := M_X12_feed) dX12_feed_37 rfl ?_
      refine z_iload_n (M := M_X12_feed) dX12_feed_38 rfl ?_
      obtain ⟨σ_10, hc_9, H⟩ := bd_e H
      refine z_callV (M := M_X12_feed) (M' := M_X12_four) (as := [vi b_0]) (rest := []) rfl rfl dX12_feed_39 m_X12_four t_2809 t_2811 s_158 (c_X12_four hl  hc_9) rfl rfl ly_277 rfl (Nat.le_of_ble_eq_true rfl) (Nat.le_of_ble_eq_true rfl) (Nat.le_of_ble_eq_true rfl) (Nat.le_of_ble_eq_true rfl) ?_
      refine z_st (st' := []) rfl ?_
      refine z_aload_n (M := M_X12_feed) dX12_feed_42 rfl ?_
      refine z_iload_n (M := M_X12_feed) dX12_feed_43 rfl ?_
      obtain ⟨σ_12, hc_11, H⟩ := bd_e H
      refine z_callV (M := M_X12_feed) (M' := M_X12_four) (as := [vi c_0]) (rest := []) rfl rfl dX12_feed_44 m_X12_four t_2809 t_2811 s_158 (c_X12_four hl  hc_11) rfl rfl ly_277 rfl (Nat.le_of_ble_eq_true rfl) (Nat.le_of_ble_eq_true rfl) (Nat.le_of_ble_eq_true rfl) (Nat.le_of_ble_eq_true rfl) ?_
      refine z_st (st' := []) rfl ?_
      refine z_aload_n (M := M_X12_feed) dX12_feed_47 rfl ?_
      refine z_iload (M := M_X12_feed) dX12_feed_48 rfl ?_
      obtain ⟨σ_14, hc_13, H⟩ := bd_e H
      refine z_callV (M := M_X12_feed) (M' := M_X12_four) (as := [vi d_0]) (rest := []) rfl rfl dX12_feed_50 m_X12_four t_2809 t_2811 s_158 (c_X12_four hl  hc_13) rfl rfl ly_277 rfl (Nat.le_of_ble_eq_true rfl) (Nat.le_of_ble_eq_true rfl) (Nat.le_of_ble_eq_true rfl) (Nat.le_of_ble_eq_true rfl) ?_
      refine z_st (st' := []) rfl ?_
      refine z_aload_n (M := M_X12_feed) dX12_feed_53 rfl ?_
      refine z_iload (M := M_X12_feed) dX12_feed_54 rfl ?_
      obtain ⟨σ_16, hc_15, H⟩ := bd_e H
      refine z_callV (M := M_X12_feed) (M' := M_X12_four) (as := [vi e_0]) (rest := []) rfl rfl dX12_feed_56 m_X12_four t_2809 t_2811 s_158 (c_X12_four hl  hc_15) rfl rfl ly_277 rfl (Nat.le_of_ble_eq_true rfl) (Nat.le_of_ble_eq_true rfl) (Nat.le_of_ble_eq_true rfl) (Nat.le_of_ble_eq_true rfl) ?_
      refine z_st (st' := []) rfl ?_
      refine z_aload_n (M := M_X12_feed) dX12_feed_59 rfl ?_
      refine z_getI (M := M_X12_feed) (ci := 15) (C := RX12) (T := TX12) (Nf := 135) (ty := tyX12) cl15 dX12_feed_60 ly_277 4 (by decide) t_2395 rfl rfl ?_
      cases H
      exact z_iret (M := M_X12_feed) dX12_feed_63 rfl (Nat.le_of_ble_eq_true rfl) (Nat.le_of_ble_eq_true rfl) ⟨rfl, rfl⟩
  refine z_aload_n (M := M_X12_feed) dX12_feed_6 rfl ?_
  refine z_getI (M := M_X12_feed) (ci := 15) (C := RX12) (T := TX12) (Nf := 135) (ty := tyX12) cl15 dX12_feed_7 ly_277 4 (by decide) t_2395 rfl rfl ?_
  refine z_bipush (M := M_X12_feed) dX12_feed_10 (by decide +kernel) ?_
  refine z_iadd (M := M_X12_feed) dX12_feed_12 ?_
  refine z_ldc (M := M_X12_feed) (n := 65536) dX12_feed_13 t_2385 (by decide +kernel) ?_
  by_cases h_17 : 65536 < (w32 ((σ_1 kR_tapeMany 0) + 20))
  · refine z_icmp_le_f (M := M_X12_feed) (tgt := 22) dX12_feed_15 (by decide) rfl (by decide +kernel) h_17 ?_
    refine z_iconst (M := M_X12_feed) dX12_feed_18 ?_
    refine z_goto (M := M_X12_feed) (tgt := 23) dX12_feed_19 (by decide) ?_
    exact z_st (by rw [zv_t (p := 65536 < (w32 ((σ_1 kR_tapeMany 0) + 20))) h_17]) J_2
  · refine z_icmp_le_t (M := M_X12_feed) (tgt := 22) dX12_feed_15 (by decide) rfl (by decide +kernel) (Int.not_lt.mp h_17) ?_
    refine z_iconst (M := M_X12_feed) dX12_feed_22 ?_
    exact z_st (by rw [zv_f (p := 65536 < (w32 ((σ_1 kR_tapeMany 0) + 20))) h_17]) J_2
theorem c_X12_end (hl : l.stackTraces = false) {σ : SG} {n_0 : Int} {r : Int} {σ' : SG}  (H : fR_end σ n_0 = some (r, σ')) : en_S l E M_X12_end 2 0 0 [vr 277, vi n_0] σ (pS (some (vi r)) σ') := by
  unfold fR_end at H
  refine z_mk (lv := [some (vr 277), some (vi n_0)]) m_X12_end rfl hl (Nat.le_of_ble_eq_true rfl) rfl ?_
  refine z_aload_n (M := M_X12_end) dX12_end_0 rfl ?_
  refine z_iconst (M := M_X12_end) dX12_end_1 ?_
  obtain ⟨σ_1, σ_1_e, H⟩ := wf_e H
  refine z_putI (M := M_X12_end) (ci := 15) (C := RX12) (T := TX12) (Nf := 135) (ty := tyX12) cl15 dX12_end_2 ly_277 0 (by decide) t_2391 rfl rfl rfl rfl σ_1_e ?_
  refine z_aload_n (M := M_X12_end) dX12_end_5 rfl ?_
  have J_17 : YY l E M_X12_end 2 0 0 (pS (some (vi r)) σ') 23 [some (vr 277), some (vi n_0)] [zv (decide (¬ ((fR_in (w32 n_0) 0 20) = true))), vr 277] σ_1 0 0 := by
    refine z_iconst (M := M_X12_end) dX12_end_23 ?_
    obtain ⟨⟨x_20, σ_19⟩, hc_18, H⟩ := bd_e H
    refine z_callV (M := M_X12_end) (M' := M_X12_fails) (as := [zv (decide (¬ ((fR_in (w32 n_0) 0 20) = true))), vi 1]) (rest := []) rfl rfl dX12_end_24 m_X12_fails t_2805 t_2807 s_157 (c_X12_fails hl  hc_18) rfl rfl ly_277 rfl (Nat.le_of_ble_eq_true rfl) (Nat.le_of_ble_eq_true rfl) (Nat.le_of_ble_eq_true rfl) (Nat.le_of_ble_eq_true rfl) ?_
    refine z_st (st' := [zv x_20]) rfl ?_
    rcases if_e H with ⟨h_21, H⟩ | ⟨h_21, H⟩
    · refine z_zne_t (M := M_X12_end) (tgt := 52) dX12_end_27 (by decide) h_21 ?_
      refine z_iconst (M := M_X12_end) dX12_end_52 ?_
      cases H
      exact z_iret (M := M_X12_end) dX12_end_53 rfl (Nat.le_of_ble_eq_true rfl) (Nat.le_of_ble_eq_true rfl) ⟨rfl, rfl⟩
    · refine z_zne_f (M := M_X12_end) (tgt := 52) dX12_end_27 (by decide) h_21 ?_
      refine z_aload_n (M := M_X12_end) dX12_end_30 rfl ?_
      have J_22 : YY l E M_X12_end 2 0 0 (pS (some (vi r)) σ') 45 [some (vr 277), some (vi n_0)] [zv (decide ((w32 (σ_19 kR_tapeMany 0)) < 20)), vr 277] σ_19 0 0 := by
        refine z_iconst (M := M_X12_end) dX12_end_45 ?_
        obtain ⟨⟨x_25, σ_24⟩, hc_23, H⟩ := bd_e H
        refine z_callV (M := M_X12_end) (M' := M_X12_fails) (as := [zv (decide ((w32 (σ_19 kR_tapeMany 0)) < 20)), vi 2]) (rest := []) rfl rfl dX12_end_46 m_X12_fails t_2805 t_2807 s_157 (c_X12_fails hl  hc_23) rfl rfl ly_277 rfl (Nat.le_of_ble_eq_true rfl) (Nat.le_of_ble_eq_true rfl) (Nat.le_of_ble_eq_true rfl) (Nat.le_of_ble_eq_true rfl) ?_
        refine z_st (st' := [zv x_25]) rfl ?_
        rcases if_e H with ⟨h_26, H⟩ | ⟨h_26, H⟩
        · refine z_zeq_f (M := M_X12_end) (tgt := 54) dX12_end_49 (by decide) h_26 ?_
          refine z_iconst (M := M_X12_end) dX12_end_52 ?_
          cases H
          exact z_iret (M := M_X12_end) dX12_end_53 rfl (Nat.le_of_ble_eq_true rfl) (Nat.le_of_ble_eq_true rfl) ⟨rfl, rfl⟩
        · refine z_zeq_t (M := M_X12_end) (tgt := 54) dX12_end_49 (by decide) h_26 ?_
          refine z_aload_n (M := M_X12_end) dX12_end_54 rfl ?_
          refine z_dup (M := M_X12_end) dX12_end_55 rfl ?_
          refine z_getI (M := M_X12_end) (ci := 15) (C := RX12) (T := TX12) (Nf := 135) (ty := tyX12) cl15 dX12_end_56 ly_277 4 (by decide) t_2395 rfl rfl ?_
          refine z_bipush (M := M_X12_end) dX12_end_59 (by decide +kernel) ?_
          refine z_iload_n (M := M_X12_end) dX12_end_61 rfl ?_
          refine z_isub (M := M_X12_end) dX12_end_62 ?_
          refine z_isub (M := M_X12_end) dX12_end_63 ?_
          obtain ⟨σ_27, σ_27_e, H⟩ := wf_e H
          refine z_putI (M := M_X12_end) (ci := 15) (C := RX12) (T := TX12) (Nf := 135) (ty := tyX12) cl15 dX12_end_64 ly_277 4 (by decide) t_2395 rfl rfl rfl rfl σ_27_e ?_
          refine z_aload_n (M := M_X12_end) dX12_end_67 rfl ?_
          refine z_getI (M := M_X12_end) (ci := 15) (C := RX12) (T := TX12) (Nf := 135) (ty := tyX12) cl15 dX12_end_68 ly_277 4 (by decide) t_2395 rfl rfl ?_
          cases H
          exact z_iret (M := M_X12_end) dX12_end_71 rfl (Nat.le_of_ble_eq_true rfl) (Nat.le_of_ble_eq_true rfl) ⟨rfl, rfl⟩
      refine z_aload_n (M := M_X12_end) dX12_end_31 rfl ?_
      refine z_getI (M := M_X12_end) (ci := 15) (C := RX12) (T := TX12) (Nf := 135) (ty := tyX12) cl15 dX12_end_32 ly_277 4 (by decide) t_2395 rfl rfl ?_
      refine z_bipush (M := M_X12_end) dX12_end_35 (by decide +kernel) ?_
      by_cases h_28 : (w32 (σ_19 kR_tapeMany 0)) < 20
      · refine z_icmp_ge_f (M := M_X12_end) (tgt := 44) dX12_end_37 (by decide) rfl (by decide +kernel) h_28 ?_
        refine z_iconst (M := M_X12_end) dX12_end_40 ?_
        refine z_goto (M := M_X12_end) (tgt := 45) dX12_end_41 (by decide) ?_
        exact z_st (by rw [zv_t (p := (w32 (σ_19 kR_tapeMany 0)) < 20) h_28]) J_22
      · refine z_icmp_ge_t (M := M_X12_end) (tgt := 44) dX12_end_37 (by decide) rfl (by decide +kernel) (Int.not_lt.mp h_28) ?_
        refine z_iconst (M := M_X12_end) dX12_end_44 ?_
        exact z_st (by rw [zv_f (p := (w32 (σ_19 kR_tapeMany 0)) < 20) h_28]) J_22
  refine z_iload_n (M := M_X12_end) dX12_end_6 rfl ?_
  refine z_i2l (M := M_X12_end) dX12_end_7 ?_
  refine z_lconst (M := M_X12_end) (m := 0) dX12_end_8 (by decide +kernel) ?_
  refine z_ldc2 (M := M_X12_end) (n := 20) dX12_end_9 t_2817 (by decide +kernel) ?_
  refine z_callS (M := M_X12_end) (M' := M_X12_in) (as := [vl (w32 n_0), vl 0, vl 20]) (rest := [vr 277]) rfl rfl dX12_end_12 m_X12_in t_2818 t_2819 (c_X12_in hl  rfl) rfl rfl (Nat.le_of_ble_eq_true rfl) (Nat.le_of_ble_eq_true rfl) (Nat.le_of_ble_eq_true rfl) (Nat.le_of_ble_eq_true rfl) ?_
  refine z_st (st' := [zv (fR_in (w32 n_0) 0 20), vr 277]) rfl ?_
  by_cases h_29 : (fR_in (w32 n_0) 0 20) = true
  · refine z_zne_t (M := M_X12_end) (tgt := 22) dX12_end_15 (by decide) h_29 ?_
    refine z_iconst (M := M_X12_end) dX12_end_22 ?_
    exact z_st (by rw [zv_f (p := ¬ ((fR_in (w32 n_0) 0 20) = true)) (not_not_intro h_29)]) J_17
  · refine z_zne_f (M := M_X12_end) (tgt := 22) dX12_end_15 (by decide) h_29 ?_
    refine z_iconst (M := M_X12_end) dX12_end_18 ?_
    refine z_goto (M := M_X12_end) (tgt := 23) dX12_end_19 (by decide) ?_
    exact z_st (by rw [zv_t (p := ¬ ((fR_in (w32 n_0) 0 20) = true)) h_29]) J_17
theorem c_X12_again (hl : l.stackTraces = false) {σ : SG} {r : Int} {σ' : SG}  (H : fR_again σ = some (r, σ')) : en_S l E M_X12_again 1 0 0 [vr 277] σ (pS (some (vi r)) σ') := by
  unfold fR_again at H
  refine z_mk (lv := [some (vr 277), none]) m_X12_again rfl hl (Nat.le_of_ble_eq_true rfl) rfl ?_
  refine z_aload_n (M := M_X12_again) dX12_again_0 rfl ?_
  refine z_iconst (M := M_X12_again) dX12_again_1 ?_
  obtain ⟨σ_1, σ_1_e, H⟩ := wf_e H
  refine z_putI (M := M_X12_again) (ci := 15) (C := RX12) (T := TX12) (Nf := 135) (ty := tyX12) cl15 dX12_again_2 ly_277 0 (by decide) t_2391 rfl rfl rfl rfl σ_1_e ?_
  refine z_aload_n (M := M_X12_again) dX12_again_5 rfl ?_
  have J_2 : YY l E M_X12_again 1 0 0 (pS (some (vi r)) σ') 24 [some (vr 277), none] [vi (if (w32 (σ_1 kR_resultMany 0)) < 65536 then (σ_1 kR_resultMany 0) else 65536), vr 277] σ_1 0 0 := by
    obtain ⟨σ_3, σ_3_e, H⟩ := wf_e H
    refine z_putI (M := M_X12_again) (ci := 15) (C := RX12) (T := TX12) (Nf := 135) (ty := tyX12) cl15 dX12_again_24 ly_277 4 (by decide) t_2395 rfl rfl rfl rfl σ_3_e ?_
    refine z_iconst (M := M_X12_again) dX12_again_27 ?_
    refine z_istore_n (M := M_X12_again) (lv' := [some (vr 277), some (vi 0)]) dX12_again_28 (Nat.le_of_ble_eq_true rfl) rfl rfl ?_
    obtain ⟨rl_9, hw_6, hk_7⟩ := bd_e H
    have J_22 : ∀ k_20 σ_21, rl_9 = (k_20, σ_21) → YY l E M_X12_again 1 0 0 (pS (some (vi r)) σ') 55 [some (vr 277), some (vi k_20)] [] σ_21 0 0 := by
      intro k_20 σ_21 e
      have H := hk_7
      rw [e] at H
      refine z_aload_n (M := M_X12_again) dX12_again_55 rfl ?_
      refine z_getI (M := M_X12_again) (ci := 15) (C := RX12) (T := TX12) (Nf := 135) (ty := tyX12) cl15 dX12_again_56 ly_277 4 (by decide) t_2395 rfl rfl ?_
      cases H
      exact z_iret (M := M_X12_again) dX12_again_59 rfl (Nat.le_of_ble_eq_true rfl) (Nat.le_of_ble_eq_true rfl) ⟨rfl, rfl⟩
    refine whl_go hw_6 (fun (k_4, σ_5) => YY l E M_X12_again 1 0 0 (pS (some (vi r)) σ') 29 [some (vr 277), some (vi k_4)] [] σ_5 0 0) ?_
    rintro ⟨k_4, σ_5⟩ o_10 H K_11 K_12
    refine z_iload_n (M := M_X12_again) dX12_again_29 rfl ?_
    refine z_aload_n (M := M_X12_again) dX12_again_30 rfl ?_
    refine z_getI (M := M_X12_again) (ci := 15) (C := RX12) (T := TX12) (Nf := 135) (ty := tyX12) cl15 dX12_again_31 ly_277 4 (by decide) t_2395 rfl rfl ?_
    rcases if_e H with ⟨h_13, H⟩ | ⟨h_13, H⟩
    · refine z_icmp_ge_f (M := M_X12_again) (tgt := 55) dX12_again_34 (by decide) rfl rfl h_13 ?_
      refine z_aload_n (M := M_X12_again) dX12_again_37 rfl ?_
      refine z_getR (M := M_X12_again) (ci := 15) (C := RX12) (T := TX12) (Nf := 135) (ty := tyX12) cl15 dX12_again_38 ly_277 3 (by decide) t_2394 rfl ?_
      refine z_iload_n (M := M_X12_again) dX12_again_41 rfl ?_
      refine z_aload_n (M := M_X12_again) dX12_again_42 rfl ?_
      refine z_getR (M := M_X12_again) (ci := 15) (C := RX12) (T := TX12) (Nf := 135) (ty := tyX12) cl15 dX12_again_43 ly_277 5 (by decide) t_2396 rfl ?_
      refine z_iload_n (M := M_X12_again) dX12_again_46 rfl ?_
      obtain ⟨x_14, x_14_e, hi_15, H⟩ := rd_e H
      refine z_bald (M := M_X12_again) dX12_again_47 ly_279 rfl rfl rfl hi_15 x_14_e ?_
      obtain ⟨σ_16, σ_16_e, hi_17, H⟩ := wa_e H
      refine z_bast (M := M_X12_again) dX12_again_48 ly_278 rfl rfl rfl hi_17 σ_16_e ?_
      refine z_iinc (M := M_X12_again) (lv' := [some (vr 277), some (vi (k_4 + 1))]) dX12_again_49 rfl (Nat.le_of_ble_eq_true rfl) rfl rfl ?_
      refine z_goto (M := M_X12_again) (tgt := 29) dX12_again_52 (by decide) ?_
      exact K_11 _ (Option.some.inj H).symm
    · refine z_icmp_ge_t (M := M_X12_again) (tgt := 55) dX12_again_34 (by decide) rfl rfl (Int.not_lt.mp h_13) ?_
      exact J_22 _ _ (K_12 _ (Option.some.inj H).symm).symm
  refine z_aload_n (M := M_X12_again) dX12_again_6 rfl ?_
  refine z_getI (M := M_X12_again) (ci := 15) (C := RX12) (T := TX12) (Nf := 135) (ty := tyX12) cl15 dX12_again_7 ly_277 6 (by decide) t_2397 rfl rfl ?_
  refine z_ldc (M := M_X12_again) (n := 65536) dX12_again_10 t_2385 (by decide +kernel) ?_
  by_cases h_23 : (w32 (σ_1 kR_resultMany 0)) < 65536
  · refine z_icmp_ge_f (M := M_X12_again) (tgt := 22) dX12_again_12 (by decide) rfl (by decide +kernel) h_23 ?_
    refine z_aload_n (M := M_X12_again) dX12_again_15 rfl ?_
    refine z_getI (M := M_X12_again) (ci := 15) (C := RX12) (T := TX12) (Nf := 135) (ty := tyX12) cl15 dX12_again_16 ly_277 6 (by decide) t_2397 rfl rfl ?_
    refine z_goto (M := M_X12_again) (tgt := 24) dX12_again_19 (by decide) ?_
    exact z_st (by rw [if_pos (c := (w32 (σ_1 kR_resultMany 0)) < 65536) h_23]) J_2
  · refine z_icmp_ge_t (M := M_X12_again) (tgt := 22) dX12_again_12 (by decide) rfl (by decide +kernel) (Int.not_lt.mp h_23) ?_
    refine z_ldc (M := M_X12_again) (n := 65536) dX12_again_22 t_2385 (by decide +kernel) ?_
    exact z_st (by rw [if_neg (c := (w32 (σ_1 kR_resultMany 0)) < 65536) h_23]) J_2
theorem c_X12_fault (hl : l.stackTraces = false) {σ : SG} {what_0 : Int} {r : Int} {σ' : SG}  (H : fR_fault σ what_0 = some (r, σ')) : en_S l E M_X12_fault 2 0 0 [vr 277, vi what_0] σ (pS (some (vi r)) σ') := by
  unfold fR_fault at H
  refine z_mk (lv := [some (vr 277), some (vi what_0)]) m_X12_fault rfl hl (Nat.le_of_ble_eq_true rfl) rfl ?_
  refine z_aload_n (M := M_X12_fault) dX12_fault_0 rfl ?_
  refine z_iconst (M := M_X12_fault) dX12_fault_1 ?_
  obtain ⟨σ_1, σ_1_e, H⟩ := wf_e H
  refine z_putI (M := M_X12_fault) (ci := 15) (C := RX12) (T := TX12) (Nf := 135) (ty := tyX12) cl15 dX12_fault_2 ly_277 0 (by decide) t_2391 rfl rfl rfl rfl σ_1_e ?_
  refine z_aload_n (M := M_X12_fault) dX12_fault_5 rfl ?_
  have J_2 : YY l E M_X12_fault 2 0 0 (pS (some (vi r)) σ') 21 [some (vr 277), some (vi what_0)] [zv (decide (¬ ((fR_in (w32 what_0) 0 1) = true))), vr 277] σ_1 0 0 := by
    refine z_iconst (M := M_X12_fault) dX12_fault_21 ?_
    obtain ⟨⟨x_5, σ_4⟩, hc_3, H⟩ := bd_e H
    refine z_callV (M := M_X12_fault) (M' := M_X12_fails) (as := [zv (decide (¬ ((fR_in (w32 what_0) 0 1) = true))), vi 1]) (rest := []) rfl rfl dX12_fault_22 m_X12_fails t_2805 t_2807 s_157 (c_X12_fails hl  hc_3) rfl rfl ly_277 rfl (Nat.le_of_ble_eq_true rfl) (Nat.le_of_ble_eq_true rfl) (Nat.le_of_ble_eq_true rfl) (Nat.le_of_ble_eq_true rfl) ?_
    refine z_st (st' := [zv x_5]) rfl ?_
    rcases if_e H with ⟨h_6, H⟩ | ⟨h_6, H⟩
    · refine z_zeq_f (M := M_X12_fault) (tgt := 30) dX12_fault_25 (by decide) h_6 ?_
      refine z_iconst (M := M_X12_fault) dX12_fault_28 ?_
      cases H
      exact z_iret (M := M_X12_fault) dX12_fault_29 rfl (Nat.le_of_ble_eq_true rfl) (Nat.le_of_ble_eq_true rfl) ⟨rfl, rfl⟩
    · refine z_zeq_t (M := M_X12_fault) (tgt := 30) dX12_fault_25 (by decide) h_6 ?_
      have J_7 : YY l E M_X12_fault 2 0 0 (pS (some (vi r)) σ') 45 [some (vr 277), some (vi what_0)] [vi (if (w32 what_0) = 0 then (σ_4 kR_faultKind 0) else (σ_4 kR_faultPlace 0))] σ_4 0 0 := by
        cases H
        exact z_iret (M := M_X12_fault) dX12_fault_45 rfl (Nat.le_of_ble_eq_true rfl) (Nat.le_of_ble_eq_true rfl) ⟨rfl, rfl⟩
      refine z_iload_n (M := M_X12_fault) dX12_fault_30 rfl ?_
      by_cases h_8 : (w32 what_0) = 0
      · refine z_if_ne_f (M := M_X12_fault) (tgt := 41) dX12_fault_31 (by decide) rfl h_8 ?_
        refine z_aload_n (M := M_X12_fault) dX12_fault_34 rfl ?_
        refine z_getI (M := M_X12_fault) (ci := 15) (C := RX12) (T := TX12) (Nf := 135) (ty := tyX12) cl15 dX12_fault_35 ly_277 7 (by decide) t_2398 rfl rfl ?_
        refine z_goto (M := M_X12_fault) (tgt := 45) dX12_fault_38 (by decide) ?_
        exact z_st (by rw [if_pos (c := (w32 what_0) = 0) h_8]) J_7
      · refine z_if_ne_t (M := M_X12_fault) (tgt := 41) dX12_fault_31 (by decide) rfl h_8 ?_
        refine z_aload_n (M := M_X12_fault) dX12_fault_41 rfl ?_
        refine z_getI (M := M_X12_fault) (ci := 15) (C := RX12) (T := TX12) (Nf := 135) (ty := tyX12) cl15 dX12_fault_42 ly_277 8 (by decide) t_2399 rfl rfl ?_
        exact z_st (by rw [if_neg (c := (w32 what_0) = 0) h_8]) J_7
  refine z_iload_n (M := M_X12_fault) dX12_fault_6 rfl ?_
  refine z_i2l (M := M_X12_fault) dX12_fault_7 ?_
  refine z_lconst (M := M_X12_fault) (m := 0) dX12_fault_8 (by decide +kernel) ?_
  refine z_lconst (M := M_X12_fault) (m := 1) dX12_fault_9 (by decide +kernel) ?_
  refine z_callS (M := M_X12_fault) (M' := M_X12_in) (as := [vl (w32 what_0), vl 0, vl 1]) (rest := [vr 277]) rfl rfl dX12_fault_10 m_X12_in t_2818 t_2819 (c_X12_in hl  rfl) rfl rfl (Nat.le_of_ble_eq_true rfl) (Nat.le_of_ble_eq_true rfl) (Nat.le_of_ble_eq_true rfl) (Nat.le_of_ble_eq_true rfl) ?_
  refine z_st (st' := [zv (fR_in (w32 what_0) 0 1), vr 277]) rfl ?_
  by_cases h_9 : (fR_in (w32 what_0) 0 1) = true
  · refine z_zne_t (M := M_X12_fault) (tgt := 20) dX12_fault_13 (by decide) h_9 ?_
    refine z_iconst (M := M_X12_fault) dX12_fault_20 ?_
    exact z_st (by rw [zv_f (p := ¬ ((fR_in (w32 what_0) 0 1) = true)) (not_not_intro h_9)]) J_2
  · refine z_zne_f (M := M_X12_fault) (tgt := 20) dX12_fault_13 (by decide) h_9 ?_
    refine z_iconst (M := M_X12_fault) dX12_fault_16 ?_
    refine z_goto (M := M_X12_fault) (tgt := 21) dX12_fault_17 (by decide) ?_
    exact z_st (by rw [zv_t (p := ¬ ((fR_in (w32 what_0) 0 1) = true)) h_9]) J_2
theorem c_X12_byteAt (hl : l.stackTraces = false) {σ : SG} {i_0 : Int} {r : Int} {σ' : SG}  (H : fR_byteAt σ i_0 = some (r, σ')) : en_S l E M_X12_byteAt 2 0 0 [vr 277, vi i_0] σ (pS (some (vi r)) σ') := by
  unfold fR_byteAt at H
  refine z_mk (lv := [some (vr 277), some (vi i_0)]) m_X12_byteAt rfl hl (Nat.le_of_ble_eq_true rfl) rfl ?_
  refine z_aload_n (M := M_X12_byteAt) dX12_byteAt_0 rfl ?_
  refine z_iconst (M := M_X12_byteAt) dX12_byteAt_1 ?_
  obtain ⟨σ_1, σ_1_e, H⟩ := wf_e H
  refine z_putI (M := M_X12_byteAt) (ci := 15) (C := RX12) (T := TX12) (Nf := 135) (ty := tyX12) cl15 dX12_byteAt_2 ly_277 0 (by decide) t_2391 rfl rfl rfl rfl σ_1_e ?_
  refine z_aload_n (M := M_X12_byteAt) dX12_byteAt_5 rfl ?_
  have J_2 : YY l E M_X12_byteAt 2 0 0 (pS (some (vi r)) σ') 27 [some (vr 277), some (vi i_0)] [zv (decide (¬ ((fR_in (w32 i_0) 0 (w32 ((σ_1 kR_resultMany 0) - 1))) = true))), vr 277] σ_1 0 0 := by
    refine z_iconst (M := M_X12_byteAt) dX12_byteAt_27 ?_
    obtain ⟨⟨x_5, σ_4⟩, hc_3, H⟩ := bd_e H
    refine z_callV (M := M_X12_byteAt) (M' := M_X12_fails) (as := [zv (decide (¬ ((fR_in (w32 i_0) 0 (w32 ((σ_1 kR_resultMany 0) - 1))) = true))), vi 1]) (rest := []) rfl rfl dX12_byteAt_28 m_X12_fails t_2805 t_2807 s_157 (c_X12_fails hl  hc_3) rfl rfl ly_277 rfl (Nat.le_of_ble_eq_true rfl) (Nat.le_of_ble_eq_true rfl) (Nat.le_of_ble_eq_true rfl) (Nat.le_of_ble_eq_true rfl) ?_
    refine z_st (st' := [zv x_5]) rfl ?_
    rcases if_e H with ⟨h_6, H⟩ | ⟨h_6, H⟩
    · refine z_zeq_f (M := M_X12_byteAt) (tgt := 36) dX12_byteAt_31 (by decide) h_6 ?_
      refine z_iconst (M := M_X12_byteAt) dX12_byteAt_34 ?_
      cases H
      exact z_iret (M := M_X12_byteAt) dX12_byteAt_35 rfl (Nat.le_of_ble_eq_true rfl) (Nat.le_of_ble_eq_true rfl) ⟨rfl, rfl⟩
    · refine z_zeq_t (M := M_X12_byteAt) (tgt := 36) dX12_byteAt_31 (by decide) h_6 ?_
      refine z_aload_n (M := M_X12_byteAt) dX12_byteAt_36 rfl ?_
      refine z_getR (M := M_X12_byteAt) (ci := 15) (C := RX12) (T := TX12) (Nf := 135) (ty := tyX12) cl15 dX12_byteAt_37 ly_277 5 (by decide) t_2396 rfl ?_
      refine z_iload_n (M := M_X12_byteAt) dX12_byteAt_40 rfl ?_
      obtain ⟨x_7, x_7_e, hi_8, H⟩ := rd_e H
      refine z_bald (M := M_X12_byteAt) dX12_byteAt_41 ly_279 rfl rfl rfl hi_8 x_7_e ?_
      refine z_sipush (M := M_X12_byteAt) dX12_byteAt_42 (by decide +kernel) ?_
      refine z_iand (M := M_X12_byteAt) dX12_byteAt_45 ?_
      cases H
      exact z_iret (M := M_X12_byteAt) dX12_byteAt_46 rfl (Nat.le_of_ble_eq_true rfl) (Nat.le_of_ble_eq_true rfl) ⟨rfl, rfl⟩
  refine z_iload_n (M := M_X12_byteAt) dX12_byteAt_6 rfl ?_
  refine z_i2l (M := M_X12_byteAt) dX12_byteAt_7 ?_
  refine z_lconst (M := M_X12_byteAt) (m := 0) dX12_byteAt_8 (by decide +kernel) ?_
  refine z_aload_n (M := M_X12_byteAt) dX12_byteAt_9 rfl ?_
  refine z_getI (M := M_X12_byteAt) (ci := 15) (C := RX12) (T := TX12) (Nf := 135) (ty := tyX12) cl15 dX12_byteAt_10 ly_277 6 (by decide) t_2397 rfl rfl ?_
  refine z_iconst (M := M_X12_byteAt) dX12_byteAt_13 ?_
  refine z_isub (M := M_X12_byteAt) dX12_byteAt_14 ?_
  refine z_i2l (M := M_X12_byteAt) dX12_byteAt_15 ?_
  refine z_callS (M := M_X12_byteAt) (M' := M_X12_in) (as := [vl (w32 i_0), vl 0, vl (w32 ((σ_1 kR_resultMany 0) - 1))]) (rest := [vr 277]) rfl rfl dX12_byteAt_16 m_X12_in t_2818 t_2819 (c_X12_in hl  rfl) rfl rfl (Nat.le_of_ble_eq_true rfl) (Nat.le_of_ble_eq_true rfl) (Nat.le_of_ble_eq_true rfl) (Nat.le_of_ble_eq_true rfl) ?_
  refine z_st (st' := [zv (fR_in (w32 i_0) 0 (w32 ((σ_1 kR_resultMany 0) - 1))), vr 277]) rfl ?_
  by_cases h_9 : (fR_in (w32 i_0) 0 (w32 ((σ_1 kR_resultMany 0) - 1))) = true
  · refine z_zne_t (M := M_X12_byteAt) (tgt := 26) dX12_byteAt_19 (by decide) h_9 ?_
    refine z_iconst (M := M_X12_byteAt) dX12_byteAt_26 ?_
    exact z_st (by rw [zv_f (p := ¬ ((fR_in (w32 i_0) 0 (w32 ((σ_1 kR_resultMany 0) - 1))) = true)) (not_not_intro h_9)]) J_2
  · refine z_zne_f (M := M_X12_byteAt) (tgt := 26) dX12_byteAt_19 (by decide) h_9 ?_
    refine z_iconst (M := M_X12_byteAt) dX12_byteAt_22 ?_
    refine z_goto (M := M_X12_byteAt) (tgt := 27) dX12_byteAt_23 (by decide) ?_
    exact z_st (by rw [zv_t (p := ¬ ((fR_in (w32 i_0) 0 (w32 ((σ_1 kR_resultMany 0) - 1))) = true)) h_9]) J_2
theorem c_X12_wrong (hl : l.stackTraces = false) {σ : SG} {kind_0 : Int} {where_0 : Int} {r : Bool} {σ' : SG}  (H : fR_wrong σ kind_0 where_0 = some (r, σ')) : en_S l E M_X12_wrong 1 0 0 [vr 277, vi kind_0, vi where_0] σ (pS (some (zv r)) σ') := by
  unfold fR_wrong at H
  refine z_mk (lv := [some (vr 277), some (vi kind_0), some (vi where_0)]) m_X12_wrong rfl hl (Nat.le_of_ble_eq_true rfl) rfl ?_
  refine z_aload_n (M := M_X12_wrong) dX12_wrong_0 rfl ?_
  refine z_iload_n (M := M_X12_wrong) dX12_wrong_1 rfl ?_
  obtain ⟨σ_1, σ_1_e, H⟩ := wf_e H
  refine z_putI (M := M_X12_wrong) (ci := 15) (C := RX12) (T := TX12) (Nf := 135) (ty := tyX12) cl15 dX12_wrong_2 ly_277 7 (by decide) t_2398 rfl rfl rfl rfl σ_1_e ?_
  refine z_aload_n (M := M_X12_wrong) dX12_wrong_5 rfl ?_
  refine z_iload_n (M := M_X12_wrong) dX12_wrong_6 rfl ?_
  obtain ⟨σ_2, σ_2_e, H⟩ := wf_e H
  refine z_putI (M := M_X12_wrong) (ci := 15) (C := RX12) (T := TX12) (Nf := 135) (ty := tyX12) cl15 dX12_wrong_7 ly_277 8 (by decide) t_2399 rfl rfl rfl rfl σ_2_e ?_
  refine z_zconst (M := M_X12_wrong) (b := false) dX12_wrong_10 rfl ?_
  cases H
  exact z_zret (M := M_X12_wrong) dX12_wrong_11 rfl (Nat.le_of_ble_eq_true rfl) (Nat.le_of_ble_eq_true rfl) ⟨rfl, rfl⟩
theorem c_X12_here (hl : l.stackTraces = false) {σ : SG} {r : Int}  (H : fR_here σ = some r) : en_S l E M_X12_here 1 0 0 [vr 277] σ (pS (some (vi r)) σ) := by
  unfold fR_here at H
  refine z_mk (lv := [some (vr 277)]) m_X12_here rfl hl (Nat.le_of_ble_eq_true rfl) rfl ?_
  obtain ⟨v_9, he_10, hk_11⟩ := bd_e H
  have J_12 : ∀ x_8, v_9 = x_8 → YY l E M_X12_here 1 0 0 (pS (some (vi r)) σ) 28 [some (vr 277)] [vi x_8] σ 0 0 := by
    intro x_8 e
    have H := hk_11
    rw [e] at H
    cases H
    exact z_iret (M := M_X12_here) dX12_here_28 rfl (Nat.le_of_ble_eq_true rfl) (Nat.le_of_ble_eq_true rfl) ⟨rfl, rfl⟩
  have H := he_10
  refine z_aload_n (M := M_X12_here) dX12_here_0 rfl ?_
  refine z_getI (M := M_X12_here) (ci := 15) (C := RX12) (T := TX12) (Nf := 135) (ty := tyX12) cl15 dX12_here_1 ly_277 17 (by decide) t_2408 rfl rfl ?_
  refine z_aload_n (M := M_X12_here) dX12_here_4 rfl ?_
  refine z_getI (M := M_X12_here) (ci := 15) (C := RX12) (T := TX12) (Nf := 135) (ty := tyX12) cl15 dX12_here_5 ly_277 18 (by decide) t_2409 rfl rfl ?_
  rcases if_e H with ⟨h_3, H⟩ | ⟨h_3, H⟩
  · refine z_icmp_ge_f (M := M_X12_here) (tgt := 27) dX12_here_8 (by decide) rfl rfl h_3 ?_
    refine z_aload_n (M := M_X12_here) dX12_here_11 rfl ?_
    refine z_getR (M := M_X12_here) (ci := 15) (C := RX12) (T := TX12) (Nf := 135) (ty := tyX12) cl15 dX12_here_12 ly_277 3 (by decide) t_2394 rfl ?_
    refine z_aload_n (M := M_X12_here) dX12_here_15 rfl ?_
    refine z_getI (M := M_X12_here) (ci := 15) (C := RX12) (T := TX12) (Nf := 135) (ty := tyX12) cl15 dX12_here_16 ly_277 17 (by decide) t_2408 rfl rfl ?_
    obtain ⟨x_4, x_4_e, hi_5, H⟩ := rd_e H
    refine z_bald (M := M_X12_here) dX12_here_19 ly_278 rfl rfl rfl hi_5 x_4_e ?_
    refine z_sipush (M := M_X12_here) dX12_here_20 (by decide +kernel) ?_
    refine z_iand (M := M_X12_here) dX12_here_23 ?_
    refine z_goto (M := M_X12_here) (tgt := 28) dX12_here_24 (by decide) ?_
    exact J_12 _ (Option.some.inj H).symm
  · refine z_icmp_ge_t (M := M_X12_here) (tgt := 27) dX12_here_8 (by decide) rfl rfl (Int.not_lt.mp h_3) ?_
    refine z_iconst (M := M_X12_here) dX12_here_27 ?_
    exact J_12 _ (Option.some.inj H).symm
theorem c_X12_isBlank (hl : l.stackTraces = false) {σ : SG} {c_0 : Int} {r : Bool}  (H : fR_isBlank c_0 = r) : en_S l E M_X12_isBlank 1 0 0 [vi c_0] σ (pS (some (zv r)) σ) := by
  unfold fR_isBlank at H
  refine z_mk (lv := [some (vi c_0)]) m_X12_isBlank rfl hl (Nat.le_of_ble_eq_true rfl) rfl ?_
  have J_1 : YY l E M_X12_isBlank 1 0 0 (pS (some (zv r)) σ) 29 [some (vi c_0)] [zv (decide (((((w32 c_0) = 32) ∨ ((w32 c_0) = 9)) ∨ ((w32 c_0) = 10)) ∨ ((w32 c_0) = 13)))] σ 0 0 := by
    cases H
    exact z_zret (M := M_X12_isBlank) dX12_isBlank_29 rfl (Nat.le_of_ble_eq_true rfl) (Nat.le_of_ble_eq_true rfl) ⟨rfl, rfl⟩
  refine z_iload_n (M := M_X12_isBlank) dX12_isBlank_0 rfl ?_
  refine z_bipush (M := M_X12_isBlank) dX12_isBlank_1 (by decide +kernel) ?_
  by_cases h_2 : (w32 c_0) = 32
  · refine z_icmp_eq_t (M := M_X12_isBlank) (tgt := 24) dX12_isBlank_3 (by decide) rfl (by decide +kernel) h_2 ?_
    refine z_iconst (M := M_X12_isBlank) dX12_isBlank_24 ?_
    refine z_goto (M := M_X12_isBlank) (tgt := 29) dX12_isBlank_25 (by decide) ?_
    exact z_st (by rw [zv_t (p := ((((w32 c_0) = 32) ∨ ((w32 c_0) = 9)) ∨ ((w32 c_0) = 10)) ∨ ((w32 c_0) = 13)) (Or.inl (Or.inl (Or.inl h_2)))]) J_1
  · refine z_icmp_eq_f (M := M_X12_isBlank) (tgt := 24) dX12_isBlank_3 (by decide) rfl (by decide +kernel) h_2 ?_
    refine z_iload_n (M := M_X12_isBlank) dX12_isBlank_6 rfl ?_
    refine z_bipush (M := M_X12_isBlank) dX12_isBlank_7 (by decide +kernel) ?_
    by_cases h_3 : (w32 c_0) = 9
    · refine z_icmp_eq_t (M := M_X12_isBlank) (tgt := 24) dX12_isBlank_9 (by decide) rfl (by decide +kernel) h_3 ?_
      refine z_iconst (M := M_X12_isBlank) dX12_isBlank_24 ?_
      refine z_goto (M := M_X12_isBlank) (tgt := 29) dX12_isBlank_25 (by decide) ?_
      exact z_st (by rw [zv_t (p := ((((w32 c_0) = 32) ∨ ((w32 c_0) = 9)) ∨ ((w32 c_0) = 10)) ∨ ((w32 c_0) = 13)) (Or.inl (Or.inl (Or.inr h_3)))]) J_1
    · refine z_icmp_eq_f (M := M_X12_isBlank) (tgt := 24) dX12_isBlank_9 (by decide) rfl (by decide +kernel) h_3 ?_
      refine z_iload_n (M := M_X12_isBlank) dX12_isBlank_12 rfl ?_
      refine z_bipush (M := M_X12_isBlank) dX12_isBlank_13 (by decide +kernel) ?_
      by_cases h_4 : (w32 c_0) = 10
      · refine z_icmp_eq_t (M := M_X12_isBlank) (tgt := 24) dX12_isBlank_15 (by decide) rfl (by decide +kernel) h_4 ?_
        refine z_iconst (M := M_X12_isBlank) dX12_isBlank_24 ?_
        refine z_goto (M := M_X12_isBlank) (tgt := 29) dX12_isBlank_25 (by decide) ?_
        exact z_st (by rw [zv_t (p := ((((w32 c_0) = 32) ∨ ((w32 c_0) = 9)) ∨ ((w32 c_0) = 10)) ∨ ((w32 c_0) = 13)) (Or.inl (Or.inr h_4))]) J_1
      · refine z_icmp_eq_f (M := M_X12_isBlank) (tgt := 24) dX12_isBlank_15 (by decide) rfl (by decide +kernel) h_4 ?_
        refine z_iload_n (M := M_X12_isBlank) dX12_isBlank_18 rfl ?_
        refine z_bipush (M := M_X12_isBlank) dX12_isBlank_19 (by decide +kernel) ?_
        by_cases h_5 : (w32 c_0) = 13
        · refine z_icmp_ne_f (M := M_X12_isBlank) (tgt := 28) dX12_isBlank_21 (by decide) rfl (by decide +kernel) h_5 ?_
          refine z_iconst (M := M_X12_isBlank) dX12_isBlank_24 ?_
          refine z_goto (M := M_X12_isBlank) (tgt := 29) dX12_isBlank_25 (by decide) ?_
          exact z_st (by rw [zv_t (p := ((((w32 c_0) = 32) ∨ ((w32 c_0) = 9)) ∨ ((w32 c_0) = 10)) ∨ ((w32 c_0) = 13)) (Or.inr h_5)]) J_1
        · refine z_icmp_ne_t (M := M_X12_isBlank) (tgt := 28) dX12_isBlank_21 (by decide) rfl (by decide +kernel) h_5 ?_
          refine z_iconst (M := M_X12_isBlank) dX12_isBlank_28 ?_
          exact z_st (by rw [zv_f (p := ((((w32 c_0) = 32) ∨ ((w32 c_0) = 9)) ∨ ((w32 c_0) = 10)) ∨ ((w32 c_0) = 13)) (fun q => q.elim (fun q => q.elim (fun q => q.elim h_2 h_3) h_4) h_5)]) J_1
theorem c_X12_isLetter (hl : l.stackTraces = false) {σ : SG} {c_0 : Int} {r : Bool}  (H : fR_isLetter c_0 = r) : en_S l E M_X12_isLetter 1 0 0 [vi c_0] σ (pS (some (zv r)) σ) := by
  unfold fR_isLetter at H
  refine z_mk (lv := [some (vi c_0)]) m_X12_isLetter rfl hl (Nat.le_of_ble_eq_true rfl) rfl ?_
  have J_1 : YY l E M_X12_isLetter 1 0 0 (pS (some (zv r)) σ) 29 [some (vi c_0)] [zv (decide (((97 ≤ (w32 c_0)) ∧ ((w32 c_0) ≤ 122)) ∨ ((65 ≤ (w32 c_0)) ∧ ((w32 c_0) ≤ 90))))] σ 0 0 := by
    cases H
    exact z_zret (M := M_X12_isLetter) dX12_isLetter_29 rfl (Nat.le_of_ble_eq_true rfl) (Nat.le_of_ble_eq_true rfl) ⟨rfl, rfl⟩
  refine z_iload_n (M := M_X12_isLetter) dX12_isLetter_0 rfl ?_
  refine z_bipush (M := M_X12_isLetter) dX12_isLetter_1 (by decide +kernel) ?_
  by_cases h_2 : 97 ≤ (w32 c_0)
  · refine z_icmp_lt_f (M := M_X12_isLetter) (tgt := 12) dX12_isLetter_3 (by decide) rfl (by decide +kernel) h_2 ?_
    refine z_iload_n (M := M_X12_isLetter) dX12_isLetter_6 rfl ?_
    refine z_bipush (M := M_X12_isLetter) dX12_isLetter_7 (by decide +kernel) ?_
    by_cases h_3 : (w32 c_0) ≤ 122
    · refine z_icmp_le_t (M := M_X12_isLetter) (tgt := 24) dX12_isLetter_9 (by decide) rfl (by decide +kernel) h_3 ?_
      refine z_iconst (M := M_X12_isLetter) dX12_isLetter_24 ?_
      refine z_goto (M := M_X12_isLetter) (tgt := 29) dX12_isLetter_25 (by decide) ?_
      exact z_st (by rw [zv_t (p := ((97 ≤ (w32 c_0)) ∧ ((w32 c_0) ≤ 122)) ∨ ((65 ≤ (w32 c_0)) ∧ ((w32 c_0) ≤ 90))) (Or.inl ⟨h_2, h_3⟩)]) J_1
    · refine z_icmp_le_f (M := M_X12_isLetter) (tgt := 24) dX12_isLetter_9 (by decide) rfl (by decide +kernel) (Int.not_le.mp h_3) ?_
      refine z_iload_n (M := M_X12_isLetter) dX12_isLetter_12 rfl ?_
      refine z_bipush (M := M_X12_isLetter) dX12_isLetter_13 (by decide +kernel) ?_
      by_cases h_4 : 65 ≤ (w32 c_0)
      · refine z_icmp_lt_f (M := M_X12_isLetter) (tgt := 28) dX12_isLetter_15 (by decide) rfl (by decide +kernel) h_4 ?_
        refine z_iload_n (M := M_X12_isLetter) dX12_isLetter_18 rfl ?_
        refine z_bipush (M := M_X12_isLetter) dX12_isLetter_19 (by decide +kernel) ?_
        by_cases h_5 : (w32 c_0) ≤ 90
        · refine z_icmp_gt_f (M := M_X12_isLetter) (tgt := 28) dX12_isLetter_21 (by decide) rfl (by decide +kernel) h_5 ?_
          refine z_iconst (M := M_X12_isLetter) dX12_isLetter_24 ?_
          refine z_goto (M := M_X12_isLetter) (tgt := 29) dX12_isLetter_25 (by decide) ?_
          exact z_st (by rw [zv_t (p := ((97 ≤ (w32 c_0)) ∧ ((w32 c_0) ≤ 122)) ∨ ((65 ≤ (w32 c_0)) ∧ ((w32 c_0) ≤ 90))) (Or.inr ⟨h_4, h_5⟩)]) J_1
        · refine z_icmp_gt_t (M := M_X12_isLetter) (tgt := 28) dX12_isLetter_21 (by decide) rfl (by decide +kernel) (Int.not_le.mp h_5) ?_
          refine z_iconst (M := M_X12_isLetter) dX12_isLetter_28 ?_
          exact z_st (by rw [zv_f (p := ((97 ≤ (w32 c_0)) ∧ ((w32 c_0) ≤ 122)) ∨ ((65 ≤ (w32 c_0)) ∧ ((w32 c_0) ≤ 90))) (fun q => q.elim (fun q => h_3 q.2) (fun q => h_5 q.2))]) J_1
      · refine z_icmp_lt_t (M := M_X12_isLetter) (tgt := 28) dX12_isLetter_15 (by decide) rfl (by decide +kernel) (Int.not_le.mp h_4) ?_
        refine z_iconst (M := M_X12_isLetter) dX12_isLetter_28 ?_
        exact z_st (by rw [zv_f (p := ((97 ≤ (w32 c_0)) ∧ ((w32 c_0) ≤ 122)) ∨ ((65 ≤ (w32 c_0)) ∧ ((w32 c_0) ≤ 90))) (fun q => q.elim (fun q => h_3 q.2) (fun q => h_4 q.1))]) J_1
  · refine z_icmp_lt_t (M := M_X12_isLetter) (tgt := 12) dX12_isLetter_3 (by decide) rfl (by decide +kernel) (Int.not_le.mp h_2) ?_
    refine z_iload_n (M := M_X12_isLetter) dX12_isLetter_12 rfl ?_
    refine z_bipush (M := M_X12_isLetter) dX12_isLetter_13 (by decide +kernel) ?_
    by_cases h_6 : 65 ≤ (w32 c_0)
    · refine z_icmp_lt_f (M := M_X12_isLetter) (tgt := 28) dX12_isLetter_15 (by decide) rfl (by decide +kernel) h_6 ?_
      refine z_iload_n (M := M_X12_isLetter) dX12_isLetter_18 rfl ?_
      refine z_bipush (M := M_X12_isLetter) dX12_isLetter_19 (by decide +kernel) ?_
      by_cases h_7 : (w32 c_0) ≤ 90
      · refine z_icmp_gt_f (M := M_X12_isLetter) (tgt := 28) dX12_isLetter_21 (by decide) rfl (by decide +kernel) h_7 ?_
        refine z_iconst (M := M_X12_isLetter) dX12_isLetter_24 ?_
        refine z_goto (M := M_X12_isLetter) (tgt := 29) dX12_isLetter_25 (by decide) ?_
        exact z_st (by rw [zv_t (p := ((97 ≤ (w32 c_0)) ∧ ((w32 c_0) ≤ 122)) ∨ ((65 ≤ (w32 c_0)) ∧ ((w32 c_0) ≤ 90))) (Or.inr ⟨h_6, h_7⟩)]) J_1
      · refine z_icmp_gt_t (M := M_X12_isLetter) (tgt := 28) dX12_isLetter_21 (by decide) rfl (by decide +kernel) (Int.not_le.mp h_7) ?_
        refine z_iconst (M := M_X12_isLetter) dX12_isLetter_28 ?_
        exact z_st (by rw [zv_f (p := ((97 ≤ (w32 c_0)) ∧ ((w32 c_0) ≤ 122)) ∨ ((65 ≤ (w32 c_0)) ∧ ((w32 c_0) ≤ 90))) (fun q => q.elim (fun q => h_2 q.1) (fun q => h_7 q.2))]) J_1
    · refine z_icmp_lt_t (M := M_X12_isLetter) (tgt := 28) dX12_isLetter_15 (by decide) rfl (by decide +kernel) (Int.not_le.mp h_6) ?_
      refine z_iconst (M := M_X12_isLetter) dX12_isLetter_28 ?_
      exact z_st (by rw [zv_f (p := ((97 ≤ (w32 c_0)) ∧ ((w32 c_0) ≤ 122)) ∨ ((65 ≤ (w32 c_0)) ∧ ((w32 c_0) ≤ 90))) (fun q => q.elim (fun q => h_2 q.1) (fun q => h_6 q.1))]) J_1
theorem c_X12_isDigit (hl : l.stackTraces = false) {σ : SG} {c_0 : Int} {r : Bool}  (H : fR_isDigit c_0 = r) : en_S l E M_X12_isDigit 1 0 0 [vi c_0] σ (pS (some (zv r)) σ) := by
  unfold fR_isDigit at H
  refine z_mk (lv := [some (vi c_0)]) m_X12_isDigit rfl hl (Nat.le_of_ble_eq_true rfl) rfl ?_
  have J_1 : YY l E M_X12_isDigit 1 0 0 (pS (some (zv r)) σ) 17 [some (vi c_0)] [zv (decide ((48 ≤ (w32 c_0)) ∧ ((w32 c_0) ≤ 57)))] σ 0 0 := by
    cases H
    exact z_zret (M := M_X12_isDigit) dX12_isDigit_17 rfl (Nat.le_of_ble_eq_true rfl) (Nat.le_of_ble_eq_true rfl) ⟨rfl, rfl⟩
  refine z_iload_n (M := M_X12_isDigit) dX12_isDigit_0 rfl ?_
  refine z_bipush (M := M_X12_isDigit) dX12_isDigit_1 (by decide +kernel) ?_
  by_cases h_2 : 48 ≤ (w32 c_0)
  · refine z_icmp_lt_f (M := M_X12_isDigit) (tgt := 16) dX12_isDigit_3 (by decide) rfl (by decide +kernel) h_2 ?_
    refine z_iload_n (M := M_X12_isDigit) dX12_isDigit_6 rfl ?_
    refine z_bipush (M := M_X12_isDigit) dX12_isDigit_7 (by decide +kernel) ?_
    by_cases h_3 : (w32 c_0) ≤ 57
    · refine z_icmp_gt_f (M := M_X12_isDigit) (tgt := 16) dX12_isDigit_9 (by decide) rfl (by decide +kernel) h_3 ?_
      refine z_iconst (M := M_X12_isDigit) dX12_isDigit_12 ?_
      refine z_goto (M := M_X12_isDigit) (tgt := 17) dX12_isDigit_13 (by decide) ?_
      exact z_st (by rw [zv_t (p := (48 ≤ (w32 c_0)) ∧ ((w32 c_0) ≤ 57)) ⟨h_2, h_3⟩]) J_1
    · refine z_icmp_gt_t (M := M_X12_isDigit) (tgt := 16) dX12_isDigit_9 (by decide) rfl (by decide +kernel) (Int.not_le.mp h_3) ?_
      refine z_iconst (M := M_X12_isDigit) dX12_isDigit_16 ?_
      exact z_st (by rw [zv_f (p := (48 ≤ (w32 c_0)) ∧ ((w32 c_0) ≤ 57)) (fun q => h_3 q.2)]) J_1
  · refine z_icmp_lt_t (M := M_X12_isDigit) (tgt := 16) dX12_isDigit_3 (by decide) rfl (by decide +kernel) (Int.not_le.mp h_2) ?_
    refine z_iconst (M := M_X12_isDigit) dX12_isDigit_16 ?_
    exact z_st (by rw [zv_f (p := (48 ≤ (w32 c_0)) ∧ ((w32 c_0) ≤ 57)) (fun q => h_2 q.1)]) J_1
theorem c_X12_isSign (hl : l.stackTraces = false) {σ : SG} {c_0 : Int} {r : Bool}  (H : fR_isSign c_0 = r) : en_S l E M_X12_isSign 1 0 0 [vi c_0] σ (pS (some (zv r)) σ) := by
  unfold fR_isSign at H
  refine z_mk (lv := [some (vi c_0)]) m_X12_isSign rfl hl (Nat.le_of_ble_eq_true rfl) rfl ?_
  have J_1 : YY l E M_X12_isSign 1 0 0 (pS (some (zv r)) σ) 17 [some (vi c_0)] [zv (decide (((w32 c_0) = 43) ∨ ((w32 c_0) = 45)))] σ 0 0 := by
    cases H
    exact z_zret (M := M_X12_isSign) dX12_isSign_17 rfl (Nat.le_of_ble_eq_true rfl) (Nat.le_of_ble_eq_true rfl) ⟨rfl, rfl⟩
  refine z_iload_n (M := M_X12_isSign) dX12_isSign_0 rfl ?_
  refine z_bipush (M := M_X12_isSign) dX12_isSign_1 (by decide +kernel) ?_
  by_cases h_2 : (w32 c_0) = 43
  · refine z_icmp_eq_t (M := M_X12_isSign) (tgt := 12) dX12_isSign_3 (by decide) rfl (by decide +kernel) h_2 ?_
    refine z_iconst (M := M_X12_isSign) dX12_isSign_12 ?_
    refine z_goto (M := M_X12_isSign) (tgt := 17) dX12_isSign_13 (by decide) ?_
    exact z_st (by rw [zv_t (p := ((w32 c_0) = 43) ∨ ((w32 c_0) = 45)) (Or.inl h_2)]) J_1
  · refine z_icmp_eq_f (M := M_X12_isSign) (tgt := 12) dX12_isSign_3 (by decide) rfl (by decide +kernel) h_2 ?_
    refine z_iload_n (M := M_X12_isSign) dX12_isSign_6 rfl ?_
    refine z_bipush (M := M_X12_isSign) dX12_isSign_7 (by decide +kernel) ?_
    by_cases h_3 : (w32 c_0) = 45
    · refine z_icmp_ne_f (M := M_X12_isSign) (tgt := 16) dX12_isSign_9 (by decide) rfl (by decide +kernel) h_3 ?_
      refine z_iconst (M := M_X12_isSign) dX12_isSign_12 ?_
      refine z_goto (M := M_X12_isSign) (tgt := 17) dX12_isSign_13 (by decide) ?_
      exact z_st (by rw [zv_t (p := ((w32 c_0) = 43) ∨ ((w32 c_0) = 45)) (Or.inr h_3)]) J_1
    · refine z_icmp_ne_t (M := M_X12_isSign) (tgt := 16) dX12_isSign_9 (by decide) rfl (by decide +kernel) h_3 ?_
      refine z_iconst (M := M_X12_isSign) dX12_isSign_16 ?_
      exact z_st (by rw [zv_f (p := ((w32 c_0) = 43) ∨ ((w32 c_0) = 45)) (fun q => q.elim h_2 h_3)]) J_1
theorem c_X12_skip (hl : l.stackTraces = false) {σ : SG} {σ' : SG}  (H : fR_skip σ = some σ') : en_S l E M_X12_skip 2 0 0 [vr 277] σ (pS (none) σ') := by
  unfold fR_skip at H
  refine z_mk (lv := [some (vr 277)]) m_X12_skip rfl hl (Nat.le_of_ble_eq_true rfl) rfl ?_
  obtain ⟨rl_5, hw_2, hk_3⟩ := bd_e H
  have J_16 : ∀ σ_15, rl_5 = σ_15 → YY l E M_X12_skip 2 0 0 (pS (none) σ') 23 [some (vr 277)] [] σ_15 0 0 := by
    intro σ_15 e
    have H := hk_3
    rw [e] at H
    cases H
    exact z_vret (M := M_X12_skip) dX12_skip_23 rfl (Nat.le_of_ble_eq_true rfl) (Nat.le_of_ble_eq_true rfl) ⟨rfl, rfl⟩
  refine whl_go hw_2 (fun σ_1 => YY l E M_X12_skip 2 0 0 (pS (none) σ') 0 [some (vr 277)] [] σ_1 0 0) ?_
  rintro σ_1 o_6 H K_7 K_8
  refine z_aload_n (M := M_X12_skip) dX12_skip_0 rfl ?_
  obtain ⟨x_10, hc_9, H⟩ := bd_e H
  refine z_callV (M := M_X12_skip) (M' := M_X12_here) (as := []) (rest := []) rfl rfl dX12_skip_1 m_X12_here t_2860 t_2862 s_164 (c_X12_here hl  hc_9) rfl rfl ly_277 rfl (Nat.le_of_ble_eq_true rfl) (Nat.le_of_ble_eq_true rfl) (Nat.le_of_ble_eq_true rfl) (Nat.le_of_ble_eq_true rfl) ?_
  refine z_st (st' := [vi x_10]) rfl ?_
  refine z_callS (M := M_X12_skip) (M' := M_X12_isBlank) (as := [vi x_10]) (rest := []) rfl rfl dX12_skip_4 m_X12_isBlank t_2864 t_2865 (c_X12_isBlank hl  rfl) rfl rfl (Nat.le_of_ble_eq_true rfl) (Nat.le_of_ble_eq_true rfl) (Nat.le_of_ble_eq_true rfl) (Nat.le_of_ble_eq_true rfl) ?_
  refine z_st (st' := [zv (fR_isBlank x_10)]) rfl ?_
  rcases if_e H with ⟨h_11, H⟩ | ⟨h_11, H⟩
  · refine z_zeq_f (M := M_X12_skip) (tgt := 23) dX12_skip_7 (by decide) h_11 ?_
    refine z_aload_n (M := M_X12_skip) dX12_skip_10 rfl ?_
    refine z_dup (M := M_X12_skip) dX12_skip_11 rfl ?_
    refine z_getI (M := M_X12_skip) (ci := 15) (C := RX12) (T := TX12) (Nf := 135) (ty := tyX12) cl15 dX12_skip_12 ly_277 17 (by decide) t_2408 rfl rfl ?_
    refine z_iconst (M := M_X12_skip) dX12_skip_15 ?_
    refine z_iadd (M := M_X12_skip) dX12_skip_16 ?_
    obtain ⟨σ_12, σ_12_e, H⟩ := wf_e H
    refine z_putI (M := M_X12_skip) (ci := 15) (C := RX12) (T := TX12) (Nf := 135) (ty := tyX12) cl15 dX12_skip_17 ly_277 17 (by decide) t_2408 rfl rfl rfl rfl σ_12_e ?_
    refine z_goto (M := M_X12_skip) (tgt := 0) dX12_skip_20 (by decide) ?_
    exact K_7 _ (Option.some.inj H).symm
  · refine z_zeq_t (M := M_X12_skip) (tgt := 23) dX12_skip_7 (by decide) h_11 ?_
    exact J_16 _ (K_8 _ (Option.some.inj H).symm).symm
theorem c_X12_strange (hl : l.stackTraces = false) {σ : SG} {word_0 : Bool} {r : Bool} {σ' : SG}  (H : fR_strange σ word_0 = some (r, σ')) : en_S l E M_X12_strange 2 0 0 [vr 277, zv word_0] σ (pS (some (zv r)) σ') := by
  unfold fR_strange at H
  refine z_mk (lv := [some (vr 277), some (zv word_0), none, none]) m_X12_strange rfl hl (Nat.le_of_ble_eq_true rfl) rfl ?_
  refine z_aload_n (M := M_X12_strange) dX12_strange_0 rfl ?_
  obtain ⟨x_2, hc_1, H⟩ := bd_e H
  refine z_callV (M := M_X12_strange) (M' := M_X12_here) (as := []) (rest := []) rfl rfl dX12_strange_1 m_X12_here t_2860 t_2862 s_164 (c_X12_here hl  hc_1) rfl rfl ly_277 rfl (Nat.le_of_ble_eq_true rfl) (Nat.le_of_ble_eq_true rfl) (Nat.le_of_ble_eq_true rfl) (Nat.le_of_ble_eq_true rfl) ?_
  refine z_st (st' := [vi x_2]) rfl ?_
  refine z_istore_n (M := M_X12_strange) (lv' := [some (vr 277), some (zv word_0), some (vi x_2), none]) dX12_strange_4 (Nat.le_of_ble_eq_true rfl) rfl rfl ?_
  rcases if_e H with ⟨h_22, H⟩ | ⟨h_22, H⟩
  · have J_23 : YY l E M_X12_strange 2 0 0 (pS (some (zv r)) σ') 17 [some (vr 277), some (zv word_0), some (vi x_2), none] [] σ 0 0 := by
      refine z_aload_n (M := M_X12_strange) dX12_strange_17 rfl ?_
      have J_3 : YY l E M_X12_strange 2 0 0 (pS (some (zv r)) σ') 27 [some (vr 277), some (zv word_0), some (vi x_2), none] [vi (if word_0 = true then 2 else 3), vr 277] σ 0 0 := by
        refine z_aload_n (M := M_X12_strange) dX12_strange_27 rfl ?_
        refine z_getI (M := M_X12_strange) (ci := 15) (C := RX12) (T := TX12) (Nf := 135) (ty := tyX12) cl15 dX12_strange_28 ly_277 17 (by decide) t_2408 rfl rfl ?_
        obtain ⟨⟨x_6, σ_5⟩, hc_4, H⟩ := bd_e H
        refine z_callV (M := M_X12_strange) (M' := M_X12_wrong) (as := [vi (if word_0 = true then 2 else 3), vi (σ kR_at 0)]) (rest := []) rfl rfl dX12_strange_31 m_X12_wrong t_2874 t_2876 s_166 (c_X12_wrong hl  hc_4) rfl rfl ly_277 rfl (Nat.le_of_ble_eq_true rfl) (Nat.le_of_ble_eq_true rfl) (Nat.le_of_ble_eq_true rfl) (Nat.le_of_ble_eq_true rfl) ?_
        refine z_st (st' := [zv x_6]) rfl ?_
        cases H
        exact z_zret (M := M_X12_strange) dX12_strange_34 rfl (Nat.le_of_ble_eq_true rfl) (Nat.le_of_ble_eq_true rfl) ⟨rfl, rfl⟩
      refine z_zload_n (M := M_X12_strange) dX12_strange_18 rfl ?_
      by_cases h_7 : word_0 = true
      · refine z_zeq_f (M := M_X12_strange) (tgt := 26) dX12_strange_19 (by decide) h_7 ?_
        refine z_iconst (M := M_X12_strange) dX12_strange_22 ?_
        refine z_goto (M := M_X12_strange) (tgt := 27) dX12_strange_23 (by decide) ?_
        exact z_st (by rw [if_pos (c := word_0 = true) h_7]) J_3
      · refine z_zeq_t (M := M_X12_strange) (tgt := 26) dX12_strange_19 (by decide) h_7 ?_
        refine z_iconst (M := M_X12_strange) dX12_strange_26 ?_
        exact z_st (by rw [if_neg (c := word_0 = true) h_7]) J_3
    refine z_iload_n (M := M_X12_strange) dX12_strange_5 rfl ?_
    refine z_iconst (M := M_X12_strange) dX12_strange_6 ?_
    by_cases h_25 : ¬ (w32 x_2) = (-1)
    · refine z_icmp_eq_f (M := M_X12_strange) (tgt := 35) dX12_strange_7 (by decide) rfl (by decide +kernel) h_25 ?_
      refine z_iload_n (M := M_X12_strange) dX12_strange_10 rfl ?_
      refine z_callS (M := M_X12_strange) (M' := M_X12_isLetter) (as := [vi x_2]) (rest := []) rfl rfl dX12_strange_11 m_X12_isLetter t_2867 t_2868 (c_X12_isLetter hl  rfl) rfl rfl (Nat.le_of_ble_eq_true rfl) (Nat.le_of_ble_eq_true rfl) (Nat.le_of_ble_eq_true rfl) (Nat.le_of_ble_eq_true rfl) ?_
      refine z_st (st' := [zv (fR_isLetter x_2)]) rfl ?_
      by_cases h_26 : (fR_isLetter x_2) = true
      · refine z_zeq_f (M := M_X12_strange) (tgt := 35) dX12_strange_14 (by decide) h_26 ?_
        exact J_23
      · refine z_zeq_t (M := M_X12_strange) (tgt := 35) dX12_strange_14 (by decide) h_26 ?_
        exact absurd h_22 (fun q => h_26 q.2)
    · refine z_icmp_eq_t (M := M_X12_strange) (tgt := 35) dX12_strange_7 (by decide) rfl (by decide +kernel) (Decidable.not_not.mp h_25) ?_
      exact absurd h_22 (fun q => h_25 q.1)
  · have J_24 : YY l E M_X12_strange 2 0 0 (pS (some (zv r)) σ') 35 [some (vr 277), some (zv word_0), some (vi x_2), none] [] σ 0 0 := by
      have J_8 : YY l E M_X12_strange 2 0 0 (pS (some (zv r)) σ') 83 [some (vr 277), some (zv word_0), some (vi x_2), none] [zv (decide ((((((((w32 x_2) = (-1)) ∨ ((fR_isDigit x_2) = true)) ∨ ((fR_isSign x_2) = true)) ∨ ((w32 x_2) = 46)) ∨ ((w32 x_2) = 40)) ∨ ((w32 x_2) = 41)) ∨ ((w32 x_2) = 44)))] σ 0 0 := by
        obtain ⟨x_9, x_9_e, H⟩ := lt_e H
        refine z_st (congrArg (fun z => zv z :: []) x_9_e) ?_
        refine z_zstore_n (M := M_X12_strange) (lv' := [some (vr 277), some (zv word_0), some (vi x_2), some (zv x_9)]) dX12_strange_83 (Nat.le_of_ble_eq_true rfl) rfl rfl ?_
        refine z_aload_n (M := M_X12_strange) dX12_strange_84 rfl ?_
        have J_10 : YY l E M_X12_strange 2 0 0 (pS (some (zv r)) σ') 94 [some (vr 277), some (zv word_0), some (vi x_2), some (zv x_9)] [vi (if x_9 = true then 3 else 1), vr 277] σ 0 0 := by
          refine z_aload_n (M := M_X12_strange) dX12_strange_94 rfl ?_
          refine z_getI (M := M_X12_strange) (ci := 15) (C := RX12) (T := TX12) (Nf := 135) (ty := tyX12) cl15 dX12_strange_95 ly_277 17 (by decide) t_2408 rfl rfl ?_
          obtain ⟨⟨x_13, σ_12⟩, hc_11, H⟩ := bd_e H
          refine z_callV (M := M_X12_strange) (M' := M_X12_wrong) (as := [vi (if x_9 = true then 3 else 1), vi (σ kR_at 0)]) (rest := []) rfl rfl dX12_strange_98 m_X12_wrong t_2874 t_2876 s_166 (c_X12_wrong hl  hc_11) rfl rfl ly_277 rfl (Nat.le_of_ble_eq_true rfl) (Nat.le_of_ble_eq_true rfl) (Nat.le_of_ble_eq_true rfl) (Nat.le_of_ble_eq_true rfl) ?_
          refine z_st (st' := [zv x_13]) rfl ?_
          cases H
          exact z_zret (M := M_X12_strange) dX12_strange_101 rfl (Nat.le_of_ble_eq_true rfl) (Nat.le_of_ble_eq_true rfl) ⟨rfl, rfl⟩
        refine z_zload_n (M := M_X12_strange) dX12_strange_85 rfl ?_
        by_cases h_14 : x_9 = true
        · refine z_zeq_f (M := M_X12_strange) (tgt := 93) dX12_strange_86 (by decide) h_14 ?_
          refine z_iconst (M := M_X12_strange) dX12_strange_89 ?_
          refine z_goto (M := M_X12_strange) (tgt := 94) dX12_strange_90 (by decide) ?_
          exact z_st (by rw [if_pos (c := x_9 = true) h_14]) J_10
        · refine z_zeq_t (M := M_X12_strange) (tgt := 93) dX12_strange_86 (by decide) h_14 ?_
          refine z_iconst (M := M_X12_strange) dX12_strange_93 ?_
          exact z_st (by rw [if_neg (c := x_9 = true) h_14]) J_10
      refine z_iload_n (M := M_X12_strange) dX12_strange_35 rfl ?_
      refine z_iconst (M := M_X12_strange) dX12_strange_36 ?_
      by_cases h_15 : (w32 x_2) = (-1)
      · refine z_icmp_eq_t (M := M_X12_strange) (tgt := 78) dX12_strange_37 (by decide) rfl (by decide +kernel) h_15 ?_
        refine z_iconst (M := M_X12_strange) dX12_strange_78 ?_
        refine z_goto (M := M_X12_strange) (tgt := 83) dX12_strange_79 (by decide) ?_
        exact z_st (by rw [zv_t (p := (((((((w32 x_2) = (-1)) ∨ ((fR_isDigit x_2) = true)) ∨ ((fR_isSign x_2) = true)) ∨ ((w32 x_2) = 46)) ∨ ((w32 x_2) = 40)) ∨ ((w32 x_2) = 41)) ∨ ((w32 x_2) = 44)) (Or.inl (Or.inl (Or.inl (Or.inl (Or.inl (Or.inl h_15))))))]) J_8
      · refine z_icmp_eq_f (M := M_X12_strange) (tgt := 78) dX12_strange_37 (by decide) rfl (by decide +kernel) h_15 ?_
        refine z_iload_n (M := M_X12_strange) dX12_strange_40 rfl ?_
        refine z_callS (M := M_X12_strange) (M' := M_X12_isDigit) (as := [vi x_2]) (rest := []) rfl rfl dX12_strange_41 m_X12_isDigit t_2878 t_2879 (c_X12_isDigit hl  rfl) rfl rfl (Nat.le_of_ble_eq_true rfl) (Nat.le_of_ble_eq_true rfl) (Nat.le_of_ble_eq_true rfl) (Nat.le_of_ble_eq_true rfl) ?_
        refine z_st (st' := [zv (fR_isDigit x_2)]) rfl ?_
        by_cases h_16 : (fR_isDigit x_2) = true
        · refine z_zne_t (M := M_X12_strange) (tgt := 78) dX12_strange_44 (by decide) h_16 ?_
          refine z_iconst (M := M_X12_strange) dX12_strange_78 ?_
          refine z_goto (M := M_X12_strange) (tgt := 83) dX12_strange_79 (by decide) ?_
          exact z_st (by rw [zv_t (p := (((((((w32 x_2) = (-1)) ∨ ((fR_isDigit x_2) = true)) ∨ ((fR_isSign x_2) = true)) ∨ ((w32 x_2) = 46)) ∨ ((w32 x_2) = 40)) ∨ ((w32 x_2) = 41)) ∨ ((w32 x_2) = 44)) (Or.inl (Or.inl (Or.inl (Or.inl (Or.inl (Or.inr h_16))))))]) J_8
        · refine z_zne_f (M := M_X12_strange) (tgt := 78) dX12_strange_44 (by decide) h_16 ?_
          refine z_iload_n (M := M_X12_strange) dX12_strange_47 rfl ?_
          refine z_callS (M := M_X12_strange) (M' := M_X12_isSign) (as := [vi x_2]) (rest := []) rfl rfl dX12_strange_48 m_X12_isSign t_2881 t_2882 (c_X12_isSign hl  rfl) rfl rfl (Nat.le_of_ble_eq_true rfl) (Nat.le_of_ble_eq_true rfl) (Nat.le_of_ble_eq_true rfl) (Nat.le_of_ble_eq_true rfl) ?_
          refine z_st (st' := [zv (fR_isSign x_2)]) rfl ?_
          by_cases h_17 : (fR_isSign x_2) = true
          · refine z_zne_t (M := M_X12_strange) (tgt := 78) dX12_strange_51 (by decide) h_17 ?_
            refine z_iconst (M := M_X12_strange) dX12_strange_78 ?_
            refine z_goto (M := M_X12_strange) (tgt := 83) dX12_strange_79 (by decide) ?_
            exact z_st (by rw [zv_t (p := (((((((w32 x_2) = (-1)) ∨ ((fR_isDigit x_2) = true)) ∨ ((fR_isSign x_2) = true)) ∨ ((w32 x_2) = 46)) ∨ ((w32 x_2) = 40)) ∨ ((w32 x_2) = 41)) ∨ ((w32 x_2) = 44)) (Or.inl (Or.inl (Or.inl (Or.inl (Or.inr h_17)))))]) J_8
          · refine z_zne_f (M := M_X12_strange) (tgt := 78) dX12_strange_51 (by decide) h_17 ?_
            refine z_iload_n (M := M_X12_strange) dX12_strange_54 rfl ?_
            refine z_bipush (M := M_X12_strange) dX12_strange_55 (by decide +kernel) ?_
            by_cases h_18 : (w32 x_2) = 46
            · refine z_icmp_eq_t (M := M_X12_strange) (tgt := 78) dX12_strange_57 (by decide) rfl (by decide +kernel) h_18 ?_
              refine z_iconst (M := M_X12_strange) dX12_strange_78 ?_
              refine z_goto (M := M_X12_strange) (tgt := 83) dX12_strange_79 (by decide) ?_
              exact z_st (by rw [zv_t (p := (((((((w32 x_2) = (-1)) ∨ ((fR_isDigit x_2) = true)) ∨ ((fR_isSign x_2) = true)) ∨ ((w32 x_2) = 46)) ∨ ((w32 x_2) = 40)) ∨ ((w32 x_2) = 41)) ∨ ((w32 x_2) = 44)) (Or.inl (Or.inl (Or.inl (Or.inr h_18))))]) J_8
            · refine z_icmp_eq_f (M := M_X12_strange) (tgt := 78) dX12_strange_57 (by decide) rfl (by decide +kernel) h_18 ?_
              refine z_iload_n (M := M_X12_strange) dX12_strange_60 rfl ?_
              refine z_bipush (M := M_X12_strange) dX12_strange_61 (by decide +kernel) ?_
              by_cases h_19 : (w32 x_2) = 40
              · refine z_icmp_eq_t (M := M_X12_strange) (tgt := 78) dX12_strange_63 (by decide) rfl (by decide +kernel) h_19 ?_
                refine z_iconst (M := M_X12_strange) dX12_strange_78 ?_
                refine z_goto (M := M_X12_strange) (tgt := 83) dX12_strange_79 (by decide) ?_
                exact z_st (by rw [zv_t (p := (((((((w32 x_2) = (-1)) ∨ ((fR_isDigit x_2) = true)) ∨ ((fR_isSign x_2) = true)) ∨ ((w32 x_2) = 46)) ∨ ((w32 x_2) = 40)) ∨ ((w32 x_2) = 41)) ∨ ((w32 x_2) = 44)) (Or.inl (Or.inl (Or.inr h_19)))]) J_8
              · refine z_icmp_eq_f (M := M_X12_strange) (tgt := 78) dX12_strange_63 (by decide) rfl (by decide +kernel) h_19 ?_
                refine z_iload_n (M := M_X12_strange) dX12_strange_66 rfl ?_
                refine z_bipush (M := M_X12_strange) dX12_strange_67 (by decide +kernel) ?_
                by_cases h_20 : (w32 x_2) = 41
                · refine z_icmp_eq_t (M := M_X12_strange) (tgt := 78) dX12_strange_69 (by decide) rfl (by decide +kernel) h_20 ?_
                  refine z_iconst (M := M_X12_strange) dX12_strange_78 ?_
                  refine z_goto (M := M_X12_strange) (tgt := 83) dX12_strange_79 (by decide) ?_
                  exact z_st (by rw [zv_t (p := (((((((w32 x_2) = (-1)) ∨ ((fR_isDigit x_2) = true)) ∨ ((fR_isSign x_2) = true)) ∨ ((w32 x_2) = 46)) ∨ ((w32 x_2) = 40)) ∨ ((w32 x_2) = 41)) ∨ ((w32 x_2) = 44)) (Or.inl (Or.inr h_20))]) J_8
                · refine z_icmp_eq_f (M := M_X12_strange) (tgt := 78) dX12_strange_69 (by decide) rfl (by decide +kernel) h_20 ?_
                  refine z_iload_n (M := M_X12_strange) dX12_strange_72 rfl ?_
                  refine z_bipush (M := M_X12_strange) dX12_strange_73 (by decide +kernel) ?_
                  by_cases h_21 : (w32 x_2) = 44
                  · refine z_icmp_ne_f (M := M_X12_strange) (tgt := 82) dX12_strange_75 (by decide) rfl (by decide +kernel) h_21 ?_
                    refine z_iconst (M := M_X12_strange) dX12_strange_78 ?_
                    refine z_goto (M := M_X12_strange) (tgt := 83) dX12_strange_79 (by decide) ?_
                    exact z_st (by rw [zv_t (p := (((((((w32 x_2) = (-1)) ∨ ((fR_isDigit x_2) = true)) ∨ ((fR_isSign x_2) = true)) ∨ ((w32 x_2) = 46)) ∨ ((w32 x_2) = 40)) ∨ ((w32 x_2) = 41)) ∨ ((w32 x_2) = 44)) (Or.inr h_21)]) J_8
                  · refine z_icmp_ne_t (M := M_X12_strange) (tgt := 82) dX12_strange_75 (by decide) rfl (by decide +kernel) h_21 ?_
                    refine z_iconst (M := M_X12_strange) dX12_strange_82 ?_
                    exact z_st (by rw [zv_f (p := (((((((w32 x_2) = (-1)) ∨ ((fR_isDigit x_2) = true)) ∨ ((fR_isSign x_2) = true)) ∨ ((w32 x_2) = 46)) ∨ ((w32 x_2) = 40)) ∨ ((w32 x_2) = 41)) ∨ ((w32 x_2) = 44)) (fun q => q.elim (fun q => q.elim (fun q => q.elim (fun q => q.elim (fun q => q.elim (fun q => q.elim h_15 h_16) h_17) h_18) h_19) h_20) h_21)]) J_8
    refine z_iload_n (M := M_X12_strange) dX12_strange_5 rfl ?_
    refine z_iconst (M := M_X12_strange) dX12_strange_6 ?_
    by_cases h_27 : ¬ (w32 x_2) = (-1)
    · refine z_icmp_eq_f (M := M_X12_strange) (tgt := 35) dX12_strange_7 (by decide) rfl (by decide +kernel) h_27 ?_
      refine z_iload_n (M := M_X12_strange) dX12_strange_10 rfl ?_
      refine z_callS (M := M_X12_strange) (M' := M_X12_isLetter) (as := [vi x_2]) (rest := []) rfl rfl dX12_strange_11 m_X12_isLetter t_2867 t_2868 (c_X12_isLetter hl  rfl) rfl rfl (Nat.le_of_ble_eq_true rfl) (Nat.le_of_ble_eq_true rfl) (Nat.le_of_ble_eq_true rfl) (Nat.le_of_ble_eq_true rfl) ?_
      refine z_st (st' := [zv (fR_isLetter x_2)]) rfl ?_
      by_cases h_28 : (fR_isLetter x_2) = true
      · refine z_zeq_f (M := M_X12_strange) (tgt := 35) dX12_strange_14 (by decide) h_28 ?_
        exact absurd ⟨h_27, h_28⟩ h_22
      · refine z_zeq_t (M := M_X12_strange) (tgt := 35) dX12_strange_14 (by decide) h_28 ?_
        exact J_24
    · refine z_icmp_eq_t (M := M_X12_strange) (tgt := 35) dX12_strange_7 (by decide) rfl (by decide +kernel) (Decidable.not_not.mp h_27) ?_
      exact J_24
theorem c_X12_large (hl : l.stackTraces = false) {σ : SG} {c_0 : Int} {r : Int}  (H : fR_large c_0 = r) : en_S l E M_X12_large 1 0 0 [vi c_0] σ (pS (some (vi r)) σ) := by
  unfold fR_large at H
  refine z_mk (lv := [some (vi c_0)]) m_X12_large rfl hl (Nat.le_of_ble_eq_true rfl) rfl ?_
  have J_1 : YY l E M_X12_large 1 0 0 (pS (some (vi r)) σ) 20 [some (vi c_0)] [vi (if (97 ≤ (w32 c_0)) ∧ ((w32 c_0) ≤ 122) then (c_0 - 32) else c_0)] σ 0 0 := by
    cases H
    exact z_iret (M := M_X12_large) dX12_large_20 rfl (Nat.le_of_ble_eq_true rfl) (Nat.le_of_ble_eq_true rfl) ⟨rfl, rfl⟩
  refine z_iload_n (M := M_X12_large) dX12_large_0 rfl ?_
  refine z_bipush (M := M_X12_large) dX12_large_1 (by decide +kernel) ?_
  by_cases h_2 : 97 ≤ (w32 c_0)
  · refine z_icmp_lt_f (M := M_X12_large) (tgt := 19) dX12_large_3 (by decide) rfl (by decide +kernel) h_2 ?_
    refine z_iload_n (M := M_X12_large) dX12_large_6 rfl ?_
    refine z_bipush (M := M_X12_large) dX12_large_7 (by decide +kernel) ?_
    by_cases h_3 : (w32 c_0) ≤ 122
    · refine z_icmp_gt_f (M := M_X12_large) (tgt := 19) dX12_large_9 (by decide) rfl (by decide +kernel) h_3 ?_
      refine z_iload_n (M := M_X12_large) dX12_large_12 rfl ?_
      refine z_bipush (M := M_X12_large) dX12_large_13 (by decide +kernel) ?_
      refine z_isub (M := M_X12_large) dX12_large_15 ?_
      refine z_goto (M := M_X12_large) (tgt := 20) dX12_large_16 (by decide) ?_
      exact z_st (by rw [if_pos (c := (97 ≤ (w32 c_0)) ∧ ((w32 c_0) ≤ 122)) ⟨h_2, h_3⟩]) J_1
    · refine z_icmp_gt_t (M := M_X12_large) (tgt := 19) dX12_large_9 (by decide) rfl (by decide +kernel) (Int.not_le.mp h_3) ?_
      refine z_iload_n (M := M_X12_large) dX12_large_19 rfl ?_
      exact z_st (by rw [if_neg (c := (97 ≤ (w32 c_0)) ∧ ((w32 c_0) ≤ 122)) (fun q => h_3 q.2)]) J_1
  · refine z_icmp_lt_t (M := M_X12_large) (tgt := 19) dX12_large_3 (by decide) rfl (by decide +kernel) (Int.not_le.mp h_2) ?_
    refine z_iload_n (M := M_X12_large) dX12_large_19 rfl ?_
    exact z_st (by rw [if_neg (c := (97 ≤ (w32 c_0)) ∧ ((w32 c_0) ≤ 122)) (fun q => h_2 q.1)]) J_1
theorem c_X12_pair (hl : l.stackTraces = false) {σ : SG} {kind_0 : Int} {r : Bool} {σ' : SG}  (H : fR_pair σ kind_0 = some (r, σ')) : en_S l E M_X12_pair 3 0 0 [vr 277, vi kind_0] σ (pS (some (zv r)) σ') := by
  unfold fR_pair at H
  refine z_mk (lv := [some (vr 277), some (vi kind_0)]) m_X12_pair rfl hl (Nat.le_of_ble_eq_true rfl) rfl ?_
  refine z_aload_n (M := M_X12_pair) dX12_pair_0 rfl ?_
  obtain ⟨σ_2, hc_1, H⟩ := bd_e H
  refine z_callV (M := M_X12_pair) (M' := M_X12_skip) (as := []) (rest := []) rfl rfl dX12_pair_1 m_X12_skip t_2856 t_2858 s_163 (c_X12_skip hl  hc_1) rfl rfl ly_277 rfl (Nat.le_of_ble_eq_true rfl) (Nat.le_of_ble_eq_true rfl) (Nat.le_of_ble_eq_true rfl) (Nat.le_of_ble_eq_true rfl) ?_
  refine z_st (st' := []) rfl ?_
  refine z_aload_n (M := M_X12_pair) dX12_pair_4 rfl ?_
  refine z_getR (M := M_X12_pair) (ci := 15) (C := RX12) (T := TX12) (Nf := 135) (ty := tyX12) cl15 dX12_pair_5 ly_277 9 (by decide) t_2400 rfl ?_
  refine z_bipush (M := M_X12_pair) dX12_pair_8 (by decide +kernel) ?_
  obtain ⟨x_3, x_3_e, hi_4, H⟩ := rd_e H
  refine z_iald (M := M_X12_pair) dX12_pair_10 ly_280 rfl (by decide +kernel) rfl hi_4 x_3_e ?_
  refine z_iconst (M := M_X12_pair) dX12_pair_11 ?_
  refine z_iadd (M := M_X12_pair) dX12_pair_12 ?_
  refine z_sipush (M := M_X12_pair) dX12_pair_13 (by decide +kernel) ?_
  rcases if_e H with ⟨h_5, H⟩ | ⟨h_5, H⟩
  · refine z_icmp_le_f (M := M_X12_pair) (tgt := 30) dX12_pair_16 (by decide) rfl (by decide +kernel) h_5 ?_
    refine z_aload_n (M := M_X12_pair) dX12_pair_19 rfl ?_
    refine z_bipush (M := M_X12_pair) dX12_pair_20 (by decide +kernel) ?_
    refine z_aload_n (M := M_X12_pair) dX12_pair_22 rfl ?_
    refine z_getI (M := M_X12_pair) (ci := 15) (C := RX12) (T := TX12) (Nf := 135) (ty := tyX12) cl15 dX12_pair_23 ly_277 17 (by decide) t_2408 rfl rfl ?_
    obtain ⟨⟨x_8, σ_7⟩, hc_6, H⟩ := bd_e H
    refine z_callV (M := M_X12_pair) (M' := M_X12_wrong) (as := [vi 7, vi (σ_2 kR_at 0)]) (rest := []) rfl rfl dX12_pair_26 m_X12_wrong t_2874 t_2876 s_166 (c_X12_wrong hl  hc_6) rfl rfl ly_277 rfl (Nat.le_of_ble_eq_true rfl) (Nat.le_of_ble_eq_true rfl) (Nat.le_of_ble_eq_true rfl) (Nat.le_of_ble_eq_true rfl) ?_
    refine z_st (st' := [zv x_8]) rfl ?_
    cases H
    exact z_zret (M := M_X12_pair) dX12_pair_29 rfl (Nat.le_of_ble_eq_true rfl) (Nat.le_of_ble_eq_true rfl) ⟨rfl, rfl⟩
  · refine z_icmp_le_t (M := M_X12_pair) (tgt := 30) dX12_pair_16 (by decide) rfl (by decide +kernel) (Int.not_lt.mp h_5) ?_
    refine z_aload_n (M := M_X12_pair) dX12_pair_30 rfl ?_
    refine z_iload_n (M := M_X12_pair) dX12_pair_31 rfl ?_
    obtain ⟨σ_10, hc_9, H⟩ := bd_e H
    refine z_callV (M := M_X12_pair) (M' := M_X12_tell) (as := [vi kind_0]) (rest := []) rfl rfl dX12_pair_32 m_X12_tell t_2902 t_2904 s_170 (c_X12_tell hl  hc_9) rfl rfl ly_277 rfl (Nat.le_of_ble_eq_true rfl) (Nat.le_of_ble_eq_true rfl) (Nat.le_of_ble_eq_true rfl) (Nat.le_of_ble_eq_true rfl) ?_
    refine z_st (st' := []) rfl ?_
    refine z_aload_n (M := M_X12_pair) dX12_pair_35 rfl ?_
    refine z_iconst (M := M_X12_pair) dX12_pair_36 ?_
    obtain ⟨σ_12, hc_11, H⟩ := bd_e H
    refine z_callV (M := M_X12_pair) (M' := M_X12_tell) (as := [vi 0]) (rest := []) rfl rfl dX12_pair_37 m_X12_tell t_2902 t_2904 s_170 (c_X12_tell hl  hc_11) rfl rfl ly_277 rfl (Nat.le_of_ble_eq_true rfl) (Nat.le_of_ble_eq_true rfl) (Nat.le_of_ble_eq_true rfl) (Nat.le_of_ble_eq_true rfl) ?_
    refine z_st (st' := []) rfl ?_
    refine z_zconst (M := M_X12_pair) (b := true) dX12_pair_40 rfl ?_
    cases H
    exact z_zret (M := M_X12_pair) dX12_pair_41 rfl (Nat.le_of_ble_eq_true rfl) (Nat.le_of_ble_eq_true rfl) ⟨rfl, rfl⟩
theorem c_X12_more (hl : l.stackTraces = false) {σ : SG} {number_0 : Int} {σ' : SG}  (H : fR_more σ number_0 = some σ') : en_S l E M_X12_more 1 0 0 [vr 277, vi number_0] σ (pS (none) σ') := by
  unfold fR_more at H
  refine z_mk (lv := [some (vr 277), some (vi number_0)]) m_X12_more rfl hl (Nat.le_of_ble_eq_true rfl) rfl ?_
  refine z_aload_n (M := M_X12_more) dX12_more_0 rfl ?_
  refine z_getR (M := M_X12_more) (ci := 15) (C := RX12) (T := TX12) (Nf := 135) (ty := tyX12) cl15 dX12_more_1 ly_277 10 (by decide) t_2401 rfl ?_
  refine z_ldc (M := M_X12_more) (n := 65536) dX12_more_4 t_2385 (by decide +kernel) ?_
  refine z_iload_n (M := M_X12_more) dX12_more_6 rfl ?_
  refine z_iadd (M := M_X12_more) dX12_more_7 ?_
  refine z_dup2 (M := M_X12_more) dX12_more_8 rfl rfl ?_
  obtain ⟨x_1, x_1_e, hi_2, H⟩ := rd_e H
  refine z_iald (M := M_X12_more) dX12_more_9 ly_281 rfl rfl rfl hi_2 x_1_e ?_
  refine z_iconst (M := M_X12_more) dX12_more_10 ?_
  refine z_iadd (M := M_X12_more) dX12_more_11 ?_
  obtain ⟨σ_3, σ_3_e, hi_4, H⟩ := wa_e H
  refine z_iast (M := M_X12_more) dX12_more_12 ly_281 rfl rfl rfl hi_4 σ_3_e ?_
  cases H
  exact z_vret (M := M_X12_more) dX12_more_13 rfl (Nat.le_of_ble_eq_true rfl) (Nat.le_of_ble_eq_true rfl) ⟨rfl, rfl⟩
theorem c_X12_closes (hl : l.stackTraces = false) {σ : SG} {r : Bool} {σ' : SG}  (H : fR_closes σ = some (r, σ')) : en_S l E M_X12_closes 3 0 0 [vr 277] σ (pS (some (zv r)) σ') := by
  unfold fR_closes at H
  refine z_mk (lv := [some (vr 277)]) m_X12_closes rfl hl (Nat.le_of_ble_eq_true rfl) rfl ?_
  refine z_aload_n (M := M_X12_closes) dX12_closes_0 rfl ?_
  obtain ⟨σ_2, hc_1, H⟩ := bd_e H
  refine z_callV (M := M_X12_closes) (M' := M_X12_skip) (as := []) (rest := []) rfl rfl dX12_closes_1 m_X12_skip t_2856 t_2858 s_163 (c_X12_skip hl  hc_1) rfl rfl ly_277 rfl (Nat.le_of_ble_eq_true rfl) (Nat.le_of_ble_eq_true rfl) (Nat.le_of_ble_eq_true rfl) (Nat.le_of_ble_eq_true rfl) ?_
  refine z_st (st' := []) rfl ?_
  refine z_aload_n (M := M_X12_closes) dX12_closes_4 rfl ?_
  obtain ⟨x_4, hc_3, H⟩ := bd_e H
  refine z_callV (M := M_X12_closes) (M' := M_X12_here) (as := []) (rest := []) rfl rfl dX12_closes_5 m_X12_here t_2860 t_2862 s_164 (c_X12_here hl  hc_3) rfl rfl ly_277 rfl (Nat.le_of_ble_eq_true rfl) (Nat.le_of_ble_eq_true rfl) (Nat.le_of_ble_eq_true rfl) (Nat.le_of_ble_eq_true rfl) ?_
  refine z_st (st' := [vi x_4]) rfl ?_
  refine z_bipush (M := M_X12_closes) dX12_closes_8 (by decide +kernel) ?_
  rcases if_e H with ⟨h_5, H⟩ | ⟨h_5, H⟩
  · refine z_icmp_eq_f (M := M_X12_closes) (tgt := 19) dX12_closes_10 (by decide) rfl (by decide +kernel) h_5 ?_
    refine z_aload_n (M := M_X12_closes) dX12_closes_13 rfl ?_
    refine z_zconst (M := M_X12_closes) (b := false) dX12_closes_14 rfl ?_
    obtain ⟨⟨x_8, σ_7⟩, hc_6, H⟩ := bd_e H
    refine z_callV (M := M_X12_closes) (M' := M_X12_strange) (as := [zv false]) (rest := []) rfl rfl dX12_closes_15 m_X12_strange t_2870 t_2872 s_165 (c_X12_strange hl  hc_6) rfl rfl ly_277 rfl (Nat.le_of_ble_eq_true rfl) (Nat.le_of_ble_eq_true rfl) (Nat.le_of_ble_eq_true rfl) (Nat.le_of_ble_eq_true rfl) ?_
    refine z_st (st' := [zv x_8]) rfl ?_
    cases H
    exact z_zret (M := M_X12_closes) dX12_closes_18 rfl (Nat.le_of_ble_eq_true rfl) (Nat.le_of_ble_eq_true rfl) ⟨rfl, rfl⟩
  · refine z_icmp_eq_t (M := M_X12_closes) (tgt := 19) dX12_closes_10 (by decide) rfl (by decide +kernel) (Decidable.not_not.mp h_5) ?_
    refine z_aload_n (M := M_X12_closes) dX12_closes_19 rfl ?_
    refine z_dup (M := M_X12_closes) dX12_closes_20 rfl ?_
    refine z_getI (M := M_X12_closes) (ci := 15) (C := RX12) (T := TX12) (Nf := 135) (ty := tyX12) cl15 dX12_closes_21 ly_277 17 (by decide) t_2408 rfl rfl ?_
    refine z_iconst (M := M_X12_closes) dX12_closes_24 ?_
    refine z_iadd (M := M_X12_closes) dX12_closes_25 ?_
    obtain ⟨σ_9, σ_9_e, H⟩ := wf_e H
    refine z_putI (M := M_X12_closes) (ci := 15) (C := RX12) (T := TX12) (Nf := 135) (ty := tyX12) cl15 dX12_closes_26 ly_277 17 (by decide) t_2408 rfl rfl rfl rfl σ_9_e ?_
    refine z_zconst (M := M_X12_closes) (b := true) dX12_closes_29 rfl ?_
    cases H
    exact z_zret (M := M_X12_closes) dX12_closes_30 rfl (Nat.le_of_ble_eq_true rfl) (Nat.le_of_ble_eq_true rfl) ⟨rfl, rfl⟩
end LFAM
