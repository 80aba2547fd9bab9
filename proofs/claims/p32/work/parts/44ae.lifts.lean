section LFAE
variable {l : Launch} {E : EE}
theorem c_X1_innerFault (hl : l.stackTraces = false) {σ : SG} {parts_0 : Int} {r : Int} {σ' : SG}  (H : fJ_innerFault σ parts_0 = some (r, σ')) : en_S l E M_X1_innerFault 7 0 0 [vr 177, vi parts_0] σ (pS (some (vi r)) σ') := by
  unfold fJ_innerFault at H
  refine z_mk (lv := [some (vr 177), some (vi parts_0), none, none]) m_X1_innerFault rfl hl (Nat.le_of_ble_eq_true rfl) rfl ?_
  refine z_iconst (M := M_X1_innerFault) dX1_innerFault_0 ?_
  refine z_istore_n (M := M_X1_innerFault) (lv' := [some (vr 177), some (vi parts_0), some (vi 0), none]) dX1_innerFault_1 (Nat.le_of_ble_eq_true rfl) rfl rfl ?_
  obtain ⟨rl_6, hw_3, hk_4, hk_5⟩ := bx_e H
  have J_60 : ∀ part_58 σ_59, rl_6 = (.inl (part_58, σ_59)) → YY l E M_X1_innerFault 7 0 0 (pS (some (vi r)) σ') 62 [some (vr 177), some (vi parts_0), some (vi part_58), none] [] σ_59 0 0 := by
    intro part_58 σ_59 e
    have H := hk_4 _ e
    refine z_iconst (M := M_X1_innerFault) dX1_innerFault_62 ?_
    cases H
    exact z_iret (M := M_X1_innerFault) dX1_innerFault_63 rfl (Nat.le_of_ble_eq_true rfl) (Nat.le_of_ble_eq_true rfl) ⟨rfl, rfl⟩
  refine whl_go hw_3 (fun (part_1, σ_2) => YY l E M_X1_innerFault 7 0 0 (pS (some (vi r)) σ') 2 [some (vr 177), some (vi parts_0), some (vi part_1), none] [] σ_2 0 0) ?_
  rintro ⟨part_1, σ_2⟩ o_7 H K_8 K_9
  refine z_iload_n (M := M_X1_innerFault) dX1_innerFault_2 rfl ?_
  refine z_iload_n (M := M_X1_innerFault) dX1_innerFault_3 rfl ?_
  rcases if_e H with ⟨h_10, H⟩ | ⟨h_10, H⟩
  · refine z_icmp_ge_f (M := M_X1_innerFault) (tgt := 62) dX1_innerFault_4 (by decide) rfl rfl h_10 ?_
    refine z_iload_n (M := M_X1_innerFault) dX1_innerFault_7 rfl ?_
    refine z_iconst (M := M_X1_innerFault) dX1_innerFault_8 ?_
    refine z_iadd (M := M_X1_innerFault) dX1_innerFault_9 ?_
    refine z_istore_n (M := M_X1_innerFault) (lv' := [some (vr 177), some (vi parts_0), some (vi part_1), some (vi (part_1 + 1))]) dX1_innerFault_10 (Nat.le_of_ble_eq_true rfl) rfl rfl ?_
    obtain ⟨rl_16, hw_13, hk_14, hk_15⟩ := bx_e H
    have J_56 : ∀ other_53 σ_54, rl_16 = (.inl (other_53, σ_54)) → YY l E M_X1_innerFault 7 0 0 (pS (some (vi r)) σ') 56 [some (vr 177), some (vi parts_0), some (vi part_1), some (vi other_53)] [] σ_54 0 0 := by
      intro other_53 σ_54 e
      have H := hk_14 _ e
      refine z_iinc (M := M_X1_innerFault) (lv' := [some (vr 177), some (vi parts_0), some (vi (part_1 + 1)), some (vi other_53)]) dX1_innerFault_56 rfl (Nat.le_of_ble_eq_true rfl) rfl rfl ?_
      refine z_goto (M := M_X1_innerFault) (tgt := 2) dX1_innerFault_59 (by decide) ?_
      refine z_le (lv' := [some (vr 177), some (vi parts_0), some (vi (part_1 + 1)), none]) ⟨Or.inr rfl, Or.inr rfl, Or.inr rfl, Or.inl rfl, trivial⟩ ?_
      exact K_8 _ (Option.some.inj H).symm
    refine whl_go hw_13 (fun (other_11, σ_12) => YY l E M_X1_innerFault 7 0 0 (pS (some (vi r)) σ') 11 [some (vr 177), some (vi parts_0), some (vi part_1), some (vi other_11)] [] σ_12 0 0) ?_
    rintro ⟨other_11, σ_12⟩ o_17 H K_18 K_19
    refine z_iload_n (M := M_X1_innerFault) dX1_innerFault_11 rfl ?_
    refine z_iload_n (M := M_X1_innerFault) dX1_innerFault_12 rfl ?_
    rcases if_e H with ⟨h_20, H⟩ | ⟨h_20, H⟩
    · refine z_icmp_ge_f (M := M_X1_innerFault) (tgt := 56) dX1_innerFault_13 (by decide) rfl rfl h_20 ?_
      refine z_aload_n (M := M_X1_innerFault) dX1_innerFault_16 rfl ?_
      refine z_iload_n (M := M_X1_innerFault) dX1_innerFault_17 rfl ?_
      refine z_iload_n (M := M_X1_innerFault) dX1_innerFault_18 rfl ?_
      obtain ⟨x_36, hc_35, H⟩ := bd_e H
      refine z_callV (M := M_X1_innerFault) (M' := M_X1_liesInPart) (as := [vi part_1, vi other_11]) (rest := []) rfl rfl dX1_innerFault_19 m_X1_liesInPart t_1358 t_1360 s_67 (c_X1_liesInPart hl  hc_35) rfl rfl ly_177 rfl (Nat.le_of_ble_eq_true rfl) (Nat.le_of_ble_eq_true rfl) (Nat.le_of_ble_eq_true rfl) (Nat.le_of_ble_eq_true rfl) ?_
      refine z_st (st' := [zv x_36]) rfl ?_
      rcases if_e H with ⟨h_37, H⟩ | ⟨h_37, H⟩
      · refine z_zne_t (M := M_X1_innerFault) (tgt := 34) dX1_innerFault_22 (by decide) h_37 ?_
        refine z_aload_n (M := M_X1_innerFault) dX1_innerFault_34 rfl ?_
        refine z_getR (M := M_X1_innerFault) (ci := 4) (C := RX1) (T := TX1) (Nf := 11) (ty := tyX1) cl4 dX1_innerFault_35 ly_177 0 (by decide) t_284 rfl ?_
        refine z_iconst (M := M_X1_innerFault) dX1_innerFault_38 ?_
        refine z_iload_n (M := M_X1_innerFault) dX1_innerFault_39 rfl ?_
        obtain ⟨σ_38, σ_38_e, hi_39, H⟩ := wa_e H
        refine z_iast (M := M_X1_innerFault) dX1_innerFault_40 ly_178 rfl (by decide +kernel) rfl hi_39 σ_38_e ?_
        refine z_aload_n (M := M_X1_innerFault) dX1_innerFault_41 rfl ?_
        refine z_bipush (M := M_X1_innerFault) dX1_innerFault_42 (by decide +kernel) ?_
        refine z_iload_n (M := M_X1_innerFault) dX1_innerFault_44 rfl ?_
        refine z_iconst (M := M_X1_innerFault) dX1_innerFault_45 ?_
        obtain ⟨⟨x_42, σ_41⟩, hc_40, H⟩ := bd_e H
        refine z_callV (M := M_X1_innerFault) (M' := M_X1_tell) (as := [vi 11, vi part_1, vi (-1)]) (rest := []) rfl rfl dX1_innerFault_46 m_X1_tell t_1206 t_1208 s_45 (c_X1_tell hl  hc_40) rfl rfl ly_177 rfl (Nat.le_of_ble_eq_true rfl) (Nat.le_of_ble_eq_true rfl) (Nat.le_of_ble_eq_true rfl) (Nat.le_of_ble_eq_true rfl) ?_
        refine z_st (st' := [vi x_42]) rfl ?_
        have H := congrArg some (hk_15 _ ((K_19 _ (Option.some.inj H).symm).symm))
        have H := congrArg some (hk_5 _ ((K_9 _ (Option.some.inj H).symm).symm))
        cases H
        exact z_iret (M := M_X1_innerFault) dX1_innerFault_49 rfl (Nat.le_of_ble_eq_true rfl) (Nat.le_of_ble_eq_true rfl) ⟨rfl, rfl⟩
      · refine z_zne_f (M := M_X1_innerFault) (tgt := 34) dX1_innerFault_22 (by decide) h_37 ?_
        refine z_aload_n (M := M_X1_innerFault) dX1_innerFault_25 rfl ?_
        refine z_iload_n (M := M_X1_innerFault) dX1_innerFault_26 rfl ?_
        refine z_iload_n (M := M_X1_innerFault) dX1_innerFault_27 rfl ?_
        obtain ⟨x_44, hc_43, H⟩ := bd_e H
        refine z_callV (M := M_X1_innerFault) (M' := M_X1_liesInPart) (as := [vi other_11, vi part_1]) (rest := []) rfl rfl dX1_innerFault_28 m_X1_liesInPart t_1358 t_1360 s_67 (c_X1_liesInPart hl  hc_43) rfl rfl ly_177 rfl (Nat.le_of_ble_eq_true rfl) (Nat.le_of_ble_eq_true rfl) (Nat.le_of_ble_eq_true rfl) (Nat.le_of_ble_eq_true rfl) ?_
        refine z_st (st' := [zv x_44]) rfl ?_
        rcases if_e H with ⟨h_45, H⟩ | ⟨h_45, H⟩
        · refine z_zeq_f (M := M_X1_innerFault) (tgt := 50) dX1_innerFault_31 (by decide) h_45 ?_
          refine z_aload_n (M := M_X1_innerFault) dX1_innerFault_34 rfl ?_
          refine z_getR (M := M_X1_innerFault) (ci := 4) (C := RX1) (T := TX1) (Nf := 11) (ty := tyX1) cl4 dX1_innerFault_35 ly_177 0 (by decide) t_284 rfl ?_
          refine z_iconst (M := M_X1_innerFault) dX1_innerFault_38 ?_
          refine z_iload_n (M := M_X1_innerFault) dX1_innerFault_39 rfl ?_
          obtain ⟨σ_46, σ_46_e, hi_47, H⟩ := wa_e H
          refine z_iast (M := M_X1_innerFault) dX1_innerFault_40 ly_178 rfl (by decide +kernel) rfl hi_47 σ_46_e ?_
          refine z_aload_n (M := M_X1_innerFault) dX1_innerFault_41 rfl ?_
          refine z_bipush (M := M_X1_innerFault) dX1_innerFault_42 (by decide +kernel) ?_
          refine z_iload_n (M := M_X1_innerFault) dX1_innerFault_44 rfl ?_
          refine z_iconst (M := M_X1_innerFault) dX1_innerFault_45 ?_
          obtain ⟨⟨x_50, σ_49⟩, hc_48, H⟩ := bd_e H
          refine z_callV (M := M_X1_innerFault) (M' := M_X1_tell) (as := [vi 11, vi part_1, vi (-1)]) (rest := []) rfl rfl dX1_innerFault_46 m_X1_tell t_1206 t_1208 s_45 (c_X1_tell hl  hc_48) rfl rfl ly_177 rfl (Nat.le_of_ble_eq_true rfl) (Nat.le_of_ble_eq_true rfl) (Nat.le_of_ble_eq_true rfl) (Nat.le_of_ble_eq_true rfl) ?_
          refine z_st (st' := [vi x_50]) rfl ?_
          have H := congrArg some (hk_15 _ ((K_19 _ (Option.some.inj H).symm).symm))
          have H := congrArg some (hk_5 _ ((K_9 _ (Option.some.inj H).symm).symm))
          cases H
          exact z_iret (M := M_X1_innerFault) dX1_innerFault_49 rfl (Nat.le_of_ble_eq_true rfl) (Nat.le_of_ble_eq_true rfl) ⟨rfl, rfl⟩
        · refine z_zeq_t (M := M_X1_innerFault) (tgt := 50) dX1_innerFault_31 (by decide) h_45 ?_
          refine z_iinc (M := M_X1_innerFault) (lv' := [some (vr 177), some (vi parts_0), some (vi part_1), some (vi (other_11 + 1))]) dX1_innerFault_50 rfl (Nat.le_of_ble_eq_true rfl) rfl rfl ?_
          refine z_goto (M := M_X1_innerFault) (tgt := 11) dX1_innerFault_53 (by decide) ?_
          exact K_18 _ (Option.some.inj H).symm
    · refine z_icmp_ge_t (M := M_X1_innerFault) (tgt := 56) dX1_innerFault_13 (by decide) rfl rfl (Int.not_lt.mp h_20) ?_
      exact J_56 _ _ (K_19 _ (Option.some.inj H).symm).symm
  · refine z_icmp_ge_t (M := M_X1_innerFault) (tgt := 62) dX1_innerFault_4 (by decide) rfl rfl (Int.not_lt.mp h_10) ?_
    exact J_60 _ _ (K_9 _ (Option.some.inj H).symm).symm
theorem c_X6_areLike (hl : l.stackTraces = false) {σ : SG} {this_0 : Nat} {i_0 : Int} {j_0 : Int} {r : Bool} (h_this : isS this_0) (H : fA_areLike σ this_0 i_0 j_0 = some r) : en_S l E M_X6_areLike 1 0 0 [vr this_0, vi i_0, vi j_0] σ (pS (some (zv r)) σ) := by
  unfold fA_areLike at H
  refine z_mk (lv := [some (vr this_0), some (vi i_0), some (vi j_0)]) m_X6_areLike rfl hl (Nat.le_of_ble_eq_true rfl) rfl ?_
  obtain ⟨v_15, he_16, hk_17⟩ := bd_e H
  have J_18 : ∀ x_14, v_15 = x_14 → YY l E M_X6_areLike 1 0 0 (pS (some (zv r)) σ) 35 [some (vr this_0), some (vi i_0), some (vi j_0)] [zv x_14] σ 0 0 := by
    intro x_14 e
    have H := hk_17
    rw [e] at H
    cases H
    exact z_zret (M := M_X6_areLike) dX6_areLike_35 rfl (Nat.le_of_ble_eq_true rfl) (Nat.le_of_ble_eq_true rfl) ⟨rfl, rfl⟩
  have H := he_16
  refine z_aload_n (M := M_X6_areLike) dX6_areLike_0 rfl ?_
  refine z_getR (M := M_X6_areLike) (ci := 9) (C := RX6) (T := TX6) (Nf := 5) (ty := tyX6) cl9 dX6_areLike_1 (ly_S h_this) 1 (by decide) t_58 rfl ?_
  refine z_iload_n (M := M_X6_areLike) dX6_areLike_4 rfl ?_
  obtain ⟨x_1, x_1_e, hi_2, H⟩ := rd_e H
  refine z_iald (M := M_X6_areLike) dX6_areLike_5 (ly_Sx h_this) rfl rfl rfl hi_2 x_1_e ?_
  refine z_aload_n (M := M_X6_areLike) dX6_areLike_6 rfl ?_
  refine z_getR (M := M_X6_areLike) (ci := 9) (C := RX6) (T := TX6) (Nf := 5) (ty := tyX6) cl9 dX6_areLike_7 (ly_S h_this) 1 (by decide) t_58 rfl ?_
  refine z_iload_n (M := M_X6_areLike) dX6_areLike_10 rfl ?_
  obtain ⟨x_3, x_3_e, hi_4, H⟩ := rd_e H
  refine z_iald (M := M_X6_areLike) dX6_areLike_11 (ly_Sx h_this) rfl rfl rfl hi_4 x_3_e ?_
  rcases if_e H with ⟨h_5, H⟩ | ⟨h_5, H⟩
  · refine z_icmp_ne_f (M := M_X6_areLike) (tgt := 34) dX6_areLike_12 (by decide) rfl rfl h_5 ?_
    refine z_aload_n (M := M_X6_areLike) dX6_areLike_15 rfl ?_
    refine z_getR (M := M_X6_areLike) (ci := 9) (C := RX6) (T := TX6) (Nf := 5) (ty := tyX6) cl9 dX6_areLike_16 (ly_S h_this) 2 (by decide) t_65 rfl ?_
    refine z_iload_n (M := M_X6_areLike) dX6_areLike_19 rfl ?_
    obtain ⟨x_6, x_6_e, hi_7, H⟩ := rd_e H
    refine z_iald (M := M_X6_areLike) dX6_areLike_20 (ly_Sy h_this) rfl rfl rfl hi_7 x_6_e ?_
    refine z_aload_n (M := M_X6_areLike) dX6_areLike_21 rfl ?_
    refine z_getR (M := M_X6_areLike) (ci := 9) (C := RX6) (T := TX6) (Nf := 5) (ty := tyX6) cl9 dX6_areLike_22 (ly_S h_this) 2 (by decide) t_65 rfl ?_
    refine z_iload_n (M := M_X6_areLike) dX6_areLike_25 rfl ?_
    obtain ⟨x_8, x_8_e, hi_9, H⟩ := rd_e H
    refine z_iald (M := M_X6_areLike) dX6_areLike_26 (ly_Sy h_this) rfl rfl rfl hi_9 x_8_e ?_
    rcases if_e H with ⟨h_10, H⟩ | ⟨h_10, H⟩
    · refine z_icmp_ne_f (M := M_X6_areLike) (tgt := 34) dX6_areLike_27 (by decide) rfl rfl h_10 ?_
      refine z_zconst (M := M_X6_areLike) (b := true) dX6_areLike_30 rfl ?_
      refine z_goto (M := M_X6_areLike) (tgt := 35) dX6_areLike_31 (by decide) ?_
      exact J_18 _ (Option.some.inj H).symm
    · refine z_icmp_ne_t (M := M_X6_areLike) (tgt := 34) dX6_areLike_27 (by decide) rfl rfl h_10 ?_
      refine z_zconst (M := M_X6_areLike) (b := false) dX6_areLike_34 rfl ?_
      exact J_18 _ (Option.some.inj H).symm
  · refine z_icmp_ne_t (M := M_X6_areLike) (tgt := 34) dX6_areLike_12 (by decide) rfl rfl h_5 ?_
    refine z_zconst (M := M_X6_areLike) (b := false) dX6_areLike_34 rfl ?_
    exact J_18 _ (Option.some.inj H).symm
theorem c_X1_isOfOnePlace (hl : l.stackTraces = false) {σ : SG} {shape_0 : Nat} {from_0 : Int} {length_0 : Int} {r : Bool} (h_shape : isS shape_0) (H : fJ_isOfOnePlace σ shape_0 from_0 length_0 = some r) : en_S l E M_X1_isOfOnePlace 2 0 0 [vr shape_0, vi from_0, vi length_0] σ (pS (some (zv r)) σ) := by
  unfold fJ_isOfOnePlace at H
  refine z_mk (lv := [some (vr shape_0), some (vi from_0), some (vi length_0), none]) m_X1_isOfOnePlace rfl hl (Nat.le_of_ble_eq_true rfl) rfl ?_
  refine z_iconst (M := M_X1_isOfOnePlace) dX1_isOfOnePlace_0 ?_
  refine z_istore_n (M := M_X1_isOfOnePlace) (lv' := [some (vr shape_0), some (vi from_0), some (vi length_0), some (vi 1)]) dX1_isOfOnePlace_1 (Nat.le_of_ble_eq_true rfl) rfl rfl ?_
  obtain ⟨rl_5, hw_2, hk_3, hk_4⟩ := bx_e H
  have J_18 : ∀ i_15, rl_5 = (.inl i_15) → YY l E M_X1_isOfOnePlace 2 0 0 (pS (some (zv r)) σ) 26 [some (vr shape_0), some (vi from_0), some (vi length_0), some (vi i_15)] [] σ 0 0 := by
    intro i_15 e
    have H := hk_3 _ e
    have J_16 : YY l E M_X1_isOfOnePlace 2 0 0 (pS (some (zv r)) σ) 35 [some (vr shape_0), some (vi from_0), some (vi length_0), some (vi i_15)] [zv (decide (0 < (w32 length_0)))] σ 0 0 := by
      cases H
      exact z_zret (M := M_X1_isOfOnePlace) dX1_isOfOnePlace_35 rfl (Nat.le_of_ble_eq_true rfl) (Nat.le_of_ble_eq_true rfl) ⟨rfl, rfl⟩
    refine z_iload_n (M := M_X1_isOfOnePlace) dX1_isOfOnePlace_26 rfl ?_
    by_cases h_17 : 0 < (w32 length_0)
    · refine z_if_le_f (M := M_X1_isOfOnePlace) (tgt := 34) dX1_isOfOnePlace_27 (by decide) rfl h_17 ?_
      refine z_iconst (M := M_X1_isOfOnePlace) dX1_isOfOnePlace_30 ?_
      refine z_goto (M := M_X1_isOfOnePlace) (tgt := 35) dX1_isOfOnePlace_31 (by decide) ?_
      exact z_st (by rw [zv_t (p := 0 < (w32 length_0)) h_17]) J_16
    · refine z_if_le_t (M := M_X1_isOfOnePlace) (tgt := 34) dX1_isOfOnePlace_27 (by decide) rfl (Int.not_lt.mp h_17) ?_
      refine z_iconst (M := M_X1_isOfOnePlace) dX1_isOfOnePlace_34 ?_
      exact z_st (by rw [zv_f (p := 0 < (w32 length_0)) h_17]) J_16
  refine whl_go hw_2 (fun i_1 => YY l E M_X1_isOfOnePlace 2 0 0 (pS (some (zv r)) σ) 2 [some (vr shape_0), some (vi from_0), some (vi length_0), some (vi i_1)] [] σ 0 0) ?_
  rintro i_1 o_6 H K_7 K_8
  refine z_iload_n (M := M_X1_isOfOnePlace) dX1_isOfOnePlace_2 rfl ?_
  refine z_iload_n (M := M_X1_isOfOnePlace) dX1_isOfOnePlace_3 rfl ?_
  rcases if_e H with ⟨h_9, H⟩ | ⟨h_9, H⟩
  · refine z_icmp_ge_f (M := M_X1_isOfOnePlace) (tgt := 26) dX1_isOfOnePlace_4 (by decide) rfl rfl h_9 ?_
    refine z_aload_n (M := M_X1_isOfOnePlace) dX1_isOfOnePlace_7 rfl ?_
    refine z_iload_n (M := M_X1_isOfOnePlace) dX1_isOfOnePlace_8 rfl ?_
    refine z_iload_n (M := M_X1_isOfOnePlace) dX1_isOfOnePlace_9 rfl ?_
    refine z_iload_n (M := M_X1_isOfOnePlace) dX1_isOfOnePlace_10 rfl ?_
    refine z_iadd (M := M_X1_isOfOnePlace) dX1_isOfOnePlace_11 ?_
    obtain ⟨x_11, hc_10, H⟩ := bd_e H
    refine z_callV (M := M_X1_isOfOnePlace) (M' := M_X6_areLike) (as := [vi from_0, vi (from_0 + i_1)]) (rest := []) rfl rfl dX1_isOfOnePlace_12 m_X6_areLike t_1187 t_1188 t_1189 (c_X6_areLike hl h_shape hc_10) rfl rfl (ly_S h_shape) rfl (Nat.le_of_ble_eq_true rfl) (Nat.le_of_ble_eq_true rfl) (Nat.le_of_ble_eq_true rfl) (Nat.le_of_ble_eq_true rfl) ?_
    refine z_st (st' := [zv x_11]) rfl ?_
    rcases if_e H with ⟨h_12, H⟩ | ⟨h_12, H⟩
    · refine z_zne_t (M := M_X1_isOfOnePlace) (tgt := 20) dX1_isOfOnePlace_15 (by decide) h_12 ?_
      refine z_iinc (M := M_X1_isOfOnePlace) (lv' := [some (vr shape_0), some (vi from_0), some (vi length_0), some (vi (i_1 + 1))]) dX1_isOfOnePlace_20 rfl (Nat.le_of_ble_eq_true rfl) rfl rfl ?_
      refine z_goto (M := M_X1_isOfOnePlace) (tgt := 2) dX1_isOfOnePlace_23 (by decide) ?_
      exact K_7 _ (Option.some.inj H).symm
    · refine z_zne_f (M := M_X1_isOfOnePlace) (tgt := 20) dX1_isOfOnePlace_15 (by decide) h_12 ?_
      refine z_zconst (M := M_X1_isOfOnePlace) (b := false) dX1_isOfOnePlace_18 rfl ?_
      have H := congrArg some (hk_4 _ ((K_8 _ (Option.some.inj H).symm).symm))
      cases H
      exact z_zret (M := M_X1_isOfOnePlace) dX1_isOfOnePlace_19 rfl (Nat.le_of_ble_eq_true rfl) (Nat.le_of_ble_eq_true rfl) ⟨rfl, rfl⟩
  · refine z_icmp_ge_t (M := M_X1_isOfOnePlace) (tgt := 26) dX1_isOfOnePlace_4 (by decide) rfl rfl (Int.not_lt.mp h_9) ?_
    exact J_18 _ (K_8 _ (Option.some.inj H).symm).symm
theorem c_X1_holesFault (hl : l.stackTraces = false) {σ : SG} {part_0 : Int} {r : Int} {σ' : SG}  (H : fJ_holesFault σ part_0 = some (r, σ')) : en_S l E M_X1_holesFault 6 0 0 [vr 177, vi part_0] σ (pS (some (vi r)) σ') := by
  unfold fJ_holesFault at H
  refine z_mk (lv := [some (vr 177), some (vi part_0), none, none, none]) m_X1_holesFault rfl hl (Nat.le_of_ble_eq_true rfl) rfl ?_
  refine z_aload_n (M := M_X1_holesFault) dX1_holesFault_0 rfl ?_
  refine z_iload_n (M := M_X1_holesFault) dX1_holesFault_1 rfl ?_
  obtain ⟨x_2, hc_1, H⟩ := bd_e H
  refine z_callV (M := M_X1_holesFault) (M' := M_X1_isEmpty) (as := [vi part_0]) (rest := []) rfl rfl dX1_holesFault_2 m_X1_isEmpty t_1225 t_1227 s_48 (c_X1_isEmpty hl  hc_1) rfl rfl ly_177 rfl (Nat.le_of_ble_eq_true rfl) (Nat.le_of_ble_eq_true rfl) (Nat.le_of_ble_eq_true rfl) (Nat.le_of_ble_eq_true rfl) ?_
  refine z_st (st' := [zv x_2]) rfl ?_
  rcases if_e H with ⟨h_3, H⟩ | ⟨h_3, H⟩
  · refine z_zeq_f (M := M_X1_holesFault) (tgt := 10) dX1_holesFault_5 (by decide) h_3 ?_
    refine z_iconst (M := M_X1_holesFault) dX1_holesFault_8 ?_
    cases H
    exact z_iret (M := M_X1_holesFault) dX1_holesFault_9 rfl (Nat.le_of_ble_eq_true rfl) (Nat.le_of_ble_eq_true rfl) ⟨rfl, rfl⟩
  · refine z_zeq_t (M := M_X1_holesFault) (tgt := 10) dX1_holesFault_5 (by decide) h_3 ?_
    refine z_aload_n (M := M_X1_holesFault) dX1_holesFault_10 rfl ?_
    refine z_getR (M := M_X1_holesFault) (ci := 4) (C := RX1) (T := TX1) (Nf := 11) (ty := tyX1) cl4 dX1_holesFault_11 ly_177 8 (by decide) t_293 rfl ?_
    refine z_iload_n (M := M_X1_holesFault) dX1_holesFault_14 rfl ?_
    obtain ⟨x_4, x_4_e, hi_5, H⟩ := rd_e H
    refine z_iald (M := M_X1_holesFault) dX1_holesFault_15 ly_190 rfl rfl rfl hi_5 x_4_e ?_
    refine z_istore_n (M := M_X1_holesFault) (lv' := [some (vr 177), some (vi part_0), some (vi x_4), none, none]) dX1_holesFault_16 (Nat.le_of_ble_eq_true rfl) rfl rfl ?_
    refine z_iload_n (M := M_X1_holesFault) dX1_holesFault_17 rfl ?_
    refine z_iconst (M := M_X1_holesFault) dX1_holesFault_18 ?_
    refine z_iadd (M := M_X1_holesFault) dX1_holesFault_19 ?_
    refine z_istore_n (M := M_X1_holesFault) (lv' := [some (vr 177), some (vi part_0), some (vi x_4), some (vi (x_4 + 1)), none]) dX1_holesFault_20 (Nat.le_of_ble_eq_true rfl) rfl rfl ?_
    obtain ⟨rl_11, hw_8, hk_9, hk_10⟩ := bx_e H
    have J_112 : ∀ hole_28 σ_29, rl_11 = (.inl (hole_28, σ_29)) → YY l E M_X1_holesFault 6 0 0 (pS (some (vi r)) σ') 60 [some (vr 177), some (vi part_0), some (vi x_4), some (vi hole_28), none] [] σ_29 0 0 := by
      intro hole_28 σ_29 e
      have H := hk_9 _ e
      refine z_iload_n (M := M_X1_holesFault) dX1_holesFault_60 rfl ?_
      refine z_iconst (M := M_X1_holesFault) dX1_holesFault_61 ?_
      refine z_iadd (M := M_X1_holesFault) dX1_holesFault_62 ?_
      refine z_istore_n (M := M_X1_holesFault) (lv' := [some (vr 177), some (vi part_0), some (vi x_4), some (vi (x_4 + 1)), none]) dX1_holesFault_63 (Nat.le_of_ble_eq_true rfl) rfl rfl ?_
      obtain ⟨rl_35, hw_32, hk_33, hk_34⟩ := bx_e H
      have J_111 : ∀ hole_109 σ_110, rl_35 = (.inl (hole_109, σ_110)) → YY l E M_X1_holesFault 6 0 0 (pS (some (vi r)) σ') 156 [some (vr 177), some (vi part_0), some (vi x_4), some (vi hole_109), none] [] σ_110 0 0 := by
        intro hole_109 σ_110 e
        have H := hk_33 _ e
        refine z_iconst (M := M_X1_holesFault) dX1_holesFault_156 ?_
        cases H
        exact z_iret (M := M_X1_holesFault) dX1_holesFault_157 rfl (Nat.le_of_ble_eq_true rfl) (Nat.le_of_ble_eq_true rfl) ⟨rfl, rfl⟩
      refine whl_go hw_32 (fun (hole_30, σ_31) => YY l E M_X1_holesFault 6 0 0 (pS (some (vi r)) σ') 64 [some (vr 177), some (vi part_0), some (vi x_4), some (vi hole_30), none] [] σ_31 0 0) ?_
      rintro ⟨hole_30, σ_31⟩ o_36 H K_37 K_38
      refine z_iload_n (M := M_X1_holesFault) dX1_holesFault_64 rfl ?_
      refine z_aload_n (M := M_X1_holesFault) dX1_holesFault_65 rfl ?_
      refine z_getR (M := M_X1_holesFault) (ci := 4) (C := RX1) (T := TX1) (Nf := 11) (ty := tyX1) cl4 dX1_holesFault_66 ly_177 9 (by decide) t_294 rfl ?_
      refine z_iload_n (M := M_X1_holesFault) dX1_holesFault_69 rfl ?_
      obtain ⟨x_39, x_39_e, hi_40, H⟩ := rd_e H
      refine z_iald (M := M_X1_holesFault) dX1_holesFault_70 ly_191 rfl rfl rfl hi_40 x_39_e ?_
      rcases if_e H with ⟨h_41, H⟩ | ⟨h_41, H⟩
      · refine z_icmp_ge_f (M := M_X1_holesFault) (tgt := 156) dX1_holesFault_71 (by decide) rfl rfl h_41 ?_
        refine z_iload_n (M := M_X1_holesFault) dX1_holesFault_74 rfl ?_
        refine z_iconst (M := M_X1_holesFault) dX1_holesFault_75 ?_
        refine z_iadd (M := M_X1_holesFault) dX1_holesFault_76 ?_
        refine z_istore (M := M_X1_holesFault) (lv' := [some (vr 177), some (vi part_0), some (vi x_4), some (vi hole_30), some (vi (hole_30 + 1))]) dX1_holesFault_77 (Nat.le_of_ble_eq_true rfl) rfl rfl ?_
        obtain ⟨rl_47, hw_44, hk_45, hk_46⟩ := bx_e H
        have J_107 : ∀ other_104 σ_105, rl_47 = (.inl (other_104, σ_105)) → YY l E M_X1_holesFault 6 0 0 (pS (some (vi r)) σ') 150 [some (vr 177), some (vi part_0), some (vi x_4), some (vi hole_30), some (vi other_104)] [] σ_105 0 0 := by
          intro other_104 σ_105 e
          have H := hk_45 _ e
          refine z_iinc (M := M_X1_holesFault) (lv' := [some (vr 177), some (vi part_0), some (vi x_4), some (vi (hole_30 + 1)), some (vi other_104)]) dX1_holesFault_150 rfl (Nat.le_of_ble_eq_true rfl) rfl rfl ?_
          refine z_goto (M := M_X1_holesFault) (tgt := 64) dX1_holesFault_153 (by decide) ?_
          refine z_le (lv' := [some (vr 177), some (vi part_0), some (vi x_4), some (vi (hole_30 + 1)), none]) ⟨Or.inr rfl, Or.inr rfl, Or.inr rfl, Or.inr rfl, Or.inl rfl, trivial⟩ ?_
          exact K_37 _ (Option.some.inj H).symm
        refine whl_go hw_44 (fun (other_42, σ_43) => YY l E M_X1_holesFault 6 0 0 (pS (some (vi r)) σ') 79 [some (vr 177), some (vi part_0), some (vi x_4), some (vi hole_30), some (vi other_42)] [] σ_43 0 0) ?_
        rintro ⟨other_42, σ_43⟩ o_48 H K_49 K_50
        refine z_iload (M := M_X1_holesFault) dX1_holesFault_79 rfl ?_
        refine z_aload_n (M := M_X1_holesFault) dX1_holesFault_81 rfl ?_
        refine z_getR (M := M_X1_holesFault) (ci := 4) (C := RX1) (T := TX1) (Nf := 11) (ty := tyX1) cl4 dX1_holesFault_82 ly_177 9 (by decide) t_294 rfl ?_
        refine z_iload_n (M := M_X1_holesFault) dX1_holesFault_85 rfl ?_
        obtain ⟨x_51, x_51_e, hi_52, H⟩ := rd_e H
        refine z_iald (M := M_X1_holesFault) dX1_holesFault_86 ly_191 rfl rfl rfl hi_52 x_51_e ?_
        rcases if_e H with ⟨h_53, H⟩ | ⟨h_53, H⟩
        · refine z_icmp_ge_f (M := M_X1_holesFault) (tgt := 150) dX1_holesFault_87 (by decide) rfl rfl h_53 ?_
          refine z_aload_n (M := M_X1_holesFault) dX1_holesFault_90 rfl ?_
          refine z_iload_n (M := M_X1_holesFault) dX1_holesFault_91 rfl ?_
          refine z_iload (M := M_X1_holesFault) dX1_holesFault_92 rfl ?_
          obtain ⟨x_75, hc_74, H⟩ := bd_e H
          refine z_callV (M := M_X1_holesFault) (M' := M_X1_liesIn) (as := [vi hole_30, vi other_42]) (rest := []) rfl rfl dX1_holesFault_94 m_X1_liesIn t_1311 t_1313 s_58 (c_X1_liesIn hl  hc_74) rfl rfl ly_177 rfl (Nat.le_of_ble_eq_true rfl) (Nat.le_of_ble_eq_true rfl) (Nat.le_of_ble_eq_true rfl) (Nat.le_of_ble_eq_true rfl) ?_
          refine z_st (st' := [zv x_75]) rfl ?_
          rcases if_e H with ⟨h_76, H⟩ | ⟨h_76, H⟩
          · refine z_zne_t (M := M_X1_holesFault) (tgt := 110) dX1_holesFault_97 (by decide) h_76 ?_
            refine z_aload_n (M := M_X1_holesFault) dX1_holesFault_110 rfl ?_
            refine z_getR (M := M_X1_holesFault) (ci := 4) (C := RX1) (T := TX1) (Nf := 11) (ty := tyX1) cl4 dX1_holesFault_111 ly_177 0 (by decide) t_284 rfl ?_
            refine z_iconst (M := M_X1_holesFault) dX1_holesFault_114 ?_
            refine z_iload_n (M := M_X1_holesFault) dX1_holesFault_115 rfl ?_
            obtain ⟨σ_77, σ_77_e, hi_78, H⟩ := wa_e H
            refine z_iast (M := M_X1_holesFault) dX1_holesFault_116 ly_178 rfl (by decide +kernel) rfl hi_78 σ_77_e ?_
            refine z_aload_n (M := M_X1_holesFault) dX1_holesFault_117 rfl ?_
            refine z_getR (M := M_X1_holesFault) (ci := 4) (C := RX1) (T := TX1) (Nf := 11) (ty := tyX1) cl4 dX1_holesFault_118 ly_177 0 (by decide) t_284 rfl ?_
            refine z_iconst (M := M_X1_holesFault) dX1_holesFault_121 ?_
            refine z_aload_n (M := M_X1_holesFault) dX1_holesFault_122 rfl ?_
            refine z_getR (M := M_X1_holesFault) (ci := 4) (C := RX1) (T := TX1) (Nf := 11) (ty := tyX1) cl4 dX1_holesFault_123 ly_177 4 (by decide) t_289 rfl ?_
            refine z_iload (M := M_X1_holesFault) dX1_holesFault_126 rfl ?_
            obtain ⟨x_79, x_79_e, hi_80, H⟩ := rd_e H
            refine z_iald (M := M_X1_holesFault) dX1_holesFault_128 ly_187 rfl rfl rfl hi_80 x_79_e ?_
            obtain ⟨σ_81, σ_81_e, hi_82, H⟩ := wa_e H
            refine z_iast (M := M_X1_holesFault) dX1_holesFault_129 ly_178 rfl (by decide +kernel) rfl hi_82 σ_81_e ?_
            refine z_aload_n (M := M_X1_holesFault) dX1_holesFault_130 rfl ?_
            refine z_bipush (M := M_X1_holesFault) dX1_holesFault_131 (by decide +kernel) ?_
            refine z_iload_n (M := M_X1_holesFault) dX1_holesFault_133 rfl ?_
            refine z_aload_n (M := M_X1_holesFault) dX1_holesFault_134 rfl ?_
            refine z_getR (M := M_X1_holesFault) (ci := 4) (C := RX1) (T := TX1) (Nf := 11) (ty := tyX1) cl4 dX1_holesFault_135 ly_177 4 (by decide) t_289 rfl ?_
            refine z_iload_n (M := M_X1_holesFault) dX1_holesFault_138 rfl ?_
            obtain ⟨x_83, x_83_e, hi_84, H⟩ := rd_e H
            refine z_iald (M := M_X1_holesFault) dX1_holesFault_139 ly_187 rfl rfl rfl hi_84 x_83_e ?_
            obtain ⟨⟨x_87, σ_86⟩, hc_85, H⟩ := bd_e H
            refine z_callV (M := M_X1_holesFault) (M' := M_X1_tell) (as := [vi 7, vi part_0, vi x_83]) (rest := []) rfl rfl dX1_holesFault_140 m_X1_tell t_1206 t_1208 s_45 (c_X1_tell hl  hc_85) rfl rfl ly_177 rfl (Nat.le_of_ble_eq_true rfl) (Nat.le_of_ble_eq_true rfl) (Nat.le_of_ble_eq_true rfl) (Nat.le_of_ble_eq_true rfl) ?_
            refine z_st (st' := [vi x_87]) rfl ?_
            have H := congrArg some (hk_46 _ ((K_50 _ (Option.some.inj H).symm).symm))
            have H := congrArg some (hk_34 _ ((K_38 _ (Option.some.inj H).symm).symm))
            cases H
            exact z_iret (M := M_X1_holesFault) dX1_holesFault_143 rfl (Nat.le_of_ble_eq_true rfl) (Nat.le_of_ble_eq_true rfl) ⟨rfl, rfl⟩
          · refine z_zne_f (M := M_X1_holesFault) (tgt := 110) dX1_holesFault_97 (by decide) h_76 ?_
            refine z_aload_n (M := M_X1_holesFault) dX1_holesFault_100 rfl ?_
            refine z_iload (M := M_X1_holesFault) dX1_holesFault_101 rfl ?_
            refine z_iload_n (M := M_X1_holesFault) dX1_holesFault_103 rfl ?_
            obtain ⟨x_89, hc_88, H⟩ := bd_e H
            refine z_callV (M := M_X1_holesFault) (M' := M_X1_liesIn) (as := [vi other_42, vi hole_30]) (rest := []) rfl rfl dX1_holesFault_104 m_X1_liesIn t_1311 t_1313 s_58 (c_X1_liesIn hl  hc_88) rfl rfl ly_177 rfl (Nat.le_of_ble_eq_true rfl) (Nat.le_of_ble_eq_true rfl) (Nat.le_of_ble_eq_true rfl) (Nat.le_of_ble_eq_true rfl) ?_
            refine z_st (st' := [zv x_89]) rfl ?_
            rcases if_e H with ⟨h_90, H⟩ | ⟨h_90, H⟩
            · refine z_zeq_f (M := M_X1_holesFault) (tgt := 144) dX1_holesFault_107 (by decide) h_90 ?_
              refine z_aload_n (M := M_X1_holesFault) dX1_holesFault_110 rfl ?_
              refine z_getR (M := M_X1_holesFault) (ci := 4) (C := RX1) (T := TX1) (Nf := 11) (ty := tyX1) cl4 dX1_holesFault_111 ly_177 0 (by decide) t_284 rfl ?_
              refine z_iconst (M := M_X1_holesFault) dX1_holesFault_114 ?_
              refine z_iload_n (M := M_X1_holesFault) dX1_holesFault_115 rfl ?_
              obtain ⟨σ_91, σ_91_e, hi_92, H⟩ := wa_e H
              refine z_iast (M := M_X1_holesFault) dX1_holesFault_116 ly_178 rfl (by decide +kernel) rfl hi_92 σ_91_e ?_
              refine z_aload_n (M := M_X1_holesFault) dX1_holesFault_117 rfl ?_
              refine z_getR (M := M_X1_holesFault) (ci := 4) (C := RX1) (T := TX1) (Nf := 11) (ty := tyX1) cl4 dX1_holesFault_118 ly_177 0 (by decide) t_284 rfl ?_
              refine z_iconst (M := M_X1_holesFault) dX1_holesFault_121 ?_
              refine z_aload_n (M := M_X1_holesFault) dX1_holesFault_122 rfl ?_
              refine z_getR (M := M_X1_holesFault) (ci := 4) (C := RX1) (T := TX1) (Nf := 11) (ty := tyX1) cl4 dX1_holesFault_123 ly_177 4 (by decide) t_289 rfl ?_
              refine z_iload (M := M_X1_holesFault) dX1_holesFault_126 rfl ?_
              obtain ⟨x_93, x_93_e, hi_94, H⟩ := rd_e H
              refine z_iald (M := M_X1_holesFault) dX1_holesFault_128 ly_187 rfl rfl rfl hi_94 x_93_e ?_
              obtain ⟨σ_95, σ_95_e, hi_96, H⟩ := wa_e H
              refine z_iast (M := M_X1_holesFault) dX1_holesFault_129 ly_178 rfl (by decide +kernel) rfl hi_96 σ_95_e ?_
              refine z_aload_n (M := M_X1_holesFault) dX1_holesFault_130 rfl ?_
              refine z_bipush (M := M_X1_holesFault) dX1_holesFault_131 (by decide +kernel) ?_
              refine z_iload_n (M := M_X1_holesFault) dX1_holesFault_133 rfl ?_
              refine z_aload_n (M := M_X1_holesFault) dX1_holesFault_134 rfl ?_
              refine z_getR (M := M_X1_holesFault) (ci := 4) (C := RX1) (T := TX1) (Nf := 11) (ty := tyX1) cl4 dX1_holesFault_135 ly_177 4 (by decide) t_289 rfl ?_
              refine z_iload_n (M := M_X1_holesFault) dX1_holesFault_138 rfl ?_
              obtain ⟨x_97, x_97_e, hi_98, H⟩ := rd_e H
              refine z_iald (M := M_X1_holesFault) dX1_holesFault_139 ly_187 rfl rfl rfl hi_98 x_97_e ?_
              obtain ⟨⟨x_101, σ_100⟩, hc_99, H⟩ := bd_e H
              refine z_callV (M := M_X1_holesFault) (M' := M_X1_tell) (as := [vi 7, vi part_0, vi x_97]) (rest := []) rfl rfl dX1_holesFault_140 m_X1_tell t_1206 t_1208 s_45 (c_X1_tell hl  hc_99) rfl rfl ly_177 rfl (Nat.le_of_ble_eq_true rfl) (Nat.le_of_ble_eq_true rfl) (Nat.le_of_ble_eq_true rfl) (Nat.le_of_ble_eq_true rfl) ?_
              refine z_st (st' := [vi x_101]) rfl ?_
              have H := congrArg some (hk_46 _ ((K_50 _ (Option.some.inj H).symm).symm))
              have H := congrArg some (hk_34 _ ((K_38 _ (Option.some.inj H).symm).symm))
              cases H
              exact z_iret (M := M_X1_holesFault) dX1_holesFault_143 rfl (Nat.le_of_ble_eq_true rfl) (Nat.le_of_ble_eq_true rfl) ⟨rfl, rfl⟩
            · refine z_zeq_t (M := M_X1_holesFault) (tgt := 144) dX1_holesFault_107 (by decide) h_90 ?_
              refine z_iinc (M := M_X1_holesFault) (lv' := [some (vr 177), some (vi part_0), some (vi x_4), some (vi hole_30), some (vi (other_42 + 1))]) dX1_holesFault_144 rfl (Nat.le_of_ble_eq_true rfl) rfl rfl ?_
              refine z_goto (M := M_X1_holesFault) (tgt := 79) dX1_holesFault_147 (by decide) ?_
              exact K_49 _ (Option.some.inj H).symm
        · refine z_icmp_ge_t (M := M_X1_holesFault) (tgt := 150) dX1_holesFault_87 (by decide) rfl rfl (Int.not_lt.mp h_53) ?_
          exact J_107 _ _ (K_50 _ (Option.some.inj H).symm).symm
      · refine z_icmp_ge_t (M := M_X1_holesFault) (tgt := 156) dX1_holesFault_71 (by decide) rfl rfl (Int.not_lt.mp h_41) ?_
        exact J_111 _ _ (K_38 _ (Option.some.inj H).symm).symm
    refine whl_go hw_8 (fun (hole_6, σ_7) => YY l E M_X1_holesFault 6 0 0 (pS (some (vi r)) σ') 21 [some (vr 177), some (vi part_0), some (vi x_4), some (vi hole_6), none] [] σ_7 0 0) ?_
    rintro ⟨hole_6, σ_7⟩ o_12 H K_13 K_14
    refine z_iload_n (M := M_X1_holesFault) dX1_holesFault_21 rfl ?_
    refine z_aload_n (M := M_X1_holesFault) dX1_holesFault_22 rfl ?_
    refine z_getR (M := M_X1_holesFault) (ci := 4) (C := RX1) (T := TX1) (Nf := 11) (ty := tyX1) cl4 dX1_holesFault_23 ly_177 9 (by decide) t_294 rfl ?_
    refine z_iload_n (M := M_X1_holesFault) dX1_holesFault_26 rfl ?_
    obtain ⟨x_15, x_15_e, hi_16, H⟩ := rd_e H
    refine z_iald (M := M_X1_holesFault) dX1_holesFault_27 ly_191 rfl rfl rfl hi_16 x_15_e ?_
    rcases if_e H with ⟨h_17, H⟩ | ⟨h_17, H⟩
    · refine z_icmp_ge_f (M := M_X1_holesFault) (tgt := 60) dX1_holesFault_28 (by decide) rfl rfl h_17 ?_
      refine z_aload_n (M := M_X1_holesFault) dX1_holesFault_31 rfl ?_
      refine z_iload_n (M := M_X1_holesFault) dX1_holesFault_32 rfl ?_
      refine z_iload_n (M := M_X1_holesFault) dX1_holesFault_33 rfl ?_
      obtain ⟨x_19, hc_18, H⟩ := bd_e H
      refine z_callV (M := M_X1_holesFault) (M' := M_X1_liesIn) (as := [vi hole_6, vi x_4]) (rest := []) rfl rfl dX1_holesFault_34 m_X1_liesIn t_1311 t_1313 s_58 (c_X1_liesIn hl  hc_18) rfl rfl ly_177 rfl (Nat.le_of_ble_eq_true rfl) (Nat.le_of_ble_eq_true rfl) (Nat.le_of_ble_eq_true rfl) (Nat.le_of_ble_eq_true rfl) ?_
      refine z_st (st' := [zv x_19]) rfl ?_
      rcases if_e H with ⟨h_20, H⟩ | ⟨h_20, H⟩
      · refine z_zne_t (M := M_X1_holesFault) (tgt := 54) dX1_holesFault_37 (by decide) h_20 ?_
        refine z_iinc (M := M_X1_holesFault) (lv' := [some (vr 177), some (vi part_0), some (vi x_4), some (vi (hole_6 + 1)), none]) dX1_holesFault_54 rfl (Nat.le_of_ble_eq_true rfl) rfl rfl ?_
        refine z_goto (M := M_X1_holesFault) (tgt := 21) dX1_holesFault_57 (by decide) ?_
        exact K_13 _ (Option.some.inj H).symm
      · refine z_zne_f (M := M_X1_holesFault) (tgt := 54) dX1_holesFault_37 (by decide) h_20 ?_
        refine z_aload_n (M := M_X1_holesFault) dX1_holesFault_40 rfl ?_
        refine z_bipush (M := M_X1_holesFault) dX1_holesFault_41 (by decide +kernel) ?_
        refine z_iload_n (M := M_X1_holesFault) dX1_holesFault_43 rfl ?_
        refine z_aload_n (M := M_X1_holesFault) dX1_holesFault_44 rfl ?_
        refine z_getR (M := M_X1_holesFault) (ci := 4) (C := RX1) (T := TX1) (Nf := 11) (ty := tyX1) cl4 dX1_holesFault_45 ly_177 4 (by decide) t_289 rfl ?_
        refine z_iload_n (M := M_X1_holesFault) dX1_holesFault_48 rfl ?_
        obtain ⟨x_22, x_22_e, hi_23, H⟩ := rd_e H
        refine z_iald (M := M_X1_holesFault) dX1_holesFault_49 ly_187 rfl rfl rfl hi_23 x_22_e ?_
        obtain ⟨⟨x_26, σ_25⟩, hc_24, H⟩ := bd_e H
        refine z_callV (M := M_X1_holesFault) (M' := M_X1_tell) (as := [vi 6, vi part_0, vi x_22]) (rest := []) rfl rfl dX1_holesFault_50 m_X1_tell t_1206 t_1208 s_45 (c_X1_tell hl  hc_24) rfl rfl ly_177 rfl (Nat.le_of_ble_eq_true rfl) (Nat.le_of_ble_eq_true rfl) (Nat.le_of_ble_eq_true rfl) (Nat.le_of_ble_eq_true rfl) ?_
        refine z_st (st' := [vi x_26]) rfl ?_
        have H := congrArg some (hk_10 _ ((K_14 _ (Option.some.inj H).symm).symm))
        cases H
        exact z_iret (M := M_X1_holesFault) dX1_holesFault_53 rfl (Nat.le_of_ble_eq_true rfl) (Nat.le_of_ble_eq_true rfl) ⟨rfl, rfl⟩
    · refine z_icmp_ge_t (M := M_X1_holesFault) (tgt := 60) dX1_holesFault_28 (by decide) rfl rfl (Int.not_lt.mp h_17) ?_
      exact J_112 _ _ (K_14 _ (Option.some.inj H).symm).symm
theorem c_X1_passes (hl : l.stackTraces = false) {σ : SG} {ring_0 : Int} {x_0 : Int} {y_0 : Int} {r : Bool}  (H : fJ_passes σ ring_0 x_0 y_0 = some r) : en_S l E M_X1_passes 4 0 0 [vr 177, vi ring_0, vi x_0, vi y_0] σ (pS (some (zv r)) σ) := by
  unfold fJ_passes at H
  refine z_mk (lv := [some (vr 177), some (vi ring_0), some (vi x_0), some (vi y_0), none]) m_X1_passes rfl hl (Nat.le_of_ble_eq_true rfl) rfl ?_
  refine z_aload_n (M := M_X1_passes) dX1_passes_0 rfl ?_
  refine z_getR (M := M_X1_passes) (ci := 4) (C := RX1) (T := TX1) (Nf := 11) (ty := tyX1) cl4 dX1_passes_1 ly_177 5 (by decide) t_290 rfl ?_
  refine z_iload_n (M := M_X1_passes) dX1_passes_4 rfl ?_
  obtain ⟨x_1, x_1_e, hi_2, H⟩ := rd_e H
  refine z_iald (M := M_X1_passes) dX1_passes_5 ly_188 rfl rfl rfl hi_2 x_1_e ?_
  refine z_istore (M := M_X1_passes) (lv' := [some (vr 177), some (vi ring_0), some (vi x_0), some (vi y_0), some (vi x_1)]) dX1_passes_6 (Nat.le_of_ble_eq_true rfl) rfl rfl ?_
  obtain ⟨rl_7, hw_4, hk_5, hk_6⟩ := bx_e H
  have J_26 : ∀ k_25, rl_7 = (.inl k_25) → YY l E M_X1_passes 4 0 0 (pS (some (zv r)) σ) 75 [some (vr 177), some (vi ring_0), some (vi x_0), some (vi y_0), some (vi k_25)] [] σ 0 0 := by
    intro k_25 e
    have H := hk_5 _ e
    refine z_zconst (M := M_X1_passes) (b := false) dX1_passes_75 rfl ?_
    cases H
    exact z_zret (M := M_X1_passes) dX1_passes_76 rfl (Nat.le_of_ble_eq_true rfl) (Nat.le_of_ble_eq_true rfl) ⟨rfl, rfl⟩
  refine whl_go hw_4 (fun k_3 => YY l E M_X1_passes 4 0 0 (pS (some (zv r)) σ) 8 [some (vr 177), some (vi ring_0), some (vi x_0), some (vi y_0), some (vi k_3)] [] σ 0 0) ?_
  rintro k_3 o_8 H K_9 K_10
  refine z_iload (M := M_X1_passes) dX1_passes_8 rfl ?_
  refine z_aload_n (M := M_X1_passes) dX1_passes_10 rfl ?_
  refine z_getR (M := M_X1_passes) (ci := 4) (C := RX1) (T := TX1) (Nf := 11) (ty := tyX1) cl4 dX1_passes_11 ly_177 6 (by decide) t_291 rfl ?_
  refine z_iload_n (M := M_X1_passes) dX1_passes_14 rfl ?_
  obtain ⟨x_11, x_11_e, hi_12, H⟩ := rd_e H
  refine z_iald (M := M_X1_passes) dX1_passes_15 ly_189 rfl rfl rfl hi_12 x_11_e ?_
  rcases if_e H with ⟨h_13, H⟩ | ⟨h_13, H⟩
  · refine z_icmp_ge_f (M := M_X1_passes) (tgt := 75) dX1_passes_16 (by decide) rfl rfl h_13 ?_
    refine z_aload_n (M := M_X1_passes) dX1_passes_19 rfl ?_
    refine z_getR (M := M_X1_passes) (ci := 4) (C := RX1) (T := TX1) (Nf := 11) (ty := tyX1) cl4 dX1_passes_20 ly_177 1 (by decide) t_286 rfl ?_
    refine z_getR (M := M_X1_passes) (ci := 8) (C := RX5) (T := TX5) (Nf := 8) (ty := tyX5) cl8 dX1_passes_23 (ly_G (by decide)) 0 (by decide) t_237 rfl ?_
    refine z_iload (M := M_X1_passes) dX1_passes_26 rfl ?_
    obtain ⟨x_14, x_14_e, hi_15, H⟩ := rd_e H
    refine z_iald (M := M_X1_passes) dX1_passes_28 ly_180 rfl rfl rfl hi_15 x_14_e ?_
    refine z_aload_n (M := M_X1_passes) dX1_passes_29 rfl ?_
    refine z_getR (M := M_X1_passes) (ci := 4) (C := RX1) (T := TX1) (Nf := 11) (ty := tyX1) cl4 dX1_passes_30 ly_177 1 (by decide) t_286 rfl ?_
    refine z_getR (M := M_X1_passes) (ci := 8) (C := RX5) (T := TX5) (Nf := 8) (ty := tyX5) cl8 dX1_passes_33 (ly_G (by decide)) 1 (by decide) t_241 rfl ?_
    refine z_iload (M := M_X1_passes) dX1_passes_36 rfl ?_
    obtain ⟨x_16, x_16_e, hi_17, H⟩ := rd_e H
    refine z_iald (M := M_X1_passes) dX1_passes_38 ly_181 rfl rfl rfl hi_17 x_16_e ?_
    refine z_aload_n (M := M_X1_passes) dX1_passes_39 rfl ?_
    refine z_getR (M := M_X1_passes) (ci := 4) (C := RX1) (T := TX1) (Nf := 11) (ty := tyX1) cl4 dX1_passes_40 ly_177 1 (by decide) t_286 rfl ?_
    refine z_getR (M := M_X1_passes) (ci := 8) (C := RX5) (T := TX5) (Nf := 8) (ty := tyX5) cl8 dX1_passes_43 (ly_G (by decide)) 2 (by decide) t_245 rfl ?_
    refine z_iload (M := M_X1_passes) dX1_passes_46 rfl ?_
    obtain ⟨x_18, x_18_e, hi_19, H⟩ := rd_e H
    refine z_iald (M := M_X1_passes) dX1_passes_48 ly_182 rfl rfl rfl hi_19 x_18_e ?_
    refine z_aload_n (M := M_X1_passes) dX1_passes_49 rfl ?_
    refine z_getR (M := M_X1_passes) (ci := 4) (C := RX1) (T := TX1) (Nf := 11) (ty := tyX1) cl4 dX1_passes_50 ly_177 1 (by decide) t_286 rfl ?_
    refine z_getR (M := M_X1_passes) (ci := 8) (C := RX5) (T := TX5) (Nf := 8) (ty := tyX5) cl8 dX1_passes_53 (ly_G (by decide)) 3 (by decide) t_249 rfl ?_
    refine z_iload (M := M_X1_passes) dX1_passes_56 rfl ?_
    obtain ⟨x_20, x_20_e, hi_21, H⟩ := rd_e H
    refine z_iald (M := M_X1_passes) dX1_passes_58 ly_183 rfl rfl rfl hi_21 x_20_e ?_
    refine z_iload_n (M := M_X1_passes) dX1_passes_59 rfl ?_
    refine z_iload_n (M := M_X1_passes) dX1_passes_60 rfl ?_
    refine z_callSN (M := M_X1_passes) (M' := M_X11_isOnSegment) (as := [vi x_14, vi x_16, vi x_18, vi x_20, vi x_0, vi y_0]) (rest := []) rfl rfl dX1_passes_61 m_X11_isOnSegment n_1319 t_1320 (c_X11_isOnSegment hl  rfl) rfl rfl (Nat.le_of_ble_eq_true rfl) (Nat.le_of_ble_eq_true rfl) (Nat.le_of_ble_eq_true rfl) (Nat.le_of_ble_eq_true rfl) ?_
    refine z_st (st' := [zv (fQ_isOnSegment x_14 x_16 x_18 x_20 x_0 y_0)]) rfl ?_
    rcases if_e H with ⟨h_22, H⟩ | ⟨h_22, H⟩
    · refine z_zeq_f (M := M_X1_passes) (tgt := 69) dX1_passes_64 (by decide) h_22 ?_
      refine z_zconst (M := M_X1_passes) (b := true) dX1_passes_67 rfl ?_
      have H := congrArg some (hk_6 _ ((K_10 _ (Option.some.inj H).symm).symm))
      cases H
      exact z_zret (M := M_X1_passes) dX1_passes_68 rfl (Nat.le_of_ble_eq_true rfl) (Nat.le_of_ble_eq_true rfl) ⟨rfl, rfl⟩
    · refine z_zeq_t (M := M_X1_passes) (tgt := 69) dX1_passes_64 (by decide) h_22 ?_
      refine z_iinc (M := M_X1_passes) (lv' := [some (vr 177), some (vi ring_0), some (vi x_0), some (vi y_0), some (vi (k_3 + 1))]) dX1_passes_69 rfl (Nat.le_of_ble_eq_true rfl) rfl rfl ?_
      refine z_goto (M := M_X1_passes) (tgt := 8) dX1_passes_72 (by decide) ?_
      exact K_9 _ (Option.some.inj H).symm
  · refine z_icmp_ge_t (M := M_X1_passes) (tgt := 75) dX1_passes_16 (by decide) rfl rfl (Int.not_lt.mp h_13) ?_
    exact J_26 _ (K_10 _ (Option.some.inj H).symm).symm
theorem c_X1_rootOf (hl : l.stackTraces = false) {σ : SG} {ring_0 : Int} {r : Int}  (H : fJ_rootOf σ ring_0 = some r) : en_S l E M_X1_rootOf 1 0 0 [vr 177, vi ring_0] σ (pS (some (vi r)) σ) := by
  unfold fJ_rootOf at H
  refine z_mk (lv := [some (vr 177), some (vi ring_0), none, none]) m_X1_rootOf rfl hl (Nat.le_of_ble_eq_true rfl) rfl ?_
  refine z_iload_n (M := M_X1_rootOf) dX1_rootOf_0 rfl ?_
  refine z_istore_n (M := M_X1_rootOf) (lv' := [some (vr 177), some (vi ring_0), some (vi ring_0), none]) dX1_rootOf_1 (Nat.le_of_ble_eq_true rfl) rfl rfl ?_
  refine z_iconst (M := M_X1_rootOf) dX1_rootOf_2 ?_
  refine z_istore_n (M := M_X1_rootOf) (lv' := [some (vr 177), some (vi ring_0), some (vi ring_0), some (vi 0)]) dX1_rootOf_3 (Nat.le_of_ble_eq_true rfl) rfl rfl ?_
  obtain ⟨rl_6, hw_3, hk_4⟩ := bd_e H
  have J_29 : ∀ root_27 step_28, rl_6 = (root_27, step_28) → YY l E M_X1_rootOf 1 0 0 (pS (some (vi r)) σ) 35 [some (vr 177), some (vi ring_0), some (vi root_27), some (vi step_28)] [] σ 0 0 := by
    intro root_27 step_28 e
    have H := hk_4
    rw [e] at H
    refine z_iload_n (M := M_X1_rootOf) dX1_rootOf_35 rfl ?_
    cases H
    exact z_iret (M := M_X1_rootOf) dX1_rootOf_36 rfl (Nat.le_of_ble_eq_true rfl) (Nat.le_of_ble_eq_true rfl) ⟨rfl, rfl⟩
  refine whl_go hw_3 (fun (root_1, step_2) => YY l E M_X1_rootOf 1 0 0 (pS (some (vi r)) σ) 4 [some (vr 177), some (vi ring_0), some (vi root_1), some (vi step_2)] [] σ 0 0) ?_
  rintro ⟨root_1, step_2⟩ o_7 H K_8 K_9
  refine z_iload_n (M := M_X1_rootOf) dX1_rootOf_4 rfl ?_
  refine z_aload_n (M := M_X1_rootOf) dX1_rootOf_5 rfl ?_
  refine z_getI (M := M_X1_rootOf) (ci := 4) (C := RX1) (T := TX1) (Nf := 11) (ty := tyX1) cl4 dX1_rootOf_6 ly_177 7 (by decide) t_292 rfl rfl ?_
  rcases if_e H with ⟨h_18, H⟩ | ⟨h_18, H⟩
  · refine z_icmp_ge_f (M := M_X1_rootOf) (tgt := 35) dX1_rootOf_9 (by decide) rfl rfl h_18 ?_
    refine z_aload_n (M := M_X1_rootOf) dX1_rootOf_12 rfl ?_
    refine z_getR (M := M_X1_rootOf) (ci := 4) (C := RX1) (T := TX1) (Nf := 11) (ty := tyX1) cl4 dX1_rootOf_13 ly_177 10 (by decide) t_295 rfl ?_
    refine z_iload_n (M := M_X1_rootOf) dX1_rootOf_16 rfl ?_
    obtain ⟨x_19, x_19_e, hi_20, H⟩ := rd_e H
    refine z_iald (M := M_X1_rootOf) dX1_rootOf_17 ly_192 rfl rfl rfl hi_20 x_19_e ?_
    refine z_iload_n (M := M_X1_rootOf) dX1_rootOf_18 rfl ?_
    rcases if_e H with ⟨h_21, H⟩ | ⟨h_21, H⟩
    · refine z_icmp_eq_f (M := M_X1_rootOf) (tgt := 35) dX1_rootOf_19 (by decide) rfl rfl h_21 ?_
      refine z_aload_n (M := M_X1_rootOf) dX1_rootOf_22 rfl ?_
      refine z_getR (M := M_X1_rootOf) (ci := 4) (C := RX1) (T := TX1) (Nf := 11) (ty := tyX1) cl4 dX1_rootOf_23 ly_177 10 (by decide) t_295 rfl ?_
      refine z_iload_n (M := M_X1_rootOf) dX1_rootOf_26 rfl ?_
      obtain ⟨x_22, x_22_e, hi_23, H⟩ := rd_e H
      refine z_iald (M := M_X1_rootOf) dX1_rootOf_27 ly_192 rfl rfl rfl hi_23 x_22_e ?_
      refine z_istore_n (M := M_X1_rootOf) (lv' := [some (vr 177), some (vi ring_0), some (vi x_22), some (vi step_2)]) dX1_rootOf_28 (Nat.le_of_ble_eq_true rfl) rfl rfl ?_
      refine z_iinc (M := M_X1_rootOf) (lv' := [some (vr 177), some (vi ring_0), some (vi x_22), some (vi (step_2 + 1))]) dX1_rootOf_29 rfl (Nat.le_of_ble_eq_true rfl) rfl rfl ?_
      refine z_goto (M := M_X1_rootOf) (tgt := 4) dX1_rootOf_32 (by decide) ?_
      exact K_8 _ (Option.some.inj H).symm
    · refine z_icmp_eq_t (M := M_X1_rootOf) (tgt := 35) dX1_rootOf_19 (by decide) rfl rfl (Decidable.not_not.mp h_21) ?_
      exact J_29 _ _ (K_9 _ (Option.some.inj H).symm).symm
  · refine z_icmp_ge_t (M := M_X1_rootOf) (tgt := 35) dX1_rootOf_9 (by decide) rfl rfl (Int.not_lt.mp h_18) ?_
    exact J_29 _ _ (K_9 _ (Option.some.inj H).symm).symm
theorem c_X5_begins (hl : l.stackTraces = false) {σ : SG} {this_0 : Nat} {i_0 : Int} {x_0 : Int} {y_0 : Int} {r : Bool} (h_this : isG this_0) (H : fE_begins σ this_0 i_0 x_0 y_0 = some r) : en_S l E M_X5_begins 1 0 0 [vr this_0, vi i_0, vi x_0, vi y_0] σ (pS (some (zv r)) σ) := by
  unfold fE_begins at H
  refine z_mk (lv := [some (vr this_0), some (vi i_0), some (vi x_0), some (vi y_0)]) m_X5_begins rfl hl (Nat.le_of_ble_eq_true rfl) rfl ?_
  obtain ⟨v_11, he_12, hk_13⟩ := bd_e H
  have J_14 : ∀ x_10, v_11 = x_10 → YY l E M_X5_begins 1 0 0 (pS (some (zv r)) σ) 25 [some (vr this_0), some (vi i_0), some (vi x_0), some (vi y_0)] [zv x_10] σ 0 0 := by
    intro x_10 e
    have H := hk_13
    rw [e] at H
    cases H
    exact z_zret (M := M_X5_begins) dX5_begins_25 rfl (Nat.le_of_ble_eq_true rfl) (Nat.le_of_ble_eq_true rfl) ⟨rfl, rfl⟩
  have H := he_12
  refine z_aload_n (M := M_X5_begins) dX5_begins_0 rfl ?_
  refine z_getR (M := M_X5_begins) (ci := 8) (C := RX5) (T := TX5) (Nf := 8) (ty := tyX5) cl8 dX5_begins_1 (ly_G h_this) 0 (by decide) t_234 rfl ?_
  refine z_iload_n (M := M_X5_begins) dX5_begins_4 rfl ?_
  obtain ⟨x_1, x_1_e, hi_2, H⟩ := rd_e H
  refine z_iald (M := M_X5_begins) dX5_begins_5 (ly_Gi (k := 1) h_this (by decide) (by decide)) rfl rfl rfl hi_2 x_1_e ?_
  refine z_iload_n (M := M_X5_begins) dX5_begins_6 rfl ?_
  rcases if_e H with ⟨h_3, H⟩ | ⟨h_3, H⟩
  · refine z_icmp_ne_f (M := M_X5_begins) (tgt := 24) dX5_begins_7 (by decide) rfl rfl h_3 ?_
    refine z_aload_n (M := M_X5_begins) dX5_begins_10 rfl ?_
    refine z_getR (M := M_X5_begins) (ci := 8) (C := RX5) (T := TX5) (Nf := 8) (ty := tyX5) cl8 dX5_begins_11 (ly_G h_this) 1 (by decide) t_238 rfl ?_
    refine z_iload_n (M := M_X5_begins) dX5_begins_14 rfl ?_
    obtain ⟨x_4, x_4_e, hi_5, H⟩ := rd_e H
    refine z_iald (M := M_X5_begins) dX5_begins_15 (ly_Gi (k := 2) h_this (by decide) (by decide)) rfl rfl rfl hi_5 x_4_e ?_
    refine z_iload_n (M := M_X5_begins) dX5_begins_16 rfl ?_
    rcases if_e H with ⟨h_6, H⟩ | ⟨h_6, H⟩
    · refine z_icmp_ne_f (M := M_X5_begins) (tgt := 24) dX5_begins_17 (by decide) rfl rfl h_6 ?_
      refine z_zconst (M := M_X5_begins) (b := true) dX5_begins_20 rfl ?_
      refine z_goto (M := M_X5_begins) (tgt := 25) dX5_begins_21 (by decide) ?_
      exact J_14 _ (Option.some.inj H).symm
    · refine z_icmp_ne_t (M := M_X5_begins) (tgt := 24) dX5_begins_17 (by decide) rfl rfl h_6 ?_
      refine z_zconst (M := M_X5_begins) (b := false) dX5_begins_24 rfl ?_
      exact J_14 _ (Option.some.inj H).symm
  · refine z_icmp_ne_t (M := M_X5_begins) (tgt := 24) dX5_begins_7 (by decide) rfl rfl h_3 ?_
    refine z_zconst (M := M_X5_begins) (b := false) dX5_begins_24 rfl ?_
    exact J_14 _ (Option.some.inj H).symm
theorem c_X1_joinsInRound (hl : l.stackTraces = false) {σ : SG} {part_0 : Int} {ring_0 : Int} {x_0 : Int} {y_0 : Int} {r : Bool} {σ' : SG}  (H : fJ_joinsInRound σ part_0 ring_0 x_0 y_0 = some (r, σ')) : en_S l E M_X1_joinsInRound 5 0 0 [vr 177, vi part_0, vi ring_0, vi x_0, vi y_0] σ (pS (some (zv r)) σ') := by
  unfold fJ_joinsInRound at H
  refine z_mk (lv := [some (vr 177), some (vi part_0), some (vi ring_0), some (vi x_0), some (vi y_0), none, none, none]) m_X1_joinsInRound rfl hl (Nat.le_of_ble_eq_true rfl) rfl ?_
  refine z_aload_n (M := M_X1_joinsInRound) dX1_joinsInRound_0 rfl ?_
  refine z_getR (M := M_X1_joinsInRound) (ci := 4) (C := RX1) (T := TX1) (Nf := 11) (ty := tyX1) cl4 dX1_joinsInRound_1 ly_177 5 (by decide) t_290 rfl ?_
  refine z_aload_n (M := M_X1_joinsInRound) dX1_joinsInRound_4 rfl ?_
  refine z_getR (M := M_X1_joinsInRound) (ci := 4) (C := RX1) (T := TX1) (Nf := 11) (ty := tyX1) cl4 dX1_joinsInRound_5 ly_177 8 (by decide) t_293 rfl ?_
  refine z_iload_n (M := M_X1_joinsInRound) dX1_joinsInRound_8 rfl ?_
  obtain ⟨x_1, x_1_e, hi_2, H⟩ := rd_e H
  refine z_iald (M := M_X1_joinsInRound) dX1_joinsInRound_9 ly_190 rfl rfl rfl hi_2 x_1_e ?_
  obtain ⟨x_3, x_3_e, hi_4, H⟩ := rd_e H
  refine z_iald (M := M_X1_joinsInRound) dX1_joinsInRound_10 ly_188 rfl rfl rfl hi_4 x_3_e ?_
  refine z_istore (M := M_X1_joinsInRound) (lv' := [some (vr 177), some (vi part_0), some (vi ring_0), some (vi x_0), some (vi y_0), some (vi x_3), none, none]) dX1_joinsInRound_11 (Nat.le_of_ble_eq_true rfl) rfl rfl ?_
  obtain ⟨rl_9, hw_6, hk_7, hk_8⟩ := bx_e H
  have J_62 : ∀ k_21, rl_9 = (.inl k_21) → YY l E M_X1_joinsInRound 5 0 0 (pS (some (zv r)) σ') 47 [some (vr 177), some (vi part_0), some (vi ring_0), some (vi x_0), some (vi y_0), some (vi k_21), none, none] [] σ 0 0 := by
    intro k_21 e
    have H := hk_7 _ e
    refine z_aload_n (M := M_X1_joinsInRound) dX1_joinsInRound_47 rfl ?_
    refine z_getR (M := M_X1_joinsInRound) (ci := 4) (C := RX1) (T := TX1) (Nf := 11) (ty := tyX1) cl4 dX1_joinsInRound_48 ly_177 8 (by decide) t_293 rfl ?_
    refine z_iload_n (M := M_X1_joinsInRound) dX1_joinsInRound_51 rfl ?_
    obtain ⟨x_22, x_22_e, hi_23, H⟩ := rd_e H
    refine z_iald (M := M_X1_joinsInRound) dX1_joinsInRound_52 ly_190 rfl rfl rfl hi_23 x_22_e ?_
    refine z_istore (M := M_X1_joinsInRound) (lv' := [some (vr 177), some (vi part_0), some (vi ring_0), some (vi x_0), some (vi y_0), some (vi x_22), none, none]) dX1_joinsInRound_53 (Nat.le_of_ble_eq_true rfl) rfl rfl ?_
    obtain ⟨rl_29, hw_26, hk_27, hk_28⟩ := bx_e H
    have J_61 : ∀ other_59 σ_60, rl_29 = (.inl (other_59, σ_60)) → YY l E M_X1_joinsInRound 5 0 0 (pS (some (zv r)) σ') 126 [some (vr 177), some (vi part_0), some (vi ring_0), some (vi x_0), some (vi y_0), some (vi other_59), none, none] [] σ_60 0 0 := by
      intro other_59 σ_60 e
      have H := hk_27 _ e
      refine z_zconst (M := M_X1_joinsInRound) (b := false) dX1_joinsInRound_126 rfl ?_
      cases H
      exact z_zret (M := M_X1_joinsInRound) dX1_joinsInRound_127 rfl (Nat.le_of_ble_eq_true rfl) (Nat.le_of_ble_eq_true rfl) ⟨rfl, rfl⟩
    refine whl_go hw_26 (fun (other_24, σ_25) => YY l E M_X1_joinsInRound 5 0 0 (pS (some (zv r)) σ') 55 [some (vr 177), some (vi part_0), some (vi ring_0), some (vi x_0), some (vi y_0), some (vi other_24), none, none] [] σ_25 0 0) ?_
    rintro ⟨other_24, σ_25⟩ o_30 H K_31 K_32
    refine z_iload (M := M_X1_joinsInRound) dX1_joinsInRound_55 rfl ?_
    refine z_aload_n (M := M_X1_joinsInRound) dX1_joinsInRound_57 rfl ?_
    refine z_getR (M := M_X1_joinsInRound) (ci := 4) (C := RX1) (T := TX1) (Nf := 11) (ty := tyX1) cl4 dX1_joinsInRound_58 ly_177 9 (by decide) t_294 rfl ?_
    refine z_iload_n (M := M_X1_joinsInRound) dX1_joinsInRound_61 rfl ?_
    obtain ⟨x_33, x_33_e, hi_34, H⟩ := rd_e H
    refine z_iald (M := M_X1_joinsInRound) dX1_joinsInRound_62 ly_191 rfl rfl rfl hi_34 x_33_e ?_
    rcases if_e H with ⟨h_35, H⟩ | ⟨h_35, H⟩
    · refine z_icmp_ge_f (M := M_X1_joinsInRound) (tgt := 126) dX1_joinsInRound_63 (by decide) rfl rfl h_35 ?_
      refine z_iload (M := M_X1_joinsInRound) dX1_joinsInRound_66 rfl ?_
      refine z_iload_n (M := M_X1_joinsInRound) dX1_joinsInRound_68 rfl ?_
      rcases if_e H with ⟨h_44, H⟩ | ⟨h_44, H⟩
      · refine z_icmp_eq_t (M := M_X1_joinsInRound) (tgt := 120) dX1_joinsInRound_69 (by decide) rfl rfl h_44 ?_
        refine z_iinc (M := M_X1_joinsInRound) (lv' := [some (vr 177), some (vi part_0), some (vi ring_0), some (vi x_0), some (vi y_0), some (vi (other_24 + 1)), none, none]) dX1_joinsInRound_120 rfl (Nat.le_of_ble_eq_true rfl) rfl rfl ?_
        refine z_goto (M := M_X1_joinsInRound) (tgt := 55) dX1_joinsInRound_123 (by decide) ?_
        exact K_31 _ (Option.some.inj H).symm
      · refine z_icmp_eq_f (M := M_X1_joinsInRound) (tgt := 120) dX1_joinsInRound_69 (by decide) rfl rfl h_44 ?_
        refine z_aload_n (M := M_X1_joinsInRound) dX1_joinsInRound_72 rfl ?_
        refine z_iload (M := M_X1_joinsInRound) dX1_joinsInRound_73 rfl ?_
        refine z_iload_n (M := M_X1_joinsInRound) dX1_joinsInRound_75 rfl ?_
        refine z_iload (M := M_X1_joinsInRound) dX1_joinsInRound_76 rfl ?_
        obtain ⟨x_47, hc_46, H⟩ := bd_e H
        refine z_callV (M := M_X1_joinsInRound) (M' := M_X1_passes) (as := [vi other_24, vi x_0, vi y_0]) (rest := []) rfl rfl dX1_joinsInRound_78 m_X1_passes t_1340 t_1342 s_63 (c_X1_passes hl  hc_46) rfl rfl ly_177 rfl (Nat.le_of_ble_eq_true rfl) (Nat.le_of_ble_eq_true rfl) (Nat.le_of_ble_eq_true rfl) (Nat.le_of_ble_eq_true rfl) ?_
        refine z_st (st' := [zv x_47]) rfl ?_
        rcases if_e H with ⟨h_48, H⟩ | ⟨h_48, H⟩
        · refine z_zne_t (M := M_X1_joinsInRound) (tgt := 87) dX1_joinsInRound_81 (by decide) h_48 ?_
          refine z_aload_n (M := M_X1_joinsInRound) dX1_joinsInRound_87 rfl ?_
          refine z_iload_n (M := M_X1_joinsInRound) dX1_joinsInRound_88 rfl ?_
          obtain ⟨x_50, hc_49, H⟩ := bd_e H
          refine z_callV (M := M_X1_joinsInRound) (M' := M_X1_rootOf) (as := [vi ring_0]) (rest := []) rfl rfl dX1_joinsInRound_89 m_X1_rootOf t_1344 t_1346 s_64 (c_X1_rootOf hl  hc_49) rfl rfl ly_177 rfl (Nat.le_of_ble_eq_true rfl) (Nat.le_of_ble_eq_true rfl) (Nat.le_of_ble_eq_true rfl) (Nat.le_of_ble_eq_true rfl) ?_
          refine z_st (st' := [vi x_50]) rfl ?_
          refine z_istore (M := M_X1_joinsInRound) (lv' := [some (vr 177), some (vi part_0), some (vi ring_0), some (vi x_0), some (vi y_0), some (vi other_24), some (vi x_50), none]) dX1_joinsInRound_92 (Nat.le_of_ble_eq_true rfl) rfl rfl ?_
          refine z_aload_n (M := M_X1_joinsInRound) dX1_joinsInRound_94 rfl ?_
          refine z_iload (M := M_X1_joinsInRound) dX1_joinsInRound_95 rfl ?_
          obtain ⟨x_52, hc_51, H⟩ := bd_e H
          refine z_callV (M := M_X1_joinsInRound) (M' := M_X1_rootOf) (as := [vi other_24]) (rest := []) rfl rfl dX1_joinsInRound_97 m_X1_rootOf t_1344 t_1346 s_64 (c_X1_rootOf hl  hc_51) rfl rfl ly_177 rfl (Nat.le_of_ble_eq_true rfl) (Nat.le_of_ble_eq_true rfl) (Nat.le_of_ble_eq_true rfl) (Nat.le_of_ble_eq_true rfl) ?_
          refine z_st (st' := [vi x_52]) rfl ?_
          refine z_istore (M := M_X1_joinsInRound) (lv' := [some (vr 177), some (vi part_0), some (vi ring_0), some (vi x_0), some (vi y_0), some (vi other_24), some (vi x_50), some (vi x_52)]) dX1_joinsInRound_100 (Nat.le_of_ble_eq_true rfl) rfl rfl ?_
          refine z_iload (M := M_X1_joinsInRound) dX1_joinsInRound_102 rfl ?_
          refine z_iload (M := M_X1_joinsInRound) dX1_joinsInRound_104 rfl ?_
          rcases if_e H with ⟨h_53, H⟩ | ⟨h_53, H⟩
          · refine z_icmp_ne_f (M := M_X1_joinsInRound) (tgt := 111) dX1_joinsInRound_106 (by decide) rfl rfl h_53 ?_
            refine z_zconst (M := M_X1_joinsInRound) (b := true) dX1_joinsInRound_109 rfl ?_
            have H := congrArg some (hk_28 _ ((K_32 _ (Option.some.inj H).symm).symm))
            cases H
            exact z_zret (M := M_X1_joinsInRound) dX1_joinsInRound_110 rfl (Nat.le_of_ble_eq_true rfl) (Nat.le_of_ble_eq_true rfl) ⟨rfl, rfl⟩
          · refine z_icmp_ne_t (M := M_X1_joinsInRound) (tgt := 111) dX1_joinsInRound_106 (by decide) rfl rfl h_53 ?_
            refine z_aload_n (M := M_X1_joinsInRound) dX1_joinsInRound_111 rfl ?_
            refine z_getR (M := M_X1_joinsInRound) (ci := 4) (C := RX1) (T := TX1) (Nf := 11) (ty := tyX1) cl4 dX1_joinsInRound_112 ly_177 10 (by decide) t_295 rfl ?_
            refine z_iload (M := M_X1_joinsInRound) dX1_joinsInRound_115 rfl ?_
            refine z_iload (M := M_X1_joinsInRound) dX1_joinsInRound_117 rfl ?_
            obtain ⟨σ_54, σ_54_e, hi_55, H⟩ := wa_e H
            refine z_iast (M := M_X1_joinsInRound) dX1_joinsInRound_119 ly_192 rfl rfl rfl hi_55 σ_54_e ?_
            refine z_iinc (M := M_X1_joinsInRound) (lv' := [some (vr 177), some (vi part_0), some (vi ring_0), some (vi x_0), some (vi y_0), some (vi (other_24 + 1)), some (vi x_50), some (vi x_52)]) dX1_joinsInRound_120 rfl (Nat.le_of_ble_eq_true rfl) rfl rfl ?_
            refine z_goto (M := M_X1_joinsInRound) (tgt := 55) dX1_joinsInRound_123 (by decide) ?_
            refine z_le (lv' := [some (vr 177), some (vi part_0), some (vi ring_0), some (vi x_0), some (vi y_0), some (vi (other_24 + 1)), none, none]) ⟨Or.inr rfl, Or.inr rfl, Or.inr rfl, Or.inr rfl, Or.inr rfl, Or.inr rfl, Or.inl rfl, Or.inl rfl, trivial⟩ ?_
            exact K_31 _ (Option.some.inj H).symm
        · refine z_zne_f (M := M_X1_joinsInRound) (tgt := 87) dX1_joinsInRound_81 (by decide) h_48 ?_
          refine z_goto (M := M_X1_joinsInRound) (tgt := 120) dX1_joinsInRound_84 (by decide) ?_
          refine z_iinc (M := M_X1_joinsInRound) (lv' := [some (vr 177), some (vi part_0), some (vi ring_0), some (vi x_0), some (vi y_0), some (vi (other_24 + 1)), none, none]) dX1_joinsInRound_120 rfl (Nat.le_of_ble_eq_true rfl) rfl rfl ?_
          refine z_goto (M := M_X1_joinsInRound) (tgt := 55) dX1_joinsInRound_123 (by decide) ?_
          exact K_31 _ (Option.some.inj H).symm
    · refine z_icmp_ge_t (M := M_X1_joinsInRound) (tgt := 126) dX1_joinsInRound_63 (by decide) rfl rfl (Int.not_lt.mp h_35) ?_
      exact J_61 _ _ (K_32 _ (Option.some.inj H).symm).symm
  refine whl_go hw_6 (fun k_5 => YY l E M_X1_joinsInRound 5 0 0 (pS (some (zv r)) σ') 13 [some (vr 177), some (vi part_0), some (vi ring_0), some (vi x_0), some (vi y_0), some (vi k_5), none, none] [] σ 0 0) ?_
  rintro k_5 o_10 H K_11 K_12
  refine z_iload (M := M_X1_joinsInRound) dX1_joinsInRound_13 rfl ?_
  refine z_aload_n (M := M_X1_joinsInRound) dX1_joinsInRound_15 rfl ?_
  refine z_getR (M := M_X1_joinsInRound) (ci := 4) (C := RX1) (T := TX1) (Nf := 11) (ty := tyX1) cl4 dX1_joinsInRound_16 ly_177 5 (by decide) t_290 rfl ?_
  refine z_iload_n (M := M_X1_joinsInRound) dX1_joinsInRound_19 rfl ?_
  obtain ⟨x_13, x_13_e, hi_14, H⟩ := rd_e H
  refine z_iald (M := M_X1_joinsInRound) dX1_joinsInRound_20 ly_188 rfl rfl rfl hi_14 x_13_e ?_
  rcases if_e H with ⟨h_15, H⟩ | ⟨h_15, H⟩
  · refine z_icmp_ge_f (M := M_X1_joinsInRound) (tgt := 47) dX1_joinsInRound_21 (by decide) rfl rfl h_15 ?_
    refine z_aload_n (M := M_X1_joinsInRound) dX1_joinsInRound_24 rfl ?_
    refine z_getR (M := M_X1_joinsInRound) (ci := 4) (C := RX1) (T := TX1) (Nf := 11) (ty := tyX1) cl4 dX1_joinsInRound_25 ly_177 1 (by decide) t_286 rfl ?_
    refine z_iload (M := M_X1_joinsInRound) dX1_joinsInRound_28 rfl ?_
    refine z_iload_n (M := M_X1_joinsInRound) dX1_joinsInRound_30 rfl ?_
    refine z_iload (M := M_X1_joinsInRound) dX1_joinsInRound_31 rfl ?_
    obtain ⟨x_17, hc_16, H⟩ := bd_e H
    refine z_callV (M := M_X1_joinsInRound) (M' := M_X5_begins) (as := [vi k_5, vi x_0, vi y_0]) (rest := []) rfl rfl dX1_joinsInRound_33 m_X5_begins t_1282 t_1283 t_1284 (c_X5_begins hl (by decide) hc_16) rfl rfl (ly_G (by decide)) rfl (Nat.le_of_ble_eq_true rfl) (Nat.le_of_ble_eq_true rfl) (Nat.le_of_ble_eq_true rfl) (Nat.le_of_ble_eq_true rfl) ?_
    refine z_st (st' := [zv x_17]) rfl ?_
    rcases if_e H with ⟨h_18, H⟩ | ⟨h_18, H⟩
    · refine z_zeq_f (M := M_X1_joinsInRound) (tgt := 41) dX1_joinsInRound_36 (by decide) h_18 ?_
      refine z_zconst (M := M_X1_joinsInRound) (b := false) dX1_joinsInRound_39 rfl ?_
      have H := congrArg some (hk_8 _ ((K_12 _ (Option.some.inj H).symm).symm))
      cases H
      exact z_zret (M := M_X1_joinsInRound) dX1_joinsInRound_40 rfl (Nat.le_of_ble_eq_true rfl) (Nat.le_of_ble_eq_true rfl) ⟨rfl, rfl⟩
    · refine z_zeq_t (M := M_X1_joinsInRound) (tgt := 41) dX1_joinsInRound_36 (by decide) h_18 ?_
      refine z_iinc (M := M_X1_joinsInRound) (lv' := [some (vr 177), some (vi part_0), some (vi ring_0), some (vi x_0), some (vi y_0), some (vi (k_5 + 1)), none, none]) dX1_joinsInRound_41 rfl (Nat.le_of_ble_eq_true rfl) rfl rfl ?_
      refine z_goto (M := M_X1_joinsInRound) (tgt := 13) dX1_joinsInRound_44 (by decide) ?_
      exact K_11 _ (Option.some.inj H).symm
  · refine z_icmp_ge_t (M := M_X1_joinsInRound) (tgt := 47) dX1_joinsInRound_21 (by decide) rfl rfl (Int.not_lt.mp h_15) ?_
    exact J_62 _ (K_12 _ (Option.some.inj H).symm).symm
theorem c_X1_isSplit (hl : l.stackTraces = false) {σ : SG} {part_0 : Int} {r : Bool} {σ' : SG}  (H : fJ_isSplit σ part_0 = some (r, σ')) : en_S l E M_X1_isSplit 6 0 0 [vr 177, vi part_0] σ (pS (some (zv r)) σ') := by
  unfold fJ_isSplit at H
  refine z_mk (lv := [some (vr 177), some (vi part_0), none, none]) m_X1_isSplit rfl hl (Nat.le_of_ble_eq_true rfl) rfl ?_
  refine z_aload_n (M := M_X1_isSplit) dX1_isSplit_0 rfl ?_
  refine z_getR (M := M_X1_isSplit) (ci := 4) (C := RX1) (T := TX1) (Nf := 11) (ty := tyX1) cl4 dX1_isSplit_1 ly_177 9 (by decide) t_294 rfl ?_
  refine z_iload_n (M := M_X1_isSplit) dX1_isSplit_4 rfl ?_
  obtain ⟨x_1, x_1_e, hi_2, H⟩ := rd_e H
  refine z_iald (M := M_X1_isSplit) dX1_isSplit_5 ly_191 rfl rfl rfl hi_2 x_1_e ?_
  refine z_aload_n (M := M_X1_isSplit) dX1_isSplit_6 rfl ?_
  refine z_getR (M := M_X1_isSplit) (ci := 4) (C := RX1) (T := TX1) (Nf := 11) (ty := tyX1) cl4 dX1_isSplit_7 ly_177 8 (by decide) t_293 rfl ?_
  refine z_iload_n (M := M_X1_isSplit) dX1_isSplit_10 rfl ?_
  obtain ⟨x_3, x_3_e, hi_4, H⟩ := rd_e H
  refine z_iald (M := M_X1_isSplit) dX1_isSplit_11 ly_190 rfl rfl rfl hi_4 x_3_e ?_
  refine z_isub (M := M_X1_isSplit) dX1_isSplit_12 ?_
  refine z_iconst (M := M_X1_isSplit) dX1_isSplit_13 ?_
  rcases if_e H with ⟨h_5, H⟩ | ⟨h_5, H⟩
  · refine z_icmp_ge_f (M := M_X1_isSplit) (tgt := 19) dX1_isSplit_14 (by decide) rfl (by decide +kernel) h_5 ?_
    refine z_zconst (M := M_X1_isSplit) (b := false) dX1_isSplit_17 rfl ?_
    cases H
    exact z_zret (M := M_X1_isSplit) dX1_isSplit_18 rfl (Nat.le_of_ble_eq_true rfl) (Nat.le_of_ble_eq_true rfl) ⟨rfl, rfl⟩
  · refine z_icmp_ge_t (M := M_X1_isSplit) (tgt := 19) dX1_isSplit_14 (by decide) rfl (by decide +kernel) (Int.not_lt.mp h_5) ?_
    refine z_aload_n (M := M_X1_isSplit) dX1_isSplit_19 rfl ?_
    refine z_getR (M := M_X1_isSplit) (ci := 4) (C := RX1) (T := TX1) (Nf := 11) (ty := tyX1) cl4 dX1_isSplit_20 ly_177 8 (by decide) t_293 rfl ?_
    refine z_iload_n (M := M_X1_isSplit) dX1_isSplit_23 rfl ?_
    obtain ⟨x_6, x_6_e, hi_7, H⟩ := rd_e H
    refine z_iald (M := M_X1_isSplit) dX1_isSplit_24 ly_190 rfl rfl rfl hi_7 x_6_e ?_
    refine z_istore_n (M := M_X1_isSplit) (lv' := [some (vr 177), some (vi part_0), some (vi x_6), none]) dX1_isSplit_25 (Nat.le_of_ble_eq_true rfl) rfl rfl ?_
    obtain ⟨rl_13, hw_10, hk_11⟩ := bd_e H
    have J_72 : ∀ ring_24 σ_25, rl_13 = (ring_24, σ_25) → YY l E M_X1_isSplit 6 0 0 (pS (some (zv r)) σ') 49 [some (vr 177), some (vi part_0), some (vi ring_24), none] [] σ_25 0 0 := by
      intro ring_24 σ_25 e
      have H := hk_11
      rw [e] at H
      refine z_aload_n (M := M_X1_isSplit) dX1_isSplit_49 rfl ?_
      refine z_getR (M := M_X1_isSplit) (ci := 4) (C := RX1) (T := TX1) (Nf := 11) (ty := tyX1) cl4 dX1_isSplit_50 ly_177 8 (by decide) t_293 rfl ?_
      refine z_iload_n (M := M_X1_isSplit) dX1_isSplit_53 rfl ?_
      obtain ⟨x_26, x_26_e, hi_27, H⟩ := rd_e H
      refine z_iald (M := M_X1_isSplit) dX1_isSplit_54 ly_190 rfl rfl rfl hi_27 x_26_e ?_
      refine z_istore_n (M := M_X1_isSplit) (lv' := [some (vr 177), some (vi part_0), some (vi x_26), none]) dX1_isSplit_55 (Nat.le_of_ble_eq_true rfl) rfl rfl ?_
      obtain ⟨rl_33, hw_30, hk_31, hk_32⟩ := bx_e H
      have J_71 : ∀ ring_69 σ_70, rl_33 = (.inl (ring_69, σ_70)) → YY l E M_X1_isSplit 6 0 0 (pS (some (zv r)) σ') 124 [some (vr 177), some (vi part_0), some (vi ring_69), none] [] σ_70 0 0 := by
        intro ring_69 σ_70 e
        have H := hk_31 _ e
        refine z_zconst (M := M_X1_isSplit) (b := false) dX1_isSplit_124 rfl ?_
        cases H
        exact z_zret (M := M_X1_isSplit) dX1_isSplit_125 rfl (Nat.le_of_ble_eq_true rfl) (Nat.le_of_ble_eq_true rfl) ⟨rfl, rfl⟩
      refine whl_go hw_30 (fun (ring_28, σ_29) => YY l E M_X1_isSplit 6 0 0 (pS (some (zv r)) σ') 56 [some (vr 177), some (vi part_0), some (vi ring_28), none] [] σ_29 0 0) ?_
      rintro ⟨ring_28, σ_29⟩ o_34 H K_35 K_36
      refine z_iload_n (M := M_X1_isSplit) dX1_isSplit_56 rfl ?_
      refine z_aload_n (M := M_X1_isSplit) dX1_isSplit_57 rfl ?_
      refine z_getR (M := M_X1_isSplit) (ci := 4) (C := RX1) (T := TX1) (Nf := 11) (ty := tyX1) cl4 dX1_isSplit_58 ly_177 9 (by decide) t_294 rfl ?_
      refine z_iload_n (M := M_X1_isSplit) dX1_isSplit_61 rfl ?_
      obtain ⟨x_37, x_37_e, hi_38, H⟩ := rd_e H
      refine z_iald (M := M_X1_isSplit) dX1_isSplit_62 ly_191 rfl rfl rfl hi_38 x_37_e ?_
      rcases if_e H with ⟨h_39, H⟩ | ⟨h_39, H⟩
      · refine z_icmp_ge_f (M := M_X1_isSplit) (tgt := 124) dX1_isSplit_63 (by decide) rfl rfl h_39 ?_
        refine z_aload_n (M := M_X1_isSplit) dX1_isSplit_66 rfl ?_
        refine z_getR (M := M_X1_isSplit) (ci := 4) (C := RX1) (T := TX1) (Nf := 11) (ty := tyX1) cl4 dX1_isSplit_67 ly_177 5 (by decide) t_290 rfl ?_
        refine z_iload_n (M := M_X1_isSplit) dX1_isSplit_70 rfl ?_
        obtain ⟨x_40, x_40_e, hi_41, H⟩ := rd_e H
        refine z_iald (M := M_X1_isSplit) dX1_isSplit_71 ly_188 rfl rfl rfl hi_41 x_40_e ?_
        refine z_istore_n (M := M_X1_isSplit) (lv' := [some (vr 177), some (vi part_0), some (vi ring_28), some (vi x_40)]) dX1_isSplit_72 (Nat.le_of_ble_eq_true rfl) rfl rfl ?_
        obtain ⟨rl_47, hw_44, hk_45, hk_46⟩ := bx_e H
        have J_67 : ∀ i_64 σ_65, rl_47 = (.inl (i_64, σ_65)) → YY l E M_X1_isSplit 6 0 0 (pS (some (zv r)) σ') 118 [some (vr 177), some (vi part_0), some (vi ring_28), some (vi i_64)] [] σ_65 0 0 := by
          intro i_64 σ_65 e
          have H := hk_45 _ e
          refine z_iinc (M := M_X1_isSplit) (lv' := [some (vr 177), some (vi part_0), some (vi (ring_28 + 1)), some (vi i_64)]) dX1_isSplit_118 rfl (Nat.le_of_ble_eq_true rfl) rfl rfl ?_
          refine z_goto (M := M_X1_isSplit) (tgt := 56) dX1_isSplit_121 (by decide) ?_
          refine z_le (lv' := [some (vr 177), some (vi part_0), some (vi (ring_28 + 1)), none]) ⟨Or.inr rfl, Or.inr rfl, Or.inr rfl, Or.inl rfl, trivial⟩ ?_
          exact K_35 _ (Option.some.inj H).symm
        refine whl_go hw_44 (fun (i_42, σ_43) => YY l E M_X1_isSplit 6 0 0 (pS (some (zv r)) σ') 73 [some (vr 177), some (vi part_0), some (vi ring_28), some (vi i_42)] [] σ_43 0 0) ?_
        rintro ⟨i_42, σ_43⟩ o_48 H K_49 K_50
        refine z_iload_n (M := M_X1_isSplit) dX1_isSplit_73 rfl ?_
        refine z_aload_n (M := M_X1_isSplit) dX1_isSplit_74 rfl ?_
        refine z_getR (M := M_X1_isSplit) (ci := 4) (C := RX1) (T := TX1) (Nf := 11) (ty := tyX1) cl4 dX1_isSplit_75 ly_177 6 (by decide) t_291 rfl ?_
        refine z_iload_n (M := M_X1_isSplit) dX1_isSplit_78 rfl ?_
        obtain ⟨x_51, x_51_e, hi_52, H⟩ := rd_e H
        refine z_iald (M := M_X1_isSplit) dX1_isSplit_79 ly_189 rfl rfl rfl hi_52 x_51_e ?_
        rcases if_e H with ⟨h_53, H⟩ | ⟨h_53, H⟩
        · refine z_icmp_ge_f (M := M_X1_isSplit) (tgt := 118) dX1_isSplit_80 (by decide) rfl rfl h_53 ?_
          refine z_aload_n (M := M_X1_isSplit) dX1_isSplit_83 rfl ?_
          refine z_iload_n (M := M_X1_isSplit) dX1_isSplit_84 rfl ?_
          refine z_iload_n (M := M_X1_isSplit) dX1_isSplit_85 rfl ?_
          refine z_aload_n (M := M_X1_isSplit) dX1_isSplit_86 rfl ?_
          refine z_getR (M := M_X1_isSplit) (ci := 4) (C := RX1) (T := TX1) (Nf := 11) (ty := tyX1) cl4 dX1_isSplit_87 ly_177 1 (by decide) t_286 rfl ?_
          refine z_getR (M := M_X1_isSplit) (ci := 8) (C := RX5) (T := TX5) (Nf := 8) (ty := tyX5) cl8 dX1_isSplit_90 (ly_G (by decide)) 0 (by decide) t_237 rfl ?_
          refine z_iload_n (M := M_X1_isSplit) dX1_isSplit_93 rfl ?_
          obtain ⟨x_54, x_54_e, hi_55, H⟩ := rd_e H
          refine z_iald (M := M_X1_isSplit) dX1_isSplit_94 ly_180 rfl rfl rfl hi_55 x_54_e ?_
          refine z_aload_n (M := M_X1_isSplit) dX1_isSplit_95 rfl ?_
          refine z_getR (M := M_X1_isSplit) (ci := 4) (C := RX1) (T := TX1) (Nf := 11) (ty := tyX1) cl4 dX1_isSplit_96 ly_177 1 (by decide) t_286 rfl ?_
          refine z_getR (M := M_X1_isSplit) (ci := 8) (C := RX5) (T := TX5) (Nf := 8) (ty := tyX5) cl8 dX1_isSplit_99 (ly_G (by decide)) 1 (by decide) t_241 rfl ?_
          refine z_iload_n (M := M_X1_isSplit) dX1_isSplit_102 rfl ?_
          obtain ⟨x_56, x_56_e, hi_57, H⟩ := rd_e H
          refine z_iald (M := M_X1_isSplit) dX1_isSplit_103 ly_181 rfl rfl rfl hi_57 x_56_e ?_
          obtain ⟨⟨x_60, σ_59⟩, hc_58, H⟩ := bd_e H
          refine z_callV (M := M_X1_isSplit) (M' := M_X1_joinsInRound) (as := [vi part_0, vi ring_28, vi x_54, vi x_56]) (rest := []) rfl rfl dX1_isSplit_104 m_X1_joinsInRound t_1336 t_1338 s_62 (c_X1_joinsInRound hl  hc_58) rfl rfl ly_177 rfl (Nat.le_of_ble_eq_true rfl) (Nat.le_of_ble_eq_true rfl) (Nat.le_of_ble_eq_true rfl) (Nat.le_of_ble_eq_true rfl) ?_
          refine z_st (st' := [zv x_60]) rfl ?_
          rcases if_e H with ⟨h_61, H⟩ | ⟨h_61, H⟩
          · refine z_zeq_f (M := M_X1_isSplit) (tgt := 112) dX1_isSplit_107 (by decide) h_61 ?_
            refine z_zconst (M := M_X1_isSplit) (b := true) dX1_isSplit_110 rfl ?_
            have H := congrArg some (hk_46 _ ((K_50 _ (Option.some.inj H).symm).symm))
            have H := congrArg some (hk_32 _ ((K_36 _ (Option.some.inj H).symm).symm))
            cases H
            exact z_zret (M := M_X1_isSplit) dX1_isSplit_111 rfl (Nat.le_of_ble_eq_true rfl) (Nat.le_of_ble_eq_true rfl) ⟨rfl, rfl⟩
          · refine z_zeq_t (M := M_X1_isSplit) (tgt := 112) dX1_isSplit_107 (by decide) h_61 ?_
            refine z_iinc (M := M_X1_isSplit) (lv' := [some (vr 177), some (vi part_0), some (vi ring_28), some (vi (i_42 + 1))]) dX1_isSplit_112 rfl (Nat.le_of_ble_eq_true rfl) rfl rfl ?_
            refine z_goto (M := M_X1_isSplit) (tgt := 73) dX1_isSplit_115 (by decide) ?_
            exact K_49 _ (Option.some.inj H).symm
        · refine z_icmp_ge_t (M := M_X1_isSplit) (tgt := 118) dX1_isSplit_80 (by decide) rfl rfl (Int.not_lt.mp h_53) ?_
          exact J_67 _ _ (K_50 _ (Option.some.inj H).symm).symm
      · refine z_icmp_ge_t (M := M_X1_isSplit) (tgt := 124) dX1_isSplit_63 (by decide) rfl rfl (Int.not_lt.mp h_39) ?_
        exact J_71 _ _ (K_36 _ (Option.some.inj H).symm).symm
    refine whl_go hw_10 (fun (ring_8, σ_9) => YY l E M_X1_isSplit 6 0 0 (pS (some (zv r)) σ') 26 [some (vr 177), some (vi part_0), some (vi ring_8), none] [] σ_9 0 0) ?_
    rintro ⟨ring_8, σ_9⟩ o_14 H K_15 K_16
    refine z_iload_n (M := M_X1_isSplit) dX1_isSplit_26 rfl ?_
    refine z_aload_n (M := M_X1_isSplit) dX1_isSplit_27 rfl ?_
    refine z_getR (M := M_X1_isSplit) (ci := 4) (C := RX1) (T := TX1) (Nf := 11) (ty := tyX1) cl4 dX1_isSplit_28 ly_177 9 (by decide) t_294 rfl ?_
    refine z_iload_n (M := M_X1_isSplit) dX1_isSplit_31 rfl ?_
    obtain ⟨x_17, x_17_e, hi_18, H⟩ := rd_e H
    refine z_iald (M := M_X1_isSplit) dX1_isSplit_32 ly_191 rfl rfl rfl hi_18 x_17_e ?_
    rcases if_e H with ⟨h_19, H⟩ | ⟨h_19, H⟩
    · refine z_icmp_ge_f (M := M_X1_isSplit) (tgt := 49) dX1_isSplit_33 (by decide) rfl rfl h_19 ?_
      refine z_aload_n (M := M_X1_isSplit) dX1_isSplit_36 rfl ?_
      refine z_getR (M := M_X1_isSplit) (ci := 4) (C := RX1) (T := TX1) (Nf := 11) (ty := tyX1) cl4 dX1_isSplit_37 ly_177 10 (by decide) t_295 rfl ?_
      refine z_iload_n (M := M_X1_isSplit) dX1_isSplit_40 rfl ?_
      refine z_iload_n (M := M_X1_isSplit) dX1_isSplit_41 rfl ?_
      obtain ⟨σ_20, σ_20_e, hi_21, H⟩ := wa_e H
      refine z_iast (M := M_X1_isSplit) dX1_isSplit_42 ly_192 rfl rfl rfl hi_21 σ_20_e ?_
      refine z_iinc (M := M_X1_isSplit) (lv' := [some (vr 177), some (vi part_0), some (vi (ring_8 + 1)), none]) dX1_isSplit_43 rfl (Nat.le_of_ble_eq_true rfl) rfl rfl ?_
      refine z_goto (M := M_X1_isSplit) (tgt := 26) dX1_isSplit_46 (by decide) ?_
      exact K_15 _ (Option.some.inj H).symm
    · refine z_icmp_ge_t (M := M_X1_isSplit) (tgt := 49) dX1_isSplit_33 (by decide) rfl rfl (Int.not_lt.mp h_19) ?_
      exact J_72 _ _ (K_16 _ (Option.some.inj H).symm).symm
theorem c_X5_add (hl : l.stackTraces = false) {σ : SG} {this_0 : Nat} {shape_0 : Nat} {from_0 : Int} {to_0 : Int} {itsMark_0 : Int} {r : Bool} {σ' : SG} (h_this : isG this_0) (h_shape : isS shape_0) (H : fE_add σ this_0 shape_0 from_0 to_0 itsMark_0 = some (r, σ')) : en_S l E M_X5_add 1 0 0 [vr this_0, vr shape_0, vi from_0, vi to_0, vi itsMark_0] σ (pS (some (zv r)) σ') := by
  unfold fE_add at H
  refine z_mk (lv := [some (vr this_0), some (vr shape_0), some (vi from_0), some (vi to_0), some (vi itsMark_0)]) m_X5_add rfl hl (Nat.le_of_ble_eq_true rfl) rfl ?_
  refine z_aload_n (M := M_X5_add) dX5_add_0 rfl ?_
  refine z_getI (M := M_X5_add) (ci := 8) (C := RX5) (T := TX5) (Nf := 8) (ty := tyX5) cl8 dX5_add_1 (ly_G h_this) 5 (by decide) t_254 rfl rfl ?_
  refine z_aload_n (M := M_X5_add) dX5_add_4 rfl ?_
  refine z_getR (M := M_X5_add) (ci := 8) (C := RX5) (T := TX5) (Nf := 8) (ty := tyX5) cl8 dX5_add_5 (ly_G h_this) 0 (by decide) t_234 rfl ?_
  refine z_alen (M := M_X5_add) (N := (gsz this_0 : Nat)) dX5_add_8 (ly_Gi (k := 1) h_this (by decide) (by decide)) (by decide) rfl ?_
  rcases if_e H with ⟨h_1, H⟩ | ⟨h_1, H⟩
  · refine z_icmp_lt_f (M := M_X5_add) (tgt := 14) dX5_add_9 (by decide) rfl rfl h_1 ?_
    refine z_zconst (M := M_X5_add) (b := false) dX5_add_12 rfl ?_
    cases H
    exact z_zret (M := M_X5_add) dX5_add_13 rfl (Nat.le_of_ble_eq_true rfl) (Nat.le_of_ble_eq_true rfl) ⟨rfl, rfl⟩
  · refine z_icmp_lt_t (M := M_X5_add) (tgt := 14) dX5_add_9 (by decide) rfl rfl (Int.not_le.mp h_1) ?_
    refine z_aload_n (M := M_X5_add) dX5_add_14 rfl ?_
    refine z_getR (M := M_X5_add) (ci := 8) (C := RX5) (T := TX5) (Nf := 8) (ty := tyX5) cl8 dX5_add_15 (ly_G h_this) 0 (by decide) t_234 rfl ?_
    refine z_aload_n (M := M_X5_add) dX5_add_18 rfl ?_
    refine z_getI (M := M_X5_add) (ci := 8) (C := RX5) (T := TX5) (Nf := 8) (ty := tyX5) cl8 dX5_add_19 (ly_G h_this) 5 (by decide) t_254 rfl rfl ?_
    refine z_aload_n (M := M_X5_add) dX5_add_22 rfl ?_
    refine z_getR (M := M_X5_add) (ci := 9) (C := RX6) (T := TX6) (Nf := 5) (ty := tyX6) cl9 dX5_add_23 (ly_S h_shape) 1 (by decide) t_60 rfl ?_
    refine z_iload_n (M := M_X5_add) dX5_add_26 rfl ?_
    obtain ⟨x_2, x_2_e, hi_3, H⟩ := rd_e H
    refine z_iald (M := M_X5_add) dX5_add_27 (ly_Sx h_shape) rfl rfl rfl hi_3 x_2_e ?_
    obtain ⟨σ_4, σ_4_e, hi_5, H⟩ := wa_e H
    refine z_iast (M := M_X5_add) dX5_add_28 (ly_Gi (k := 1) h_this (by decide) (by decide)) rfl rfl rfl hi_5 σ_4_e ?_
    refine z_aload_n (M := M_X5_add) dX5_add_29 rfl ?_
    refine z_getR (M := M_X5_add) (ci := 8) (C := RX5) (T := TX5) (Nf := 8) (ty := tyX5) cl8 dX5_add_30 (ly_G h_this) 1 (by decide) t_238 rfl ?_
    refine z_aload_n (M := M_X5_add) dX5_add_33 rfl ?_
    refine z_getI (M := M_X5_add) (ci := 8) (C := RX5) (T := TX5) (Nf := 8) (ty := tyX5) cl8 dX5_add_34 (ly_G h_this) 5 (by decide) t_254 rfl rfl ?_
    refine z_aload_n (M := M_X5_add) dX5_add_37 rfl ?_
    refine z_getR (M := M_X5_add) (ci := 9) (C := RX6) (T := TX6) (Nf := 5) (ty := tyX6) cl9 dX5_add_38 (ly_S h_shape) 2 (by decide) t_67 rfl ?_
    refine z_iload_n (M := M_X5_add) dX5_add_41 rfl ?_
    obtain ⟨x_6, x_6_e, hi_7, H⟩ := rd_e H
    refine z_iald (M := M_X5_add) dX5_add_42 (ly_Sy h_shape) rfl rfl rfl hi_7 x_6_e ?_
    obtain ⟨σ_8, σ_8_e, hi_9, H⟩ := wa_e H
    refine z_iast (M := M_X5_add) dX5_add_43 (ly_Gi (k := 2) h_this (by decide) (by decide)) rfl rfl rfl hi_9 σ_8_e ?_
    refine z_aload_n (M := M_X5_add) dX5_add_44 rfl ?_
    refine z_getR (M := M_X5_add) (ci := 8) (C := RX5) (T := TX5) (Nf := 8) (ty := tyX5) cl8 dX5_add_45 (ly_G h_this) 2 (by decide) t_242 rfl ?_
    refine z_aload_n (M := M_X5_add) dX5_add_48 rfl ?_
    refine z_getI (M := M_X5_add) (ci := 8) (C := RX5) (T := TX5) (Nf := 8) (ty := tyX5) cl8 dX5_add_49 (ly_G h_this) 5 (by decide) t_254 rfl rfl ?_
    refine z_aload_n (M := M_X5_add) dX5_add_52 rfl ?_
    refine z_getR (M := M_X5_add) (ci := 9) (C := RX6) (T := TX6) (Nf := 5) (ty := tyX6) cl9 dX5_add_53 (ly_S h_shape) 1 (by decide) t_60 rfl ?_
    refine z_iload_n (M := M_X5_add) dX5_add_56 rfl ?_
    obtain ⟨x_10, x_10_e, hi_11, H⟩ := rd_e H
    refine z_iald (M := M_X5_add) dX5_add_57 (ly_Sx h_shape) rfl rfl rfl hi_11 x_10_e ?_
    obtain ⟨σ_12, σ_12_e, hi_13, H⟩ := wa_e H
    refine z_iast (M := M_X5_add) dX5_add_58 (ly_Gi (k := 3) h_this (by decide) (by decide)) rfl rfl rfl hi_13 σ_12_e ?_
    refine z_aload_n (M := M_X5_add) dX5_add_59 rfl ?_
    refine z_getR (M := M_X5_add) (ci := 8) (C := RX5) (T := TX5) (Nf := 8) (ty := tyX5) cl8 dX5_add_60 (ly_G h_this) 3 (by decide) t_246 rfl ?_
    refine z_aload_n (M := M_X5_add) dX5_add_63 rfl ?_
    refine z_getI (M := M_X5_add) (ci := 8) (C := RX5) (T := TX5) (Nf := 8) (ty := tyX5) cl8 dX5_add_64 (ly_G h_this) 5 (by decide) t_254 rfl rfl ?_
    refine z_aload_n (M := M_X5_add) dX5_add_67 rfl ?_
    refine z_getR (M := M_X5_add) (ci := 9) (C := RX6) (T := TX6) (Nf := 5) (ty := tyX6) cl9 dX5_add_68 (ly_S h_shape) 2 (by decide) t_67 rfl ?_
    refine z_iload_n (M := M_X5_add) dX5_add_71 rfl ?_
    obtain ⟨x_14, x_14_e, hi_15, H⟩ := rd_e H
    refine z_iald (M := M_X5_add) dX5_add_72 (ly_Sy h_shape) rfl rfl rfl hi_15 x_14_e ?_
    obtain ⟨σ_16, σ_16_e, hi_17, H⟩ := wa_e H
    refine z_iast (M := M_X5_add) dX5_add_73 (ly_Gi (k := 4) h_this (by decide) (by decide)) rfl rfl rfl hi_17 σ_16_e ?_
    refine z_aload_n (M := M_X5_add) dX5_add_74 rfl ?_
    refine z_getR (M := M_X5_add) (ci := 8) (C := RX5) (T := TX5) (Nf := 8) (ty := tyX5) cl8 dX5_add_75 (ly_G h_this) 4 (by decide) t_250 rfl ?_
    refine z_aload_n (M := M_X5_add) dX5_add_78 rfl ?_
    refine z_getI (M := M_X5_add) (ci := 8) (C := RX5) (T := TX5) (Nf := 8) (ty := tyX5) cl8 dX5_add_79 (ly_G h_this) 5 (by decide) t_254 rfl rfl ?_
    refine z_iload (M := M_X5_add) dX5_add_82 rfl ?_
    obtain ⟨σ_18, σ_18_e, hi_19, H⟩ := wa_e H
    refine z_iast (M := M_X5_add) dX5_add_84 (ly_Gi (k := 5) h_this (by decide) (by decide)) rfl rfl rfl hi_19 σ_18_e ?_
    refine z_aload_n (M := M_X5_add) dX5_add_85 rfl ?_
    refine z_dup (M := M_X5_add) dX5_add_86 rfl ?_
    refine z_getI (M := M_X5_add) (ci := 8) (C := RX5) (T := TX5) (Nf := 8) (ty := tyX5) cl8 dX5_add_87 (ly_G h_this) 5 (by decide) t_254 rfl rfl ?_
    refine z_iconst (M := M_X5_add) dX5_add_90 ?_
    refine z_iadd (M := M_X5_add) dX5_add_91 ?_
    obtain ⟨σ_20, σ_20_e, H⟩ := wf_e H
    refine z_putI (M := M_X5_add) (ci := 8) (C := RX5) (T := TX5) (Nf := 8) (ty := tyX5) cl8 dX5_add_92 (ly_G h_this) 5 (by decide) t_254 rfl rfl rfl rfl σ_20_e ?_
    refine z_zconst (M := M_X5_add) (b := true) dX5_add_95 rfl ?_
    cases H
    exact z_zret (M := M_X5_add) dX5_add_96 rfl (Nat.le_of_ble_eq_true rfl) (Nat.le_of_ble_eq_true rfl) ⟨rfl, rfl⟩
theorem c_X1_layOut (hl : l.stackTraces = false) {σ : SG} {shape_0 : Nat} {at_0 : Int} {begin_0 : Int} {part_0 : Int} {σ' : SG} (h_shape : isS shape_0) (H : fJ_layOut σ shape_0 at_0 begin_0 part_0 = some σ') : en_S l E M_X1_layOut 2 0 0 [vr 177, vr shape_0, vi at_0, vi begin_0, vi part_0] σ (pS (none) σ') := by
  unfold fJ_layOut at H
  refine z_mk (lv := [some (vr 177), some (vr shape_0), some (vi at_0), some (vi begin_0), some (vi part_0), none, none, none, none]) m_X1_layOut rfl hl (Nat.le_of_ble_eq_true rfl) rfl ?_
  refine z_iload_n (M := M_X1_layOut) dX1_layOut_0 rfl ?_
  refine z_istore (M := M_X1_layOut) (lv' := [some (vr 177), some (vr shape_0), some (vi at_0), some (vi begin_0), some (vi part_0), some (vi begin_0), none, none, none]) dX1_layOut_1 (Nat.le_of_ble_eq_true rfl) rfl rfl ?_
  refine z_aload_n (M := M_X1_layOut) dX1_layOut_3 rfl ?_
  refine z_getR (M := M_X1_layOut) (ci := 4) (C := RX1) (T := TX1) (Nf := 11) (ty := tyX1) cl4 dX1_layOut_4 ly_177 8 (by decide) t_293 rfl ?_
  refine z_iload (M := M_X1_layOut) dX1_layOut_7 rfl ?_
  refine z_aload_n (M := M_X1_layOut) dX1_layOut_9 rfl ?_
  refine z_getI (M := M_X1_layOut) (ci := 4) (C := RX1) (T := TX1) (Nf := 11) (ty := tyX1) cl4 dX1_layOut_10 ly_177 7 (by decide) t_292 rfl rfl ?_
  obtain ⟨σ_1, σ_1_e, hi_2, H⟩ := wa_e H
  refine z_iast (M := M_X1_layOut) dX1_layOut_13 ly_190 rfl rfl rfl hi_2 σ_1_e ?_
  refine z_iconst (M := M_X1_layOut) dX1_layOut_14 ?_
  refine z_istore (M := M_X1_layOut) (lv' := [some (vr 177), some (vr shape_0), some (vi at_0), some (vi begin_0), some (vi part_0), some (vi begin_0), some (vi 0), none, none]) dX1_layOut_15 (Nat.le_of_ble_eq_true rfl) rfl rfl ?_
  obtain ⟨rl_9, hw_6, hk_7⟩ := bd_e H
  have J_81 : ∀ from_76 ring_77 σ_78, rl_9 = (from_76, ring_77, σ_78) → YY l E M_X1_layOut 2 0 0 (pS (none) σ') 212 [some (vr 177), some (vr shape_0), some (vi at_0), some (vi begin_0), some (vi part_0), some (vi from_76), some (vi ring_77), none, none] [] σ_78 0 0 := by
    intro from_76 ring_77 σ_78 e
    have H := hk_7
    rw [e] at H
    refine z_aload_n (M := M_X1_layOut) dX1_layOut_212 rfl ?_
    refine z_getR (M := M_X1_layOut) (ci := 4) (C := RX1) (T := TX1) (Nf := 11) (ty := tyX1) cl4 dX1_layOut_213 ly_177 9 (by decide) t_294 rfl ?_
    refine z_iload (M := M_X1_layOut) dX1_layOut_216 rfl ?_
    refine z_aload_n (M := M_X1_layOut) dX1_layOut_218 rfl ?_
    refine z_getI (M := M_X1_layOut) (ci := 4) (C := RX1) (T := TX1) (Nf := 11) (ty := tyX1) cl4 dX1_layOut_219 ly_177 7 (by decide) t_292 rfl rfl ?_
    obtain ⟨σ_79, σ_79_e, hi_80, H⟩ := wa_e H
    refine z_iast (M := M_X1_layOut) dX1_layOut_222 ly_191 rfl rfl rfl hi_80 σ_79_e ?_
    cases H
    exact z_vret (M := M_X1_layOut) dX1_layOut_223 rfl (Nat.le_of_ble_eq_true rfl) (Nat.le_of_ble_eq_true rfl) ⟨rfl, rfl⟩
  refine whl_go hw_6 (fun (from_3, ring_4, σ_5) => YY l E M_X1_layOut 2 0 0 (pS (none) σ') 17 [some (vr 177), some (vr shape_0), some (vi at_0), some (vi begin_0), some (vi part_0), some (vi from_3), some (vi ring_4), none, none] [] σ_5 0 0) ?_
  rintro ⟨from_3, ring_4, σ_5⟩ o_10 H K_11 K_12
  refine z_iload (M := M_X1_layOut) dX1_layOut_17 rfl ?_
  refine z_aload_n (M := M_X1_layOut) dX1_layOut_19 rfl ?_
  refine z_iload_n (M := M_X1_layOut) dX1_layOut_20 rfl ?_
  obtain ⟨x_22, hc_21, H⟩ := bd_e H
  refine z_callV (M := M_X1_layOut) (M' := M_X6_rows) (as := [vi at_0]) (rest := [vi ring_4]) rfl rfl dX1_layOut_21 m_X6_rows t_1199 t_1075 t_1076 (c_X6_rows hl h_shape hc_21) rfl rfl (ly_S h_shape) rfl (Nat.le_of_ble_eq_true rfl) (Nat.le_of_ble_eq_true rfl) (Nat.le_of_ble_eq_true rfl) (Nat.le_of_ble_eq_true rfl) ?_
  refine z_st (st' := [vi x_22, vi ring_4]) rfl ?_
  rcases if_e H with ⟨h_23, H⟩ | ⟨h_23, H⟩
  · refine z_icmp_ge_f (M := M_X1_layOut) (tgt := 212) dX1_layOut_24 (by decide) rfl rfl h_23 ?_
    refine z_aload_n (M := M_X1_layOut) dX1_layOut_27 rfl ?_
    refine z_getI (M := M_X1_layOut) (ci := 4) (C := RX1) (T := TX1) (Nf := 11) (ty := tyX1) cl4 dX1_layOut_28 ly_177 7 (by decide) t_292 rfl rfl ?_
    refine z_sipush (M := M_X1_layOut) dX1_layOut_31 (by decide +kernel) ?_
    rcases if_e H with ⟨h_24, H⟩ | ⟨h_24, H⟩
    · refine z_icmp_ge_f (M := M_X1_layOut) (tgt := 212) dX1_layOut_34 (by decide) rfl (by decide +kernel) h_24 ?_
      refine z_aload_n (M := M_X1_layOut) dX1_layOut_37 rfl ?_
      refine z_iload_n (M := M_X1_layOut) dX1_layOut_38 rfl ?_
      refine z_iload (M := M_X1_layOut) dX1_layOut_39 rfl ?_
      obtain ⟨x_26, hc_25, H⟩ := bd_e H
      refine z_callV (M := M_X1_layOut) (M' := M_X6_rowLength) (as := [vi at_0, vi ring_4]) (rest := []) rfl rfl dX1_layOut_41 m_X6_rowLength t_1200 t_1080 t_1081 (c_X6_rowLength hl h_shape hc_25) rfl rfl (ly_S h_shape) rfl (Nat.le_of_ble_eq_true rfl) (Nat.le_of_ble_eq_true rfl) (Nat.le_of_ble_eq_true rfl) (Nat.le_of_ble_eq_true rfl) ?_
      refine z_st (st' := [vi x_26]) rfl ?_
      refine z_istore (M := M_X1_layOut) (lv' := [some (vr 177), some (vr shape_0), some (vi at_0), some (vi begin_0), some (vi part_0), some (vi from_3), some (vi ring_4), some (vi x_26), none]) dX1_layOut_44 (Nat.le_of_ble_eq_true rfl) rfl rfl ?_
      refine z_aload_n (M := M_X1_layOut) dX1_layOut_46 rfl ?_
      refine z_getR (M := M_X1_layOut) (ci := 4) (C := RX1) (T := TX1) (Nf := 11) (ty := tyX1) cl4 dX1_layOut_47 ly_177 3 (by decide) t_288 rfl ?_
      refine z_aload_n (M := M_X1_layOut) dX1_layOut_50 rfl ?_
      refine z_getI (M := M_X1_layOut) (ci := 4) (C := RX1) (T := TX1) (Nf := 11) (ty := tyX1) cl4 dX1_layOut_51 ly_177 7 (by decide) t_292 rfl rfl ?_
      refine z_iload (M := M_X1_layOut) dX1_layOut_54 rfl ?_
      obtain ⟨σ_27, σ_27_e, hi_28, H⟩ := wa_e H
      refine z_iast (M := M_X1_layOut) dX1_layOut_56 ly_186 rfl rfl rfl hi_28 σ_27_e ?_
      refine z_aload_n (M := M_X1_layOut) dX1_layOut_57 rfl ?_
      refine z_getR (M := M_X1_layOut) (ci := 4) (C := RX1) (T := TX1) (Nf := 11) (ty := tyX1) cl4 dX1_layOut_58 ly_177 4 (by decide) t_289 rfl ?_
      refine z_aload_n (M := M_X1_layOut) dX1_layOut_61 rfl ?_
      refine z_getI (M := M_X1_layOut) (ci := 4) (C := RX1) (T := TX1) (Nf := 11) (ty := tyX1) cl4 dX1_layOut_62 ly_177 7 (by decide) t_292 rfl rfl ?_
      refine z_iload (M := M_X1_layOut) dX1_layOut_65 rfl ?_
      obtain ⟨σ_29, σ_29_e, hi_30, H⟩ := wa_e H
      refine z_iast (M := M_X1_layOut) dX1_layOut_67 ly_187 rfl rfl rfl hi_30 σ_29_e ?_
      refine z_aload_n (M := M_X1_layOut) dX1_layOut_68 rfl ?_
      refine z_getR (M := M_X1_layOut) (ci := 4) (C := RX1) (T := TX1) (Nf := 11) (ty := tyX1) cl4 dX1_layOut_69 ly_177 5 (by decide) t_290 rfl ?_
      refine z_aload_n (M := M_X1_layOut) dX1_layOut_72 rfl ?_
      refine z_getI (M := M_X1_layOut) (ci := 4) (C := RX1) (T := TX1) (Nf := 11) (ty := tyX1) cl4 dX1_layOut_73 ly_177 7 (by decide) t_292 rfl rfl ?_
      refine z_aload_n (M := M_X1_layOut) dX1_layOut_76 rfl ?_
      refine z_getR (M := M_X1_layOut) (ci := 4) (C := RX1) (T := TX1) (Nf := 11) (ty := tyX1) cl4 dX1_layOut_77 ly_177 1 (by decide) t_286 rfl ?_
      refine z_getI (M := M_X1_layOut) (ci := 8) (C := RX5) (T := TX5) (Nf := 8) (ty := tyX5) cl8 dX1_layOut_80 (ly_G (by decide)) 5 (by decide) t_256 rfl rfl ?_
      obtain ⟨σ_31, σ_31_e, hi_32, H⟩ := wa_e H
      refine z_iast (M := M_X1_layOut) dX1_layOut_83 ly_188 rfl rfl rfl hi_32 σ_31_e ?_
      refine z_iconst (M := M_X1_layOut) dX1_layOut_84 ?_
      refine z_istore (M := M_X1_layOut) (lv' := [some (vr 177), some (vr shape_0), some (vi at_0), some (vi begin_0), some (vi part_0), some (vi from_3), some (vi ring_4), some (vi x_26), some (vi 0)]) dX1_layOut_85 (Nat.le_of_ble_eq_true rfl) rfl rfl ?_
      obtain ⟨rl_38, hw_35, hk_36⟩ := bd_e H
      have J_73 : ∀ i_67 σ_68, rl_38 = (i_67, σ_68) → YY l E M_X1_layOut 2 0 0 (pS (none) σ') 173 [some (vr 177), some (vr shape_0), some (vi at_0), some (vi begin_0), some (vi part_0), some (vi from_3), some (vi ring_4), some (vi x_26), some (vi i_67)] [] σ_68 0 0 := by
        intro i_67 σ_68 e
        have H := hk_36
        rw [e] at H
        refine z_aload_n (M := M_X1_layOut) dX1_layOut_173 rfl ?_
        refine z_getR (M := M_X1_layOut) (ci := 4) (C := RX1) (T := TX1) (Nf := 11) (ty := tyX1) cl4 dX1_layOut_174 ly_177 6 (by decide) t_291 rfl ?_
        refine z_aload_n (M := M_X1_layOut) dX1_layOut_177 rfl ?_
        refine z_getI (M := M_X1_layOut) (ci := 4) (C := RX1) (T := TX1) (Nf := 11) (ty := tyX1) cl4 dX1_layOut_178 ly_177 7 (by decide) t_292 rfl rfl ?_
        refine z_aload_n (M := M_X1_layOut) dX1_layOut_181 rfl ?_
        refine z_getR (M := M_X1_layOut) (ci := 4) (C := RX1) (T := TX1) (Nf := 11) (ty := tyX1) cl4 dX1_layOut_182 ly_177 1 (by decide) t_286 rfl ?_
        refine z_getI (M := M_X1_layOut) (ci := 8) (C := RX5) (T := TX5) (Nf := 8) (ty := tyX5) cl8 dX1_layOut_185 (ly_G (by decide)) 5 (by decide) t_256 rfl rfl ?_
        obtain ⟨σ_69, σ_69_e, hi_70, H⟩ := wa_e H
        refine z_iast (M := M_X1_layOut) dX1_layOut_188 ly_189 rfl rfl rfl hi_70 σ_69_e ?_
        refine z_aload_n (M := M_X1_layOut) dX1_layOut_189 rfl ?_
        refine z_dup (M := M_X1_layOut) dX1_layOut_190 rfl ?_
        refine z_getI (M := M_X1_layOut) (ci := 4) (C := RX1) (T := TX1) (Nf := 11) (ty := tyX1) cl4 dX1_layOut_191 ly_177 7 (by decide) t_292 rfl rfl ?_
        refine z_iconst (M := M_X1_layOut) dX1_layOut_194 ?_
        refine z_iadd (M := M_X1_layOut) dX1_layOut_195 ?_
        obtain ⟨σ_71, σ_71_e, H⟩ := wf_e H
        refine z_putI (M := M_X1_layOut) (ci := 4) (C := RX1) (T := TX1) (Nf := 11) (ty := tyX1) cl4 dX1_layOut_196 ly_177 7 (by decide) t_292 rfl rfl rfl rfl σ_71_e ?_
        refine z_iload (M := M_X1_layOut) dX1_layOut_199 rfl ?_
        refine z_iload (M := M_X1_layOut) dX1_layOut_201 rfl ?_
        refine z_iadd (M := M_X1_layOut) dX1_layOut_203 ?_
        refine z_istore (M := M_X1_layOut) (lv' := [some (vr 177), some (vr shape_0), some (vi at_0), some (vi begin_0), some (vi part_0), some (vi (from_3 + x_26)), some (vi ring_4), some (vi x_26), some (vi i_67)]) dX1_layOut_204 (Nat.le_of_ble_eq_true rfl) rfl rfl ?_
        refine z_iinc (M := M_X1_layOut) (lv' := [some (vr 177), some (vr shape_0), some (vi at_0), some (vi begin_0), some (vi part_0), some (vi (from_3 + x_26)), some (vi (ring_4 + 1)), some (vi x_26), some (vi i_67)]) dX1_layOut_206 rfl (Nat.le_of_ble_eq_true rfl) rfl rfl ?_
        refine z_goto (M := M_X1_layOut) (tgt := 17) dX1_layOut_209 (by decide) ?_
        refine z_le (lv' := [some (vr 177), some (vr shape_0), some (vi at_0), some (vi begin_0), some (vi part_0), some (vi (from_3 + x_26)), some (vi (ring_4 + 1)), none, none]) ⟨Or.inr rfl, Or.inr rfl, Or.inr rfl, Or.inr rfl, Or.inr rfl, Or.inr rfl, Or.inr rfl, Or.inl rfl, Or.inl rfl, trivial⟩ ?_
        exact K_11 _ (Option.some.inj H).symm
      refine whl_go hw_35 (fun (i_33, σ_34) => YY l E M_X1_layOut 2 0 0 (pS (none) σ') 87 [some (vr 177), some (vr shape_0), some (vi at_0), some (vi begin_0), some (vi part_0), some (vi from_3), some (vi ring_4), some (vi x_26), some (vi i_33)] [] σ_34 0 0) ?_
      rintro ⟨i_33, σ_34⟩ o_39 H K_40 K_41
      rcases if_e H with ⟨h_60, H⟩ | ⟨h_60, H⟩
      · have J_61 : YY l E M_X1_layOut 2 0 0 (pS (none) σ') 109 [some (vr 177), some (vr shape_0), some (vi at_0), some (vi begin_0), some (vi part_0), some (vi from_3), some (vi ring_4), some (vi x_26), some (vi i_33)] [] σ_34 0 0 := by
          obtain ⟨v_45, he_42, hk_43⟩ := bd_e H
          have J_58 : ∀ σ_56, v_45 = σ_56 → YY l E M_X1_layOut 2 0 0 (pS (none) σ') 167 [some (vr 177), some (vr shape_0), some (vi at_0), some (vi begin_0), some (vi part_0), some (vi from_3), some (vi ring_4), some (vi x_26), some (vi i_33)] [] σ_56 0 0 := by
            intro σ_56 e
            have H := hk_43
            rw [e] at H
            refine z_iinc (M := M_X1_layOut) (lv' := [some (vr 177), some (vr shape_0), some (vi at_0), some (vi begin_0), some (vi part_0), some (vi from_3), some (vi ring_4), some (vi x_26), some (vi (i_33 + 1))]) dX1_layOut_167 rfl (Nat.le_of_ble_eq_true rfl) rfl rfl ?_
            refine z_goto (M := M_X1_layOut) (tgt := 87) dX1_layOut_170 (by decide) ?_
            exact K_40 _ (Option.some.inj H).symm
          have H := he_42
          refine z_aload_n (M := M_X1_layOut) dX1_layOut_109 rfl ?_
          refine z_iload (M := M_X1_layOut) dX1_layOut_110 rfl ?_
          refine z_iload (M := M_X1_layOut) dX1_layOut_112 rfl ?_
          refine z_iadd (M := M_X1_layOut) dX1_layOut_114 ?_
          refine z_iload (M := M_X1_layOut) dX1_layOut_115 rfl ?_
          refine z_iload (M := M_X1_layOut) dX1_layOut_117 rfl ?_
          refine z_iadd (M := M_X1_layOut) dX1_layOut_119 ?_
          refine z_iconst (M := M_X1_layOut) dX1_layOut_120 ?_
          refine z_iadd (M := M_X1_layOut) dX1_layOut_121 ?_
          obtain ⟨x_47, hc_46, H⟩ := bd_e H
          refine z_callV (M := M_X1_layOut) (M' := M_X6_areLike) (as := [vi (from_3 + i_33), vi ((from_3 + i_33) + 1)]) (rest := []) rfl rfl dX1_layOut_122 m_X6_areLike t_1187 t_1188 t_1189 (c_X6_areLike hl h_shape hc_46) rfl rfl (ly_S h_shape) rfl (Nat.le_of_ble_eq_true rfl) (Nat.le_of_ble_eq_true rfl) (Nat.le_of_ble_eq_true rfl) (Nat.le_of_ble_eq_true rfl) ?_
          refine z_st (st' := [zv x_47]) rfl ?_
          rcases if_e H with ⟨h_48, H⟩ | ⟨h_48, H⟩
          · refine z_zne_t (M := M_X1_layOut) (tgt := 167) dX1_layOut_125 (by decide) h_48 ?_
            exact J_58 _ (Option.some.inj H).symm
          · refine z_zne_f (M := M_X1_layOut) (tgt := 167) dX1_layOut_125 (by decide) h_48 ?_
            refine z_aload_n (M := M_X1_layOut) dX1_layOut_128 rfl ?_
            refine z_getR (M := M_X1_layOut) (ci := 4) (C := RX1) (T := TX1) (Nf := 11) (ty := tyX1) cl4 dX1_layOut_129 ly_177 2 (by decide) t_287 rfl ?_
            refine z_aload_n (M := M_X1_layOut) dX1_layOut_132 rfl ?_
            refine z_getR (M := M_X1_layOut) (ci := 4) (C := RX1) (T := TX1) (Nf := 11) (ty := tyX1) cl4 dX1_layOut_133 ly_177 1 (by decide) t_286 rfl ?_
            refine z_getI (M := M_X1_layOut) (ci := 8) (C := RX5) (T := TX5) (Nf := 8) (ty := tyX5) cl8 dX1_layOut_136 (ly_G (by decide)) 5 (by decide) t_256 rfl rfl ?_
            refine z_iload (M := M_X1_layOut) dX1_layOut_139 rfl ?_
            obtain ⟨σ_50, σ_50_e, hi_51, H⟩ := wa_e H
            refine z_iast (M := M_X1_layOut) dX1_layOut_141 ly_185 rfl rfl rfl hi_51 σ_50_e ?_
            refine z_aload_n (M := M_X1_layOut) dX1_layOut_142 rfl ?_
            refine z_getR (M := M_X1_layOut) (ci := 4) (C := RX1) (T := TX1) (Nf := 11) (ty := tyX1) cl4 dX1_layOut_143 ly_177 1 (by decide) t_286 rfl ?_
            refine z_aload_n (M := M_X1_layOut) dX1_layOut_146 rfl ?_
            refine z_iload (M := M_X1_layOut) dX1_layOut_147 rfl ?_
            refine z_iload (M := M_X1_layOut) dX1_layOut_149 rfl ?_
            refine z_iadd (M := M_X1_layOut) dX1_layOut_151 ?_
            refine z_iload (M := M_X1_layOut) dX1_layOut_152 rfl ?_
            refine z_iload (M := M_X1_layOut) dX1_layOut_154 rfl ?_
            refine z_iadd (M := M_X1_layOut) dX1_layOut_156 ?_
            refine z_iconst (M := M_X1_layOut) dX1_layOut_157 ?_
            refine z_iadd (M := M_X1_layOut) dX1_layOut_158 ?_
            refine z_aload_n (M := M_X1_layOut) dX1_layOut_159 rfl ?_
            refine z_getI (M := M_X1_layOut) (ci := 4) (C := RX1) (T := TX1) (Nf := 11) (ty := tyX1) cl4 dX1_layOut_160 ly_177 7 (by decide) t_292 rfl rfl ?_
            obtain ⟨⟨x_54, σ_53⟩, hc_52, H⟩ := bd_e H
            refine z_callV (M := M_X1_layOut) (M' := M_X5_add) (as := [vr shape_0, vi (from_3 + i_33), vi ((from_3 + i_33) + 1), vi (σ_50 kJ_rings 0)]) (rest := []) rfl rfl dX1_layOut_163 m_X5_add t_1217 t_1218 t_1219 (c_X5_add hl (by decide) h_shape hc_52) rfl rfl (ly_G (by decide)) rfl (Nat.le_of_ble_eq_true rfl) (Nat.le_of_ble_eq_true rfl) (Nat.le_of_ble_eq_true rfl) (Nat.le_of_ble_eq_true rfl) ?_
            refine z_st (st' := [zv x_54]) rfl ?_
            refine z_pop (M := M_X1_layOut) dX1_layOut_166 rfl ?_
            exact J_58 _ (Option.some.inj H).symm
        refine z_iload (M := M_X1_layOut) dX1_layOut_87 rfl ?_
        refine z_iconst (M := M_X1_layOut) dX1_layOut_89 ?_
        refine z_iadd (M := M_X1_layOut) dX1_layOut_90 ?_
        refine z_iload (M := M_X1_layOut) dX1_layOut_91 rfl ?_
        by_cases h_63 : (w32 (i_33 + 1)) < (w32 x_26)
        · refine z_icmp_ge_f (M := M_X1_layOut) (tgt := 173) dX1_layOut_93 (by decide) rfl rfl h_63 ?_
          refine z_aload_n (M := M_X1_layOut) dX1_layOut_96 rfl ?_
          refine z_getR (M := M_X1_layOut) (ci := 4) (C := RX1) (T := TX1) (Nf := 11) (ty := tyX1) cl4 dX1_layOut_97 ly_177 1 (by decide) t_286 rfl ?_
          refine z_getI (M := M_X1_layOut) (ci := 8) (C := RX5) (T := TX5) (Nf := 8) (ty := tyX5) cl8 dX1_layOut_100 (ly_G (by decide)) 5 (by decide) t_256 rfl rfl ?_
          refine z_sipush (M := M_X1_layOut) dX1_layOut_103 (by decide +kernel) ?_
          by_cases h_64 : (w32 (σ_34 (kE_size 179) 0)) < 2048
          · refine z_icmp_ge_f (M := M_X1_layOut) (tgt := 173) dX1_layOut_106 (by decide) rfl (by decide +kernel) h_64 ?_
            exact J_61
          · refine z_icmp_ge_t (M := M_X1_layOut) (tgt := 173) dX1_layOut_106 (by decide) rfl (by decide +kernel) (Int.not_lt.mp h_64) ?_
            exact absurd h_60 (fun q => h_64 q.2)
        · refine z_icmp_ge_t (M := M_X1_layOut) (tgt := 173) dX1_layOut_93 (by decide) rfl rfl (Int.not_lt.mp h_63) ?_
          exact absurd h_60 (fun q => h_63 q.1)
      · have J_62 : YY l E M_X1_layOut 2 0 0 (pS (none) σ') 173 [some (vr 177), some (vr shape_0), some (vi at_0), some (vi begin_0), some (vi part_0), some (vi from_3), some (vi ring_4), some (vi x_26), some (vi i_33)] [] σ_34 0 0 := by
          exact J_73 _ _ (K_41 _ (Option.some.inj H).symm).symm
        refine z_iload (M := M_X1_layOut) dX1_layOut_87 rfl ?_
        refine z_iconst (M := M_X1_layOut) dX1_layOut_89 ?_
        refine z_iadd (M := M_X1_layOut) dX1_layOut_90 ?_
        refine z_iload (M := M_X1_layOut) dX1_layOut_91 rfl ?_
        by_cases h_65 : (w32 (i_33 + 1)) < (w32 x_26)
        · refine z_icmp_ge_f (M := M_X1_layOut) (tgt := 173) dX1_layOut_93 (by decide) rfl rfl h_65 ?_
          refine z_aload_n (M := M_X1_layOut) dX1_layOut_96 rfl ?_
          refine z_getR (M := M_X1_layOut) (ci := 4) (C := RX1) (T := TX1) (Nf := 11) (ty := tyX1) cl4 dX1_layOut_97 ly_177 1 (by decide) t_286 rfl ?_
          refine z_getI (M := M_X1_layOut) (ci := 8) (C := RX5) (T := TX5) (Nf := 8) (ty := tyX5) cl8 dX1_layOut_100 (ly_G (by decide)) 5 (by decide) t_256 rfl rfl ?_
          refine z_sipush (M := M_X1_layOut) dX1_layOut_103 (by decide +kernel) ?_
          by_cases h_66 : (w32 (σ_34 (kE_size 179) 0)) < 2048
          · refine z_icmp_ge_f (M := M_X1_layOut) (tgt := 173) dX1_layOut_106 (by decide) rfl (by decide +kernel) h_66 ?_
            exact absurd ⟨h_65, h_66⟩ h_60
          · refine z_icmp_ge_t (M := M_X1_layOut) (tgt := 173) dX1_layOut_106 (by decide) rfl (by decide +kernel) (Int.not_lt.mp h_66) ?_
            exact J_62
        · refine z_icmp_ge_t (M := M_X1_layOut) (tgt := 173) dX1_layOut_93 (by decide) rfl rfl (Int.not_lt.mp h_65) ?_
          exact J_62
    · refine z_icmp_ge_t (M := M_X1_layOut) (tgt := 212) dX1_layOut_34 (by decide) rfl (by decide +kernel) (Int.not_lt.mp h_24) ?_
      exact J_81 _ _ _ (K_12 _ (Option.some.inj H).symm).symm
  · refine z_icmp_ge_t (M := M_X1_layOut) (tgt := 212) dX1_layOut_24 (by decide) rfl rfl (Int.not_lt.mp h_23) ?_
    exact J_81 _ _ _ (K_12 _ (Option.some.inj H).symm).symm
theorem c_X1_nextOf (hl : l.stackTraces = false) {σ : SG} {i_0 : Int} {r : Int}  (H : fJ_nextOf σ i_0 = some r) : en_S l E M_X1_nextOf 1 0 0 [vr 177, vi i_0] σ (pS (some (vi r)) σ) := by
  unfold fJ_nextOf at H
  refine z_mk (lv := [some (vr 177), some (vi i_0), none]) m_X1_nextOf rfl hl (Nat.le_of_ble_eq_true rfl) rfl ?_
  refine z_aload_n (M := M_X1_nextOf) dX1_nextOf_0 rfl ?_
  refine z_getR (M := M_X1_nextOf) (ci := 4) (C := RX1) (T := TX1) (Nf := 11) (ty := tyX1) cl4 dX1_nextOf_1 ly_177 1 (by decide) t_286 rfl ?_
  refine z_getR (M := M_X1_nextOf) (ci := 8) (C := RX5) (T := TX5) (Nf := 8) (ty := tyX5) cl8 dX1_nextOf_4 (ly_G (by decide)) 4 (by decide) t_251 rfl ?_
  refine z_iload_n (M := M_X1_nextOf) dX1_nextOf_7 rfl ?_
  obtain ⟨x_1, x_1_e, hi_2, H⟩ := rd_e H
  refine z_iald (M := M_X1_nextOf) dX1_nextOf_8 ly_184 rfl rfl rfl hi_2 x_1_e ?_
  refine z_istore_n (M := M_X1_nextOf) (lv' := [some (vr 177), some (vi i_0), some (vi x_1)]) dX1_nextOf_9 (Nat.le_of_ble_eq_true rfl) rfl rfl ?_
  obtain ⟨v_11, he_12, hk_13⟩ := bd_e H
  have J_14 : ∀ x_10, v_11 = x_10 → YY l E M_X1_nextOf 1 0 0 (pS (some (vi r)) σ) 34 [some (vr 177), some (vi i_0), some (vi x_1)] [vi x_10] σ 0 0 := by
    intro x_10 e
    have H := hk_13
    rw [e] at H
    cases H
    exact z_iret (M := M_X1_nextOf) dX1_nextOf_34 rfl (Nat.le_of_ble_eq_true rfl) (Nat.le_of_ble_eq_true rfl) ⟨rfl, rfl⟩
  have H := he_12
  refine z_iload_n (M := M_X1_nextOf) dX1_nextOf_10 rfl ?_
  refine z_iconst (M := M_X1_nextOf) dX1_nextOf_11 ?_
  refine z_iadd (M := M_X1_nextOf) dX1_nextOf_12 ?_
  refine z_aload_n (M := M_X1_nextOf) dX1_nextOf_13 rfl ?_
  refine z_getR (M := M_X1_nextOf) (ci := 4) (C := RX1) (T := TX1) (Nf := 11) (ty := tyX1) cl4 dX1_nextOf_14 ly_177 6 (by decide) t_291 rfl ?_
  refine z_iload_n (M := M_X1_nextOf) dX1_nextOf_17 rfl ?_
  obtain ⟨x_3, x_3_e, hi_4, H⟩ := rd_e H
  refine z_iald (M := M_X1_nextOf) dX1_nextOf_18 ly_189 rfl rfl rfl hi_4 x_3_e ?_
  rcases if_e H with ⟨h_5, H⟩ | ⟨h_5, H⟩
  · refine z_icmp_ge_f (M := M_X1_nextOf) (tgt := 28) dX1_nextOf_19 (by decide) rfl rfl h_5 ?_
    refine z_iload_n (M := M_X1_nextOf) dX1_nextOf_22 rfl ?_
    refine z_iconst (M := M_X1_nextOf) dX1_nextOf_23 ?_
    refine z_iadd (M := M_X1_nextOf) dX1_nextOf_24 ?_
    refine z_goto (M := M_X1_nextOf) (tgt := 34) dX1_nextOf_25 (by decide) ?_
    exact J_14 _ (Option.some.inj H).symm
  · refine z_icmp_ge_t (M := M_X1_nextOf) (tgt := 28) dX1_nextOf_19 (by decide) rfl rfl (Int.not_lt.mp h_5) ?_
    refine z_aload_n (M := M_X1_nextOf) dX1_nextOf_28 rfl ?_
    refine z_getR (M := M_X1_nextOf) (ci := 4) (C := RX1) (T := TX1) (Nf := 11) (ty := tyX1) cl4 dX1_nextOf_29 ly_177 5 (by decide) t_290 rfl ?_
    refine z_iload_n (M := M_X1_nextOf) dX1_nextOf_32 rfl ?_
    obtain ⟨x_7, x_7_e, hi_8, H⟩ := rd_e H
    refine z_iald (M := M_X1_nextOf) dX1_nextOf_33 ly_188 rfl rfl rfl hi_8 x_7_e ?_
    exact J_14 _ (Option.some.inj H).symm
theorem c_X5_ends (hl : l.stackTraces = false) {σ : SG} {this_0 : Nat} {i_0 : Int} {x_0 : Int} {y_0 : Int} {r : Bool} (h_this : isG this_0) (H : fE_ends σ this_0 i_0 x_0 y_0 = some r) : en_S l E M_X5_ends 1 0 0 [vr this_0, vi i_0, vi x_0, vi y_0] σ (pS (some (zv r)) σ) := by
  unfold fE_ends at H
  refine z_mk (lv := [some (vr this_0), some (vi i_0), some (vi x_0), some (vi y_0)]) m_X5_ends rfl hl (Nat.le_of_ble_eq_true rfl) rfl ?_
  obtain ⟨v_11, he_12, hk_13⟩ := bd_e H
  have J_14 : ∀ x_10, v_11 = x_10 → YY l E M_X5_ends 1 0 0 (pS (some (zv r)) σ) 25 [some (vr this_0), some (vi i_0), some (vi x_0), some (vi y_0)] [zv x_10] σ 0 0 := by
    intro x_10 e
    have H := hk_13
    rw [e] at H
    cases H
    exact z_zret (M := M_X5_ends) dX5_ends_25 rfl (Nat.le_of_ble_eq_true rfl) (Nat.le_of_ble_eq_true rfl) ⟨rfl, rfl⟩
  have H := he_12
  refine z_aload_n (M := M_X5_ends) dX5_ends_0 rfl ?_
  refine z_getR (M := M_X5_ends) (ci := 8) (C := RX5) (T := TX5) (Nf := 8) (ty := tyX5) cl8 dX5_ends_1 (ly_G h_this) 2 (by decide) t_242 rfl ?_
  refine z_iload_n (M := M_X5_ends) dX5_ends_4 rfl ?_
  obtain ⟨x_1, x_1_e, hi_2, H⟩ := rd_e H
  refine z_iald (M := M_X5_ends) dX5_ends_5 (ly_Gi (k := 3) h_this (by decide) (by decide)) rfl rfl rfl hi_2 x_1_e ?_
  refine z_iload_n (M := M_X5_ends) dX5_ends_6 rfl ?_
  rcases if_e H with ⟨h_3, H⟩ | ⟨h_3, H⟩
  · refine z_icmp_ne_f (M := M_X5_ends) (tgt := 24) dX5_ends_7 (by decide) rfl rfl h_3 ?_
    refine z_aload_n (M := M_X5_ends) dX5_ends_10 rfl ?_
    refine z_getR (M := M_X5_ends) (ci := 8) (C := RX5) (T := TX5) (Nf := 8) (ty := tyX5) cl8 dX5_ends_11 (ly_G h_this) 3 (by decide) t_246 rfl ?_
    refine z_iload_n (M := M_X5_ends) dX5_ends_14 rfl ?_
    obtain ⟨x_4, x_4_e, hi_5, H⟩ := rd_e H
    refine z_iald (M := M_X5_ends) dX5_ends_15 (ly_Gi (k := 4) h_this (by decide) (by decide)) rfl rfl rfl hi_5 x_4_e ?_
    refine z_iload_n (M := M_X5_ends) dX5_ends_16 rfl ?_
    rcases if_e H with ⟨h_6, H⟩ | ⟨h_6, H⟩
    · refine z_icmp_ne_f (M := M_X5_ends) (tgt := 24) dX5_ends_17 (by decide) rfl rfl h_6 ?_
      refine z_zconst (M := M_X5_ends) (b := true) dX5_ends_20 rfl ?_
      refine z_goto (M := M_X5_ends) (tgt := 25) dX5_ends_21 (by decide) ?_
      exact J_14 _ (Option.some.inj H).symm
    · refine z_icmp_ne_t (M := M_X5_ends) (tgt := 24) dX5_ends_17 (by decide) rfl rfl h_6 ?_
      refine z_zconst (M := M_X5_ends) (b := false) dX5_ends_24 rfl ?_
      exact J_14 _ (Option.some.inj H).symm
  · refine z_icmp_ne_t (M := M_X5_ends) (tgt := 24) dX5_ends_7 (by decide) rfl rfl h_3 ?_
    refine z_zconst (M := M_X5_ends) (b := false) dX5_ends_24 rfl ?_
    exact J_14 _ (Option.some.inj H).symm
theorem c_X1_leadsOnTo (hl : l.stackTraces = false) {σ : SG} {i_0 : Int} {j_0 : Int} {r : Bool}  (H : fJ_leadsOnTo σ i_0 j_0 = some r) : en_S l E M_X1_leadsOnTo 2 0 0 [vr 177, vi i_0, vi j_0] σ (pS (some (zv r)) σ) := by
  unfold fJ_leadsOnTo at H
  refine z_mk (lv := [some (vr 177), some (vi i_0), some (vi j_0)]) m_X1_leadsOnTo rfl hl (Nat.le_of_ble_eq_true rfl) rfl ?_
  obtain ⟨v_15, he_16, hk_17⟩ := bd_e H
  have J_18 : ∀ x_14, v_15 = x_14 → YY l E M_X1_leadsOnTo 2 0 0 (pS (some (zv r)) σ) 64 [some (vr 177), some (vi i_0), some (vi j_0)] [zv x_14] σ 0 0 := by
    intro x_14 e
    have H := hk_17
    rw [e] at H
    cases H
    exact z_zret (M := M_X1_leadsOnTo) dX1_leadsOnTo_64 rfl (Nat.le_of_ble_eq_true rfl) (Nat.le_of_ble_eq_true rfl) ⟨rfl, rfl⟩
  have H := he_16
  refine z_aload_n (M := M_X1_leadsOnTo) dX1_leadsOnTo_0 rfl ?_
  refine z_iload_n (M := M_X1_leadsOnTo) dX1_leadsOnTo_1 rfl ?_
  obtain ⟨x_2, hc_1, H⟩ := bd_e H
  refine z_callV (M := M_X1_leadsOnTo) (M' := M_X1_nextOf) (as := [vi i_0]) (rest := []) rfl rfl dX1_leadsOnTo_2 m_X1_nextOf t_1290 t_1292 s_53 (c_X1_nextOf hl  hc_1) rfl rfl ly_177 rfl (Nat.le_of_ble_eq_true rfl) (Nat.le_of_ble_eq_true rfl) (Nat.le_of_ble_eq_true rfl) (Nat.le_of_ble_eq_true rfl) ?_
  refine z_st (st' := [vi x_2]) rfl ?_
  refine z_iload_n (M := M_X1_leadsOnTo) dX1_leadsOnTo_5 rfl ?_
  rcases if_e H with ⟨h_3, H⟩ | ⟨h_3, H⟩
  · refine z_icmp_ne_f (M := M_X1_leadsOnTo) (tgt := 63) dX1_leadsOnTo_6 (by decide) rfl rfl h_3 ?_
    refine z_aload_n (M := M_X1_leadsOnTo) dX1_leadsOnTo_9 rfl ?_
    refine z_getR (M := M_X1_leadsOnTo) (ci := 4) (C := RX1) (T := TX1) (Nf := 11) (ty := tyX1) cl4 dX1_leadsOnTo_10 ly_177 1 (by decide) t_286 rfl ?_
    refine z_iload_n (M := M_X1_leadsOnTo) dX1_leadsOnTo_13 rfl ?_
    refine z_aload_n (M := M_X1_leadsOnTo) dX1_leadsOnTo_14 rfl ?_
    refine z_getR (M := M_X1_leadsOnTo) (ci := 4) (C := RX1) (T := TX1) (Nf := 11) (ty := tyX1) cl4 dX1_leadsOnTo_15 ly_177 1 (by decide) t_286 rfl ?_
    refine z_getI (M := M_X1_leadsOnTo) (ci := 8) (C := RX5) (T := TX5) (Nf := 8) (ty := tyX5) cl8 dX1_leadsOnTo_18 (ly_G (by decide)) 6 (by decide) t_258 rfl rfl ?_
    refine z_aload_n (M := M_X1_leadsOnTo) dX1_leadsOnTo_21 rfl ?_
    refine z_getR (M := M_X1_leadsOnTo) (ci := 4) (C := RX1) (T := TX1) (Nf := 11) (ty := tyX1) cl4 dX1_leadsOnTo_22 ly_177 1 (by decide) t_286 rfl ?_
    refine z_getI (M := M_X1_leadsOnTo) (ci := 8) (C := RX5) (T := TX5) (Nf := 8) (ty := tyX5) cl8 dX1_leadsOnTo_25 (ly_G (by decide)) 7 (by decide) t_261 rfl rfl ?_
    obtain ⟨x_5, hc_4, H⟩ := bd_e H
    refine z_callV (M := M_X1_leadsOnTo) (M' := M_X5_ends) (as := [vi i_0, vi (σ (kE_placeX 179) 0), vi (σ (kE_placeY 179) 0)]) (rest := []) rfl rfl dX1_leadsOnTo_28 m_X5_ends t_1286 t_1287 t_1288 (c_X5_ends hl (by decide) hc_4) rfl rfl (ly_G (by decide)) rfl (Nat.le_of_ble_eq_true rfl) (Nat.le_of_ble_eq_true rfl) (Nat.le_of_ble_eq_true rfl) (Nat.le_of_ble_eq_true rfl) ?_
    refine z_st (st' := [zv x_5]) rfl ?_
    rcases if_e H with ⟨h_6, H⟩ | ⟨h_6, H⟩
    · refine z_zeq_f (M := M_X1_leadsOnTo) (tgt := 63) dX1_leadsOnTo_31 (by decide) h_6 ?_
      refine z_aload_n (M := M_X1_leadsOnTo) dX1_leadsOnTo_34 rfl ?_
      refine z_getR (M := M_X1_leadsOnTo) (ci := 4) (C := RX1) (T := TX1) (Nf := 11) (ty := tyX1) cl4 dX1_leadsOnTo_35 ly_177 1 (by decide) t_286 rfl ?_
      refine z_iload_n (M := M_X1_leadsOnTo) dX1_leadsOnTo_38 rfl ?_
      refine z_aload_n (M := M_X1_leadsOnTo) dX1_leadsOnTo_39 rfl ?_
      refine z_getR (M := M_X1_leadsOnTo) (ci := 4) (C := RX1) (T := TX1) (Nf := 11) (ty := tyX1) cl4 dX1_leadsOnTo_40 ly_177 1 (by decide) t_286 rfl ?_
      refine z_getI (M := M_X1_leadsOnTo) (ci := 8) (C := RX5) (T := TX5) (Nf := 8) (ty := tyX5) cl8 dX1_leadsOnTo_43 (ly_G (by decide)) 6 (by decide) t_258 rfl rfl ?_
      refine z_aload_n (M := M_X1_leadsOnTo) dX1_leadsOnTo_46 rfl ?_
      refine z_getR (M := M_X1_leadsOnTo) (ci := 4) (C := RX1) (T := TX1) (Nf := 11) (ty := tyX1) cl4 dX1_leadsOnTo_47 ly_177 1 (by decide) t_286 rfl ?_
      refine z_getI (M := M_X1_leadsOnTo) (ci := 8) (C := RX5) (T := TX5) (Nf := 8) (ty := tyX5) cl8 dX1_leadsOnTo_50 (ly_G (by decide)) 7 (by decide) t_261 rfl rfl ?_
      obtain ⟨x_8, hc_7, H⟩ := bd_e H
      refine z_callV (M := M_X1_leadsOnTo) (M' := M_X5_begins) (as := [vi j_0, vi (σ (kE_placeX 179) 0), vi (σ (kE_placeY 179) 0)]) (rest := []) rfl rfl dX1_leadsOnTo_53 m_X5_begins t_1282 t_1283 t_1284 (c_X5_begins hl (by decide) hc_7) rfl rfl (ly_G (by decide)) rfl (Nat.le_of_ble_eq_true rfl) (Nat.le_of_ble_eq_true rfl) (Nat.le_of_ble_eq_true rfl) (Nat.le_of_ble_eq_true rfl) ?_
      refine z_st (st' := [zv x_8]) rfl ?_
      rcases if_e H with ⟨h_9, H⟩ | ⟨h_9, H⟩
      · refine z_zeq_f (M := M_X1_leadsOnTo) (tgt := 63) dX1_leadsOnTo_56 (by decide) h_9 ?_
        refine z_zconst (M := M_X1_leadsOnTo) (b := true) dX1_leadsOnTo_59 rfl ?_
        refine z_goto (M := M_X1_leadsOnTo) (tgt := 64) dX1_leadsOnTo_60 (by decide) ?_
        exact J_18 _ (Option.some.inj H).symm
      · refine z_zeq_t (M := M_X1_leadsOnTo) (tgt := 63) dX1_leadsOnTo_56 (by decide) h_9 ?_
        refine z_zconst (M := M_X1_leadsOnTo) (b := false) dX1_leadsOnTo_63 rfl ?_
        exact J_18 _ (Option.some.inj H).symm
    · refine z_zeq_t (M := M_X1_leadsOnTo) (tgt := 63) dX1_leadsOnTo_31 (by decide) h_6 ?_
      refine z_zconst (M := M_X1_leadsOnTo) (b := false) dX1_leadsOnTo_63 rfl ?_
      exact J_18 _ (Option.some.inj H).symm
  · refine z_icmp_ne_t (M := M_X1_leadsOnTo) (tgt := 63) dX1_leadsOnTo_6 (by decide) rfl rfl h_3 ?_
    refine z_zconst (M := M_X1_leadsOnTo) (b := false) dX1_leadsOnTo_63 rfl ?_
    exact J_18 _ (Option.some.inj H).symm
theorem c_X1_isLeft (hl : l.stackTraces = false) {σ : SG} {i_0 : Int} {on_0 : Int} {x_0 : Int} {y_0 : Int} {r : Bool}  (H : fJ_isLeft σ i_0 on_0 x_0 y_0 = some r) : en_S l E M_X1_isLeft 3 0 0 [vr 177, vi i_0, vi on_0, vi x_0, vi y_0] σ (pS (some (zv r)) σ) := by
  unfold fJ_isLeft at H
  refine z_mk (lv := [some (vr 177), some (vi i_0), some (vi on_0), some (vi x_0), some (vi y_0), none, none, none, none, none, none, none, none, none, none]) m_X1_isLeft rfl hl (Nat.le_of_ble_eq_true rfl) rfl ?_
  refine z_aload_n (M := M_X1_isLeft) dX1_isLeft_0 rfl ?_
  refine z_getR (M := M_X1_isLeft) (ci := 4) (C := RX1) (T := TX1) (Nf := 11) (ty := tyX1) cl4 dX1_isLeft_1 ly_177 1 (by decide) t_286 rfl ?_
  refine z_getI (M := M_X1_isLeft) (ci := 8) (C := RX5) (T := TX5) (Nf := 8) (ty := tyX5) cl8 dX1_isLeft_4 (ly_G (by decide)) 6 (by decide) t_258 rfl rfl ?_
  refine z_istore (M := M_X1_isLeft) (lv' := [some (vr 177), some (vi i_0), some (vi on_0), some (vi x_0), some (vi y_0), some (vi (σ (kE_placeX 179) 0)), none, none, none, none, none, none, none, none, none]) dX1_isLeft_7 (Nat.le_of_ble_eq_true rfl) rfl rfl ?_
  refine z_aload_n (M := M_X1_isLeft) dX1_isLeft_9 rfl ?_
  refine z_getR (M := M_X1_isLeft) (ci := 4) (C := RX1) (T := TX1) (Nf := 11) (ty := tyX1) cl4 dX1_isLeft_10 ly_177 1 (by decide) t_286 rfl ?_
  refine z_getI (M := M_X1_isLeft) (ci := 8) (C := RX5) (T := TX5) (Nf := 8) (ty := tyX5) cl8 dX1_isLeft_13 (ly_G (by decide)) 7 (by decide) t_261 rfl rfl ?_
  refine z_istore (M := M_X1_isLeft) (lv' := [some (vr 177), some (vi i_0), some (vi on_0), some (vi x_0), some (vi y_0), some (vi (σ (kE_placeX 179) 0)), some (vi (σ (kE_placeY 179) 0)), none, none, none, none, none, none, none, none]) dX1_isLeft_16 (Nat.le_of_ble_eq_true rfl) rfl rfl ?_
  refine z_aload_n (M := M_X1_isLeft) dX1_isLeft_18 rfl ?_
  refine z_getR (M := M_X1_isLeft) (ci := 4) (C := RX1) (T := TX1) (Nf := 11) (ty := tyX1) cl4 dX1_isLeft_19 ly_177 1 (by decide) t_286 rfl ?_
  refine z_getR (M := M_X1_isLeft) (ci := 8) (C := RX5) (T := TX5) (Nf := 8) (ty := tyX5) cl8 dX1_isLeft_22 (ly_G (by decide)) 2 (by decide) t_245 rfl ?_
  refine z_iload_n (M := M_X1_isLeft) dX1_isLeft_25 rfl ?_
  obtain ⟨x_1, x_1_e, hi_2, H⟩ := rd_e H
  refine z_iald (M := M_X1_isLeft) dX1_isLeft_26 ly_182 rfl rfl rfl hi_2 x_1_e ?_
  refine z_istore (M := M_X1_isLeft) (lv' := [some (vr 177), some (vi i_0), some (vi on_0), some (vi x_0), some (vi y_0), some (vi (σ (kE_placeX 179) 0)), some (vi (σ (kE_placeY 179) 0)), some (vi x_1), none, none, none, none, none, none, none]) dX1_isLeft_27 (Nat.le_of_ble_eq_true rfl) rfl rfl ?_
  refine z_aload_n (M := M_X1_isLeft) dX1_isLeft_29 rfl ?_
  refine z_getR (M := M_X1_isLeft) (ci := 4) (C := RX1) (T := TX1) (Nf := 11) (ty := tyX1) cl4 dX1_isLeft_30 ly_177 1 (by decide) t_286 rfl ?_
  refine z_getR (M := M_X1_isLeft) (ci := 8) (C := RX5) (T := TX5) (Nf := 8) (ty := tyX5) cl8 dX1_isLeft_33 (ly_G (by decide)) 3 (by decide) t_249 rfl ?_
  refine z_iload_n (M := M_X1_isLeft) dX1_isLeft_36 rfl ?_
  obtain ⟨x_3, x_3_e, hi_4, H⟩ := rd_e H
  refine z_iald (M := M_X1_isLeft) dX1_isLeft_37 ly_183 rfl rfl rfl hi_4 x_3_e ?_
  refine z_istore (M := M_X1_isLeft) (lv' := [some (vr 177), some (vi i_0), some (vi on_0), some (vi x_0), some (vi y_0), some (vi (σ (kE_placeX 179) 0)), some (vi (σ (kE_placeY 179) 0)), some (vi x_1), some (vi x_3), none, none, none, none, none, none]) dX1_isLeft_38 (Nat.le_of_ble_eq_true rfl) rfl rfl ?_
  refine z_aload_n (M := M_X1_isLeft) dX1_isLeft_40 rfl ?_
  refine z_getR (M := M_X1_isLeft) (ci := 4) (C := RX1) (T := TX1) (Nf := 11) (ty := tyX1) cl4 dX1_isLeft_41 ly_177 1 (by decide) t_286 rfl ?_
  refine z_getR (M := M_X1_isLeft) (ci := 8) (C := RX5) (T := TX5) (Nf := 8) (ty := tyX5) cl8 dX1_isLeft_44 (ly_G (by decide)) 0 (by decide) t_237 rfl ?_
  refine z_iload_n (M := M_X1_isLeft) dX1_isLeft_47 rfl ?_
  obtain ⟨x_5, x_5_e, hi_6, H⟩ := rd_e H
  refine z_iald (M := M_X1_isLeft) dX1_isLeft_48 ly_180 rfl rfl rfl hi_6 x_5_e ?_
  refine z_istore (M := M_X1_isLeft) (lv' := [some (vr 177), some (vi i_0), some (vi on_0), some (vi x_0), some (vi y_0), some (vi (σ (kE_placeX 179) 0)), some (vi (σ (kE_placeY 179) 0)), some (vi x_1), some (vi x_3), some (vi x_5), none, none, none, none, none]) dX1_isLeft_49 (Nat.le_of_ble_eq_true rfl) rfl rfl ?_
  refine z_aload_n (M := M_X1_isLeft) dX1_isLeft_51 rfl ?_
  refine z_getR (M := M_X1_isLeft) (ci := 4) (C := RX1) (T := TX1) (Nf := 11) (ty := tyX1) cl4 dX1_isLeft_52 ly_177 1 (by decide) t_286 rfl ?_
  refine z_getR (M := M_X1_isLeft) (ci := 8) (C := RX5) (T := TX5) (Nf := 8) (ty := tyX5) cl8 dX1_isLeft_55 (ly_G (by decide)) 1 (by decide) t_241 rfl ?_
  refine z_iload_n (M := M_X1_isLeft) dX1_isLeft_58 rfl ?_
  obtain ⟨x_7, x_7_e, hi_8, H⟩ := rd_e H
  refine z_iald (M := M_X1_isLeft) dX1_isLeft_59 ly_181 rfl rfl rfl hi_8 x_7_e ?_
  refine z_istore (M := M_X1_isLeft) (lv' := [some (vr 177), some (vi i_0), some (vi on_0), some (vi x_0), some (vi y_0), some (vi (σ (kE_placeX 179) 0)), some (vi (σ (kE_placeY 179) 0)), some (vi x_1), some (vi x_3), some (vi x_5), some (vi x_7), none, none, none, none]) dX1_isLeft_60 (Nat.le_of_ble_eq_true rfl) rfl rfl ?_
  refine z_iload (M := M_X1_isLeft) dX1_isLeft_62 rfl ?_
  refine z_i2l (M := M_X1_isLeft) dX1_isLeft_64 ?_
  refine z_iload (M := M_X1_isLeft) dX1_isLeft_65 rfl ?_
  refine z_i2l (M := M_X1_isLeft) dX1_isLeft_67 ?_
  refine z_iload (M := M_X1_isLeft) dX1_isLeft_68 rfl ?_
  refine z_i2l (M := M_X1_isLeft) dX1_isLeft_70 ?_
  refine z_iload (M := M_X1_isLeft) dX1_isLeft_71 rfl ?_
  refine z_i2l (M := M_X1_isLeft) dX1_isLeft_73 ?_
  refine z_iload_n (M := M_X1_isLeft) dX1_isLeft_74 rfl ?_
  refine z_i2l (M := M_X1_isLeft) dX1_isLeft_75 ?_
  refine z_iload (M := M_X1_isLeft) dX1_isLeft_76 rfl ?_
  refine z_i2l (M := M_X1_isLeft) dX1_isLeft_78 ?_
  refine z_callSN (M := M_X1_isLeft) (M' := M_X11_turnOf) (as := [vl (w32 (σ (kE_placeX 179) 0)), vl (w32 (σ (kE_placeY 179) 0)), vl (w32 x_1), vl (w32 x_3), vl (w32 x_0), vl (w32 y_0)]) (rest := []) rfl rfl dX1_isLeft_79 m_X11_turnOf n_1298 t_1265 (c_X11_turnOf hl  rfl) rfl rfl (Nat.le_of_ble_eq_true rfl) (Nat.le_of_ble_eq_true rfl) (Nat.le_of_ble_eq_true rfl) (Nat.le_of_ble_eq_true rfl) ?_
  refine z_st (st' := [vi (fQ_turnOf (w32 (σ (kE_placeX 179) 0)) (w32 (σ (kE_placeY 179) 0)) (w32 x_1) (w32 x_3) (w32 x_0) (w32 y_0))]) rfl ?_
  obtain ⟨x_9, x_9_e, H⟩ := lt_e H
  refine z_st (congrArg (fun z => vi z :: []) x_9_e) ?_
  refine z_istore (M := M_X1_isLeft) (lv' := [some (vr 177), some (vi i_0), some (vi on_0), some (vi x_0), some (vi y_0), some (vi (σ (kE_placeX 179) 0)), some (vi (σ (kE_placeY 179) 0)), some (vi x_1), some (vi x_3), some (vi x_5), some (vi x_7), some (vi x_9), none, none, none]) dX1_isLeft_82 (Nat.le_of_ble_eq_true rfl) rfl rfl ?_
  refine z_iload (M := M_X1_isLeft) dX1_isLeft_84 rfl ?_
  refine z_i2l (M := M_X1_isLeft) dX1_isLeft_86 ?_
  refine z_iload (M := M_X1_isLeft) dX1_isLeft_87 rfl ?_
  refine z_i2l (M := M_X1_isLeft) dX1_isLeft_89 ?_
  refine z_iload (M := M_X1_isLeft) dX1_isLeft_90 rfl ?_
  refine z_i2l (M := M_X1_isLeft) dX1_isLeft_92 ?_
  refine z_iload (M := M_X1_isLeft) dX1_isLeft_93 rfl ?_
  refine z_i2l (M := M_X1_isLeft) dX1_isLeft_95 ?_
  refine z_iload_n (M := M_X1_isLeft) dX1_isLeft_96 rfl ?_
  refine z_i2l (M := M_X1_isLeft) dX1_isLeft_97 ?_
  refine z_iload (M := M_X1_isLeft) dX1_isLeft_98 rfl ?_
  refine z_i2l (M := M_X1_isLeft) dX1_isLeft_100 ?_
  refine z_callSN (M := M_X1_isLeft) (M' := M_X11_turnOf) (as := [vl (w32 (σ (kE_placeX 179) 0)), vl (w32 (σ (kE_placeY 179) 0)), vl (w32 x_5), vl (w32 x_7), vl (w32 x_0), vl (w32 y_0)]) (rest := []) rfl rfl dX1_isLeft_101 m_X11_turnOf n_1298 t_1265 (c_X11_turnOf hl  rfl) rfl rfl (Nat.le_of_ble_eq_true rfl) (Nat.le_of_ble_eq_true rfl) (Nat.le_of_ble_eq_true rfl) (Nat.le_of_ble_eq_true rfl) ?_
  refine z_st (st' := [vi (fQ_turnOf (w32 (σ (kE_placeX 179) 0)) (w32 (σ (kE_placeY 179) 0)) (w32 x_5) (w32 x_7) (w32 x_0) (w32 y_0))]) rfl ?_
  obtain ⟨x_10, x_10_e, H⟩ := lt_e H
  refine z_st (congrArg (fun z => vi z :: []) x_10_e) ?_
  refine z_istore (M := M_X1_isLeft) (lv' := [some (vr 177), some (vi i_0), some (vi on_0), some (vi x_0), some (vi y_0), some (vi (σ (kE_placeX 179) 0)), some (vi (σ (kE_placeY 179) 0)), some (vi x_1), some (vi x_3), some (vi x_5), some (vi x_7), some (vi x_9), some (vi x_10), none, none]) dX1_isLeft_104 (Nat.le_of_ble_eq_true rfl) rfl rfl ?_
  refine z_iload (M := M_X1_isLeft) dX1_isLeft_106 rfl ?_
  refine z_i2l (M := M_X1_isLeft) dX1_isLeft_108 ?_
  refine z_iload (M := M_X1_isLeft) dX1_isLeft_109 rfl ?_
  refine z_i2l (M := M_X1_isLeft) dX1_isLeft_111 ?_
  refine z_iload (M := M_X1_isLeft) dX1_isLeft_112 rfl ?_
  refine z_i2l (M := M_X1_isLeft) dX1_isLeft_114 ?_
  refine z_iload (M := M_X1_isLeft) dX1_isLeft_115 rfl ?_
  refine z_i2l (M := M_X1_isLeft) dX1_isLeft_117 ?_
  refine z_iload (M := M_X1_isLeft) dX1_isLeft_118 rfl ?_
  refine z_i2l (M := M_X1_isLeft) dX1_isLeft_120 ?_
  refine z_iload (M := M_X1_isLeft) dX1_isLeft_121 rfl ?_
  refine z_i2l (M := M_X1_isLeft) dX1_isLeft_123 ?_
  refine z_callSN (M := M_X1_isLeft) (M' := M_X11_turnOf) (as := [vl (w32 (σ (kE_placeX 179) 0)), vl (w32 (σ (kE_placeY 179) 0)), vl (w32 x_1), vl (w32 x_3), vl (w32 x_5), vl (w32 x_7)]) (rest := []) rfl rfl dX1_isLeft_124 m_X11_turnOf n_1298 t_1265 (c_X11_turnOf hl  rfl) rfl rfl (Nat.le_of_ble_eq_true rfl) (Nat.le_of_ble_eq_true rfl) (Nat.le_of_ble_eq_true rfl) (Nat.le_of_ble_eq_true rfl) ?_
  refine z_st (st' := [vi (fQ_turnOf (w32 (σ (kE_placeX 179) 0)) (w32 (σ (kE_placeY 179) 0)) (w32 x_1) (w32 x_3) (w32 x_5) (w32 x_7))]) rfl ?_
  obtain ⟨x_11, x_11_e, H⟩ := lt_e H
  refine z_st (congrArg (fun z => vi z :: []) x_11_e) ?_
  refine z_istore (M := M_X1_isLeft) (lv' := [some (vr 177), some (vi i_0), some (vi on_0), some (vi x_0), some (vi y_0), some (vi (σ (kE_placeX 179) 0)), some (vi (σ (kE_placeY 179) 0)), some (vi x_1), some (vi x_3), some (vi x_5), some (vi x_7), some (vi x_9), some (vi x_10), some (vi x_11), none]) dX1_isLeft_127 (Nat.le_of_ble_eq_true rfl) rfl rfl ?_
  refine z_iload (M := M_X1_isLeft) dX1_isLeft_129 rfl ?_
  rcases if_e H with ⟨h_12, H⟩ | ⟨h_12, H⟩
  · refine z_if_le_f (M := M_X1_isLeft) (tgt := 150) dX1_isLeft_131 (by decide) rfl h_12 ?_
    have J_13 : YY l E M_X1_isLeft 3 0 0 (pS (some (zv r)) σ) 149 [some (vr 177), some (vi i_0), some (vi on_0), some (vi x_0), some (vi y_0), some (vi (σ (kE_placeX 179) 0)), some (vi (σ (kE_placeY 179) 0)), some (vi x_1), some (vi x_3), some (vi x_5), some (vi x_7), some (vi x_9), some (vi x_10), some (vi x_11), none] [zv (decide ((0 < (w32 x_9)) ∧ ((w32 x_10) < 0)))] σ 0 0 := by
      cases H
      exact z_zret (M := M_X1_isLeft) dX1_isLeft_149 rfl (Nat.le_of_ble_eq_true rfl) (Nat.le_of_ble_eq_true rfl) ⟨rfl, rfl⟩
    refine z_iload (M := M_X1_isLeft) dX1_isLeft_134 rfl ?_
    by_cases h_14 : 0 < (w32 x_9)
    · refine z_if_le_f (M := M_X1_isLeft) (tgt := 148) dX1_isLeft_136 (by decide) rfl h_14 ?_
      refine z_iload (M := M_X1_isLeft) dX1_isLeft_139 rfl ?_
      by_cases h_15 : (w32 x_10) < 0
      · refine z_if_ge_f (M := M_X1_isLeft) (tgt := 148) dX1_isLeft_141 (by decide) rfl h_15 ?_
        refine z_iconst (M := M_X1_isLeft) dX1_isLeft_144 ?_
        refine z_goto (M := M_X1_isLeft) (tgt := 149) dX1_isLeft_145 (by decide) ?_
        exact z_st (by rw [zv_t (p := (0 < (w32 x_9)) ∧ ((w32 x_10) < 0)) ⟨h_14, h_15⟩]) J_13
      · refine z_if_ge_t (M := M_X1_isLeft) (tgt := 148) dX1_isLeft_141 (by decide) rfl (Int.not_lt.mp h_15) ?_
        refine z_iconst (M := M_X1_isLeft) dX1_isLeft_148 ?_
        exact z_st (by rw [zv_f (p := (0 < (w32 x_9)) ∧ ((w32 x_10) < 0)) (fun q => h_15 q.2)]) J_13
    · refine z_if_le_t (M := M_X1_isLeft) (tgt := 148) dX1_isLeft_136 (by decide) rfl (Int.not_lt.mp h_14) ?_
      refine z_iconst (M := M_X1_isLeft) dX1_isLeft_148 ?_
      exact z_st (by rw [zv_f (p := (0 < (w32 x_9)) ∧ ((w32 x_10) < 0)) (fun q => h_14 q.1)]) J_13
  · refine z_if_le_t (M := M_X1_isLeft) (tgt := 150) dX1_isLeft_131 (by decide) rfl (Int.not_lt.mp h_12) ?_
    refine z_iload (M := M_X1_isLeft) dX1_isLeft_150 rfl ?_
    rcases if_e H with ⟨h_16, H⟩ | ⟨h_16, H⟩
    · refine z_if_ge_f (M := M_X1_isLeft) (tgt := 171) dX1_isLeft_152 (by decide) rfl h_16 ?_
      have J_17 : YY l E M_X1_isLeft 3 0 0 (pS (some (zv r)) σ) 170 [some (vr 177), some (vi i_0), some (vi on_0), some (vi x_0), some (vi y_0), some (vi (σ (kE_placeX 179) 0)), some (vi (σ (kE_placeY 179) 0)), some (vi x_1), some (vi x_3), some (vi x_5), some (vi x_7), some (vi x_9), some (vi x_10), some (vi x_11), none] [zv (decide ((0 < (w32 x_9)) ∨ ((w32 x_10) < 0)))] σ 0 0 := by
        cases H
        exact z_zret (M := M_X1_isLeft) dX1_isLeft_170 rfl (Nat.le_of_ble_eq_true rfl) (Nat.le_of_ble_eq_true rfl) ⟨rfl, rfl⟩
      refine z_iload (M := M_X1_isLeft) dX1_isLeft_155 rfl ?_
      by_cases h_18 : 0 < (w32 x_9)
      · refine z_if_gt_t (M := M_X1_isLeft) (tgt := 165) dX1_isLeft_157 (by decide) rfl h_18 ?_
        refine z_iconst (M := M_X1_isLeft) dX1_isLeft_165 ?_
        refine z_goto (M := M_X1_isLeft) (tgt := 170) dX1_isLeft_166 (by decide) ?_
        exact z_st (by rw [zv_t (p := (0 < (w32 x_9)) ∨ ((w32 x_10) < 0)) (Or.inl h_18)]) J_17
      · refine z_if_gt_f (M := M_X1_isLeft) (tgt := 165) dX1_isLeft_157 (by decide) rfl (Int.not_lt.mp h_18) ?_
        refine z_iload (M := M_X1_isLeft) dX1_isLeft_160 rfl ?_
        by_cases h_19 : (w32 x_10) < 0
        · refine z_if_ge_f (M := M_X1_isLeft) (tgt := 169) dX1_isLeft_162 (by decide) rfl h_19 ?_
          refine z_iconst (M := M_X1_isLeft) dX1_isLeft_165 ?_
          refine z_goto (M := M_X1_isLeft) (tgt := 170) dX1_isLeft_166 (by decide) ?_
          exact z_st (by rw [zv_t (p := (0 < (w32 x_9)) ∨ ((w32 x_10) < 0)) (Or.inr h_19)]) J_17
        · refine z_if_ge_t (M := M_X1_isLeft) (tgt := 169) dX1_isLeft_162 (by decide) rfl (Int.not_lt.mp h_19) ?_
          refine z_iconst (M := M_X1_isLeft) dX1_isLeft_169 ?_
          exact z_st (by rw [zv_f (p := (0 < (w32 x_9)) ∨ ((w32 x_10) < 0)) (fun q => q.elim h_18 h_19)]) J_17
    · refine z_if_ge_t (M := M_X1_isLeft) (tgt := 171) dX1_isLeft_152 (by decide) rfl (Int.not_lt.mp h_16) ?_
      have J_20 : YY l E M_X1_isLeft 3 0 0 (pS (some (zv r)) σ) 284 [some (vr 177), some (vi i_0), some (vi on_0), some (vi x_0), some (vi y_0), some (vi (σ (kE_placeX 179) 0)), some (vi (σ (kE_placeY 179) 0)), some (vi x_1), some (vi x_3), some (vi x_5), some (vi x_7), some (vi x_9), some (vi x_10), some (vi x_11), none] [zv (decide (((((decide ((w32 (σ (kE_placeX 179) 0)) < (w32 x_1))) = (decide ((w32 (σ (kE_placeX 179) 0)) < (w32 x_5)))) ∧ ((decide ((w32 x_1) < (w32 (σ (kE_placeX 179) 0)))) = (decide ((w32 x_5) < (w32 (σ (kE_placeX 179) 0)))))) ∧ ((decide ((w32 (σ (kE_placeY 179) 0)) < (w32 x_3))) = (decide ((w32 (σ (kE_placeY 179) 0)) < (w32 x_7))))) ∧ ((decide ((w32 x_3) < (w32 (σ (kE_placeY 179) 0)))) = (decide ((w32 x_7) < (w32 (σ (kE_placeY 179) 0)))))))] σ 0 0 := by
        obtain ⟨x_21, x_21_e, H⟩ := lt_e H
        refine z_st (congrArg (fun z => zv z :: []) x_21_e) ?_
        refine z_zstore (M := M_X1_isLeft) (lv' := [some (vr 177), some (vi i_0), some (vi on_0), some (vi x_0), some (vi y_0), some (vi (σ (kE_placeX 179) 0)), some (vi (σ (kE_placeY 179) 0)), some (vi x_1), some (vi x_3), some (vi x_5), some (vi x_7), some (vi x_9), some (vi x_10), some (vi x_11), some (zv x_21)]) dX1_isLeft_284 (Nat.le_of_ble_eq_true rfl) rfl rfl ?_
        have J_22 : YY l E M_X1_isLeft 3 0 0 (pS (some (zv r)) σ) 301 [some (vr 177), some (vi i_0), some (vi on_0), some (vi x_0), some (vi y_0), some (vi (σ (kE_placeX 179) 0)), some (vi (σ (kE_placeY 179) 0)), some (vi x_1), some (vi x_3), some (vi x_5), some (vi x_7), some (vi x_9), some (vi x_10), some (vi x_11), some (zv x_21)] [zv (decide ((¬ (x_21 = true)) ∧ (0 < (w32 x_9))))] σ 0 0 := by
          cases H
          exact z_zret (M := M_X1_isLeft) dX1_isLeft_301 rfl (Nat.le_of_ble_eq_true rfl) (Nat.le_of_ble_eq_true rfl) ⟨rfl, rfl⟩
        refine z_zload (M := M_X1_isLeft) dX1_isLeft_286 rfl ?_
        by_cases h_23 : x_21 = true
        · refine z_zne_t (M := M_X1_isLeft) (tgt := 300) dX1_isLeft_288 (by decide) h_23 ?_
          refine z_iconst (M := M_X1_isLeft) dX1_isLeft_300 ?_
          exact z_st (by rw [zv_f (p := (¬ (x_21 = true)) ∧ (0 < (w32 x_9))) (fun q => (not_not_intro h_23) q.1)]) J_22
        · refine z_zne_f (M := M_X1_isLeft) (tgt := 300) dX1_isLeft_288 (by decide) h_23 ?_
          refine z_iload (M := M_X1_isLeft) dX1_isLeft_291 rfl ?_
          by_cases h_24 : 0 < (w32 x_9)
          · refine z_if_le_f (M := M_X1_isLeft) (tgt := 300) dX1_isLeft_293 (by decide) rfl h_24 ?_
            refine z_iconst (M := M_X1_isLeft) dX1_isLeft_296 ?_
            refine z_goto (M := M_X1_isLeft) (tgt := 301) dX1_isLeft_297 (by decide) ?_
            exact z_st (by rw [zv_t (p := (¬ (x_21 = true)) ∧ (0 < (w32 x_9))) ⟨h_23, h_24⟩]) J_22
          · refine z_if_le_t (M := M_X1_isLeft) (tgt := 300) dX1_isLeft_293 (by decide) rfl (Int.not_lt.mp h_24) ?_
            refine z_iconst (M := M_X1_isLeft) dX1_isLeft_300 ?_
            exact z_st (by rw [zv_f (p := (¬ (x_21 = true)) ∧ (0 < (w32 x_9))) (fun q => h_24 q.2)]) J_22
      have J_25 : YY l E M_X1_isLeft 3 0 0 (pS (some (zv r)) σ) 183 [some (vr 177), some (vi i_0), some (vi on_0), some (vi x_0), some (vi y_0), some (vi (σ (kE_placeX 179) 0)), some (vi (σ (kE_placeY 179) 0)), some (vi x_1), some (vi x_3), some (vi x_5), some (vi x_7), some (vi x_9), some (vi x_10), some (vi x_11), none] [zv (decide ((w32 (σ (kE_placeX 179) 0)) < (w32 x_1)))] σ 0 0 := by
        have J_26 : YY l E M_X1_isLeft 3 0 0 (pS (some (zv r)) σ) 195 [some (vr 177), some (vi i_0), some (vi on_0), some (vi x_0), some (vi y_0), some (vi (σ (kE_placeX 179) 0)), some (vi (σ (kE_placeY 179) 0)), some (vi x_1), some (vi x_3), some (vi x_5), some (vi x_7), some (vi x_9), some (vi x_10), some (vi x_11), none] [zv (decide ((w32 (σ (kE_placeX 179) 0)) < (w32 x_5))), zv (decide ((w32 (σ (kE_placeX 179) 0)) < (w32 x_1)))] σ 0 0 := by
          by_cases h_27 : (decide ((w32 (σ (kE_placeX 179) 0)) < (w32 x_1))) = (decide ((w32 (σ (kE_placeX 179) 0)) < (w32 x_5)))
          · refine z_cne_f (M := M_X1_isLeft) (tgt := 283) dX1_isLeft_195 (by decide)  h_27 ?_
            have J_28 : YY l E M_X1_isLeft 3 0 0 (pS (some (zv r)) σ) 210 [some (vr 177), some (vi i_0), some (vi on_0), some (vi x_0), some (vi y_0), some (vi (σ (kE_placeX 179) 0)), some (vi (σ (kE_placeY 179) 0)), some (vi x_1), some (vi x_3), some (vi x_5), some (vi x_7), some (vi x_9), some (vi x_10), some (vi x_11), none] [zv (decide ((w32 x_1) < (w32 (σ (kE_placeX 179) 0))))] σ 0 0 := by
              have J_29 : YY l E M_X1_isLeft 3 0 0 (pS (some (zv r)) σ) 222 [some (vr 177), some (vi i_0), some (vi on_0), some (vi x_0), some (vi y_0), some (vi (σ (kE_placeX 179) 0)), some (vi (σ (kE_placeY 179) 0)), some (vi x_1), some (vi x_3), some (vi x_5), some (vi x_7), some (vi x_9), some (vi x_10), some (vi x_11), none] [zv (decide ((w32 x_5) < (w32 (σ (kE_placeX 179) 0)))), zv (decide ((w32 x_1) < (w32 (σ (kE_placeX 179) 0))))] σ 0 0 := by
                by_cases h_30 : (decide ((w32 x_1) < (w32 (σ (kE_placeX 179) 0)))) = (decide ((w32 x_5) < (w32 (σ (kE_placeX 179) 0))))
                · refine z_cne_f (M := M_X1_isLeft) (tgt := 283) dX1_isLeft_222 (by decide)  h_30 ?_
                  have J_31 : YY l E M_X1_isLeft 3 0 0 (pS (some (zv r)) σ) 237 [some (vr 177), some (vi i_0), some (vi on_0), some (vi x_0), some (vi y_0), some (vi (σ (kE_placeX 179) 0)), some (vi (σ (kE_placeY 179) 0)), some (vi x_1), some (vi x_3), some (vi x_5), some (vi x_7), some (vi x_9), some (vi x_10), some (vi x_11), none] [zv (decide ((w32 (σ (kE_placeY 179) 0)) < (w32 x_3)))] σ 0 0 := by
                    have J_32 : YY l E M_X1_isLeft 3 0 0 (pS (some (zv r)) σ) 249 [some (vr 177), some (vi i_0), some (vi on_0), some (vi x_0), some (vi y_0), some (vi (σ (kE_placeX 179) 0)), some (vi (σ (kE_placeY 179) 0)), some (vi x_1), some (vi x_3), some (vi x_5), some (vi x_7), some (vi x_9), some (vi x_10), some (vi x_11), none] [zv (decide ((w32 (σ (kE_placeY 179) 0)) < (w32 x_7))), zv (decide ((w32 (σ (kE_placeY 179) 0)) < (w32 x_3)))] σ 0 0 := by
                      by_cases h_33 : (decide ((w32 (σ (kE_placeY 179) 0)) < (w32 x_3))) = (decide ((w32 (σ (kE_placeY 179) 0)) < (w32 x_7)))
                      · refine z_cne_f (M := M_X1_isLeft) (tgt := 283) dX1_isLeft_249 (by decide)  h_33 ?_
                        have J_34 : YY l E M_X1_isLeft 3 0 0 (pS (some (zv r)) σ) 264 [some (vr 177), some (vi i_0), some (vi on_0), some (vi x_0), some (vi y_0), some (vi (σ (kE_placeX 179) 0)), some (vi (σ (kE_placeY 179) 0)), some (vi x_1), some (vi x_3), some (vi x_5), some (vi x_7), some (vi x_9), some (vi x_10), some (vi x_11), none] [zv (decide ((w32 x_3) < (w32 (σ (kE_placeY 179) 0))))] σ 0 0 := by
                          have J_35 : YY l E M_X1_isLeft 3 0 0 (pS (some (zv r)) σ) 276 [some (vr 177), some (vi i_0), some (vi on_0), some (vi x_0), some (vi y_0), some (vi (σ (kE_placeX 179) 0)), some (vi (σ (kE_placeY 179) 0)), some (vi x_1), some (vi x_3), some (vi x_5), some (vi x_7), some (vi x_9), some (vi x_10), some (vi x_11), none] [zv (decide ((w32 x_7) < (w32 (σ (kE_placeY 179) 0)))), zv (decide ((w32 x_3) < (w32 (σ (kE_placeY 179) 0))))] σ 0 0 := by
                            by_cases h_36 : (decide ((w32 x_3) < (w32 (σ (kE_placeY 179) 0)))) = (decide ((w32 x_7) < (w32 (σ (kE_placeY 179) 0))))
                            · refine z_cne_f (M := M_X1_isLeft) (tgt := 283) dX1_isLeft_276 (by decide)  h_36 ?_
                              refine z_iconst (M := M_X1_isLeft) dX1_isLeft_279 ?_
                              refine z_goto (M := M_X1_isLeft) (tgt := 284) dX1_isLeft_280 (by decide) ?_
                              exact z_st (by rw [zv_t (p := ((((decide ((w32 (σ (kE_placeX 179) 0)) < (w32 x_1))) = (decide ((w32 (σ (kE_placeX 179) 0)) < (w32 x_5)))) ∧ ((decide ((w32 x_1) < (w32 (σ (kE_placeX 179) 0)))) = (decide ((w32 x_5) < (w32 (σ (kE_placeX 179) 0)))))) ∧ ((decide ((w32 (σ (kE_placeY 179) 0)) < (w32 x_3))) = (decide ((w32 (σ (kE_placeY 179) 0)) < (w32 x_7))))) ∧ ((decide ((w32 x_3) < (w32 (σ (kE_placeY 179) 0)))) = (decide ((w32 x_7) < (w32 (σ (kE_placeY 179) 0)))))) ⟨⟨⟨h_27, h_30⟩, h_33⟩, h_36⟩]) J_20
                            · refine z_cne_t (M := M_X1_isLeft) (tgt := 283) dX1_isLeft_276 (by decide)  h_36 ?_
                              refine z_iconst (M := M_X1_isLeft) dX1_isLeft_283 ?_
                              exact z_st (by rw [zv_f (p := ((((decide ((w32 (σ (kE_placeX 179) 0)) < (w32 x_1))) = (decide ((w32 (σ (kE_placeX 179) 0)) < (w32 x_5)))) ∧ ((decide ((w32 x_1) < (w32 (σ (kE_placeX 179) 0)))) = (decide ((w32 x_5) < (w32 (σ (kE_placeX 179) 0)))))) ∧ ((decide ((w32 (σ (kE_placeY 179) 0)) < (w32 x_3))) = (decide ((w32 (σ (kE_placeY 179) 0)) < (w32 x_7))))) ∧ ((decide ((w32 x_3) < (w32 (σ (kE_placeY 179) 0)))) = (decide ((w32 x_7) < (w32 (σ (kE_placeY 179) 0)))))) (fun q => h_36 q.2)]) J_20
                          refine z_iload (M := M_X1_isLeft) dX1_isLeft_264 rfl ?_
                          refine z_iload (M := M_X1_isLeft) dX1_isLeft_266 rfl ?_
                          by_cases h_37 : (w32 x_7) < (w32 (σ (kE_placeY 179) 0))
                          · refine z_icmp_ge_f (M := M_X1_isLeft) (tgt := 275) dX1_isLeft_268 (by decide) rfl rfl h_37 ?_
                            refine z_iconst (M := M_X1_isLeft) dX1_isLeft_271 ?_
                            refine z_goto (M := M_X1_isLeft) (tgt := 276) dX1_isLeft_272 (by decide) ?_
                            exact z_st (by rw [zv_t (p := (w32 x_7) < (w32 (σ (kE_placeY 179) 0))) h_37]) J_35
                          · refine z_icmp_ge_t (M := M_X1_isLeft) (tgt := 275) dX1_isLeft_268 (by decide) rfl rfl (Int.not_lt.mp h_37) ?_
                            refine z_iconst (M := M_X1_isLeft) dX1_isLeft_275 ?_
                            exact z_st (by rw [zv_f (p := (w32 x_7) < (w32 (σ (kE_placeY 179) 0))) h_37]) J_35
                        refine z_iload (M := M_X1_isLeft) dX1_isLeft_252 rfl ?_
                        refine z_iload (M := M_X1_isLeft) dX1_isLeft_254 rfl ?_
                        by_cases h_38 : (w32 x_3) < (w32 (σ (kE_placeY 179) 0))
                        · refine z_icmp_ge_f (M := M_X1_isLeft) (tgt := 263) dX1_isLeft_256 (by decide) rfl rfl h_38 ?_
                          refine z_iconst (M := M_X1_isLeft) dX1_isLeft_259 ?_
                          refine z_goto (M := M_X1_isLeft) (tgt := 264) dX1_isLeft_260 (by decide) ?_
                          exact z_st (by rw [zv_t (p := (w32 x_3) < (w32 (σ (kE_placeY 179) 0))) h_38]) J_34
                        · refine z_icmp_ge_t (M := M_X1_isLeft) (tgt := 263) dX1_isLeft_256 (by decide) rfl rfl (Int.not_lt.mp h_38) ?_
                          refine z_iconst (M := M_X1_isLeft) dX1_isLeft_263 ?_
                          exact z_st (by rw [zv_f (p := (w32 x_3) < (w32 (σ (kE_placeY 179) 0))) h_38]) J_34
                      · refine z_cne_t (M := M_X1_isLeft) (tgt := 283) dX1_isLeft_249 (by decide)  h_33 ?_
                        refine z_iconst (M := M_X1_isLeft) dX1_isLeft_283 ?_
                        exact z_st (by rw [zv_f (p := ((((decide ((w32 (σ (kE_placeX 179) 0)) < (w32 x_1))) = (decide ((w32 (σ (kE_placeX 179) 0)) < (w32 x_5)))) ∧ ((decide ((w32 x_1) < (w32 (σ (kE_placeX 179) 0)))) = (decide ((w32 x_5) < (w32 (σ (kE_placeX 179) 0)))))) ∧ ((decide ((w32 (σ (kE_placeY 179) 0)) < (w32 x_3))) = (decide ((w32 (σ (kE_placeY 179) 0)) < (w32 x_7))))) ∧ ((decide ((w32 x_3) < (w32 (σ (kE_placeY 179) 0)))) = (decide ((w32 x_7) < (w32 (σ (kE_placeY 179) 0)))))) (fun q => (fun q => h_33 q.2) q.1)]) J_20
                    refine z_iload (M := M_X1_isLeft) dX1_isLeft_237 rfl ?_
                    refine z_iload (M := M_X1_isLeft) dX1_isLeft_239 rfl ?_
                    by_cases h_39 : (w32 (σ (kE_placeY 179) 0)) < (w32 x_7)
                    · refine z_icmp_le_f (M := M_X1_isLeft) (tgt := 248) dX1_isLeft_241 (by decide) rfl rfl h_39 ?_
                      refine z_iconst (M := M_X1_isLeft) dX1_isLeft_244 ?_
                      refine z_goto (M := M_X1_isLeft) (tgt := 249) dX1_isLeft_245 (by decide) ?_
                      exact z_st (by rw [zv_t (p := (w32 (σ (kE_placeY 179) 0)) < (w32 x_7)) h_39]) J_32
                    · refine z_icmp_le_t (M := M_X1_isLeft) (tgt := 248) dX1_isLeft_241 (by decide) rfl rfl (Int.not_lt.mp h_39) ?_
                      refine z_iconst (M := M_X1_isLeft) dX1_isLeft_248 ?_
                      exact z_st (by rw [zv_f (p := (w32 (σ (kE_placeY 179) 0)) < (w32 x_7)) h_39]) J_32
                  refine z_iload (M := M_X1_isLeft) dX1_isLeft_225 rfl ?_
                  refine z_iload (M := M_X1_isLeft) dX1_isLeft_227 rfl ?_
                  by_cases h_40 : (w32 (σ (kE_placeY 179) 0)) < (w32 x_3)
                  · refine z_icmp_le_f (M := M_X1_isLeft) (tgt := 236) dX1_isLeft_229 (by decide) rfl rfl h_40 ?_
                    refine z_iconst (M := M_X1_isLeft) dX1_isLeft_232 ?_
                    refine z_goto (M := M_X1_isLeft) (tgt := 237) dX1_isLeft_233 (by decide) ?_
                    exact z_st (by rw [zv_t (p := (w32 (σ (kE_placeY 179) 0)) < (w32 x_3)) h_40]) J_31
                  · refine z_icmp_le_t (M := M_X1_isLeft) (tgt := 236) dX1_isLeft_229 (by decide) rfl rfl (Int.not_lt.mp h_40) ?_
                    refine z_iconst (M := M_X1_isLeft) dX1_isLeft_236 ?_
                    exact z_st (by rw [zv_f (p := (w32 (σ (kE_placeY 179) 0)) < (w32 x_3)) h_40]) J_31
                · refine z_cne_t (M := M_X1_isLeft) (tgt := 283) dX1_isLeft_222 (by decide)  h_30 ?_
                  refine z_iconst (M := M_X1_isLeft) dX1_isLeft_283 ?_
                  exact z_st (by rw [zv_f (p := ((((decide ((w32 (σ (kE_placeX 179) 0)) < (w32 x_1))) = (decide ((w32 (σ (kE_placeX 179) 0)) < (w32 x_5)))) ∧ ((decide ((w32 x_1) < (w32 (σ (kE_placeX 179) 0)))) = (decide ((w32 x_5) < (w32 (σ (kE_placeX 179) 0)))))) ∧ ((decide ((w32 (σ (kE_placeY 179) 0)) < (w32 x_3))) = (decide ((w32 (σ (kE_placeY 179) 0)) < (w32 x_7))))) ∧ ((decide ((w32 x_3) < (w32 (σ (kE_placeY 179) 0)))) = (decide ((w32 x_7) < (w32 (σ (kE_placeY 179) 0)))))) (fun q => (fun q => (fun q => h_30 q.2) q.1) q.1)]) J_20
              refine z_iload (M := M_X1_isLeft) dX1_isLeft_210 rfl ?_
              refine z_iload (M := M_X1_isLeft) dX1_isLeft_212 rfl ?_
              by_cases h_41 : (w32 x_5) < (w32 (σ (kE_placeX 179) 0))
              · refine z_icmp_ge_f (M := M_X1_isLeft) (tgt := 221) dX1_isLeft_214 (by decide) rfl rfl h_41 ?_
                refine z_iconst (M := M_X1_isLeft) dX1_isLeft_217 ?_
                refine z_goto (M := M_X1_isLeft) (tgt := 222) dX1_isLeft_218 (by decide) ?_
                exact z_st (by rw [zv_t (p := (w32 x_5) < (w32 (σ (kE_placeX 179) 0))) h_41]) J_29
              · refine z_icmp_ge_t (M := M_X1_isLeft) (tgt := 221) dX1_isLeft_214 (by decide) rfl rfl (Int.not_lt.mp h_41) ?_
                refine z_iconst (M := M_X1_isLeft) dX1_isLeft_221 ?_
                exact z_st (by rw [zv_f (p := (w32 x_5) < (w32 (σ (kE_placeX 179) 0))) h_41]) J_29
            refine z_iload (M := M_X1_isLeft) dX1_isLeft_198 rfl ?_
            refine z_iload (M := M_X1_isLeft) dX1_isLeft_200 rfl ?_
            by_cases h_42 : (w32 x_1) < (w32 (σ (kE_placeX 179) 0))
            · refine z_icmp_ge_f (M := M_X1_isLeft) (tgt := 209) dX1_isLeft_202 (by decide) rfl rfl h_42 ?_
              refine z_iconst (M := M_X1_isLeft) dX1_isLeft_205 ?_
              refine z_goto (M := M_X1_isLeft) (tgt := 210) dX1_isLeft_206 (by decide) ?_
              exact z_st (by rw [zv_t (p := (w32 x_1) < (w32 (σ (kE_placeX 179) 0))) h_42]) J_28
            · refine z_icmp_ge_t (M := M_X1_isLeft) (tgt := 209) dX1_isLeft_202 (by decide) rfl rfl (Int.not_lt.mp h_42) ?_
              refine z_iconst (M := M_X1_isLeft) dX1_isLeft_209 ?_
              exact z_st (by rw [zv_f (p := (w32 x_1) < (w32 (σ (kE_placeX 179) 0))) h_42]) J_28
          · refine z_cne_t (M := M_X1_isLeft) (tgt := 283) dX1_isLeft_195 (by decide)  h_27 ?_
            refine z_iconst (M := M_X1_isLeft) dX1_isLeft_283 ?_
            exact z_st (by rw [zv_f (p := ((((decide ((w32 (σ (kE_placeX 179) 0)) < (w32 x_1))) = (decide ((w32 (σ (kE_placeX 179) 0)) < (w32 x_5)))) ∧ ((decide ((w32 x_1) < (w32 (σ (kE_placeX 179) 0)))) = (decide ((w32 x_5) < (w32 (σ (kE_placeX 179) 0)))))) ∧ ((decide ((w32 (σ (kE_placeY 179) 0)) < (w32 x_3))) = (decide ((w32 (σ (kE_placeY 179) 0)) < (w32 x_7))))) ∧ ((decide ((w32 x_3) < (w32 (σ (kE_placeY 179) 0)))) = (decide ((w32 x_7) < (w32 (σ (kE_placeY 179) 0)))))) (fun q => (fun q => (fun q => h_27 q.1) q.1) q.1)]) J_20
        refine z_iload (M := M_X1_isLeft) dX1_isLeft_183 rfl ?_
        refine z_iload (M := M_X1_isLeft) dX1_isLeft_185 rfl ?_
        by_cases h_43 : (w32 (σ (kE_placeX 179) 0)) < (w32 x_5)
        · refine z_icmp_le_f (M := M_X1_isLeft) (tgt := 194) dX1_isLeft_187 (by decide) rfl rfl h_43 ?_
          refine z_iconst (M := M_X1_isLeft) dX1_isLeft_190 ?_
          refine z_goto (M := M_X1_isLeft) (tgt := 195) dX1_isLeft_191 (by decide) ?_
          exact z_st (by rw [zv_t (p := (w32 (σ (kE_placeX 179) 0)) < (w32 x_5)) h_43]) J_26
        · refine z_icmp_le_t (M := M_X1_isLeft) (tgt := 194) dX1_isLeft_187 (by decide) rfl rfl (Int.not_lt.mp h_43) ?_
          refine z_iconst (M := M_X1_isLeft) dX1_isLeft_194 ?_
          exact z_st (by rw [zv_f (p := (w32 (σ (kE_placeX 179) 0)) < (w32 x_5)) h_43]) J_26
      refine z_iload (M := M_X1_isLeft) dX1_isLeft_171 rfl ?_
      refine z_iload (M := M_X1_isLeft) dX1_isLeft_173 rfl ?_
      by_cases h_44 : (w32 (σ (kE_placeX 179) 0)) < (w32 x_1)
      · refine z_icmp_le_f (M := M_X1_isLeft) (tgt := 182) dX1_isLeft_175 (by decide) rfl rfl h_44 ?_
        refine z_iconst (M := M_X1_isLeft) dX1_isLeft_178 ?_
        refine z_goto (M := M_X1_isLeft) (tgt := 183) dX1_isLeft_179 (by decide) ?_
        exact z_st (by rw [zv_t (p := (w32 (σ (kE_placeX 179) 0)) < (w32 x_1)) h_44]) J_25
      · refine z_icmp_le_t (M := M_X1_isLeft) (tgt := 182) dX1_isLeft_175 (by decide) rfl rfl (Int.not_lt.mp h_44) ?_
        refine z_iconst (M := M_X1_isLeft) dX1_isLeft_182 ?_
        exact z_st (by rw [zv_f (p := (w32 (σ (kE_placeX 179) 0)) < (w32 x_1)) h_44]) J_25
theorem c_X1_ringsCrossBehind (hl : l.stackTraces = false) {σ : SG} {i_0 : Int} {j_0 : Int} {r : Bool}  (H : fJ_ringsCrossBehind σ i_0 j_0 = some r) : en_S l E M_X1_ringsCrossBehind 4 0 0 [vr 177, vi i_0, vi j_0] σ (pS (some (zv r)) σ) := by
  unfold fJ_ringsCrossBehind at H
  refine z_mk (lv := [some (vr 177), some (vi i_0), some (vi j_0), none, none, none, none]) m_X1_ringsCrossBehind rfl hl (Nat.le_of_ble_eq_true rfl) rfl ?_
  refine z_aload_n (M := M_X1_ringsCrossBehind) dX1_ringsCrossBehind_0 rfl ?_
  refine z_getR (M := M_X1_ringsCrossBehind) (ci := 4) (C := RX1) (T := TX1) (Nf := 11) (ty := tyX1) cl4 dX1_ringsCrossBehind_1 ly_177 1 (by decide) t_286 rfl ?_
  refine z_getI (M := M_X1_ringsCrossBehind) (ci := 8) (C := RX5) (T := TX5) (Nf := 8) (ty := tyX5) cl8 dX1_ringsCrossBehind_4 (ly_G (by decide)) 6 (by decide) t_258 rfl rfl ?_
  refine z_istore_n (M := M_X1_ringsCrossBehind) (lv' := [some (vr 177), some (vi i_0), some (vi j_0), some (vi (σ (kE_placeX 179) 0)), none, none, none]) dX1_ringsCrossBehind_7 (Nat.le_of_ble_eq_true rfl) rfl rfl ?_
  refine z_aload_n (M := M_X1_ringsCrossBehind) dX1_ringsCrossBehind_8 rfl ?_
  refine z_getR (M := M_X1_ringsCrossBehind) (ci := 4) (C := RX1) (T := TX1) (Nf := 11) (ty := tyX1) cl4 dX1_ringsCrossBehind_9 ly_177 1 (by decide) t_286 rfl ?_
  refine z_getI (M := M_X1_ringsCrossBehind) (ci := 8) (C := RX5) (T := TX5) (Nf := 8) (ty := tyX5) cl8 dX1_ringsCrossBehind_12 (ly_G (by decide)) 7 (by decide) t_261 rfl rfl ?_
  refine z_istore (M := M_X1_ringsCrossBehind) (lv' := [some (vr 177), some (vi i_0), some (vi j_0), some (vi (σ (kE_placeX 179) 0)), some (vi (σ (kE_placeY 179) 0)), none, none]) dX1_ringsCrossBehind_15 (Nat.le_of_ble_eq_true rfl) rfl rfl ?_
  refine z_aload_n (M := M_X1_ringsCrossBehind) dX1_ringsCrossBehind_17 rfl ?_
  refine z_getR (M := M_X1_ringsCrossBehind) (ci := 4) (C := RX1) (T := TX1) (Nf := 11) (ty := tyX1) cl4 dX1_ringsCrossBehind_18 ly_177 1 (by decide) t_286 rfl ?_
  refine z_iload_n (M := M_X1_ringsCrossBehind) dX1_ringsCrossBehind_21 rfl ?_
  refine z_iload_n (M := M_X1_ringsCrossBehind) dX1_ringsCrossBehind_22 rfl ?_
  refine z_iload (M := M_X1_ringsCrossBehind) dX1_ringsCrossBehind_23 rfl ?_
  obtain ⟨x_11, hc_10, H⟩ := bd_e H
  refine z_callV (M := M_X1_ringsCrossBehind) (M' := M_X5_begins) (as := [vi i_0, vi (σ (kE_placeX 179) 0), vi (σ (kE_placeY 179) 0)]) (rest := []) rfl rfl dX1_ringsCrossBehind_25 m_X5_begins t_1282 t_1283 t_1284 (c_X5_begins hl (by decide) hc_10) rfl rfl (ly_G (by decide)) rfl (Nat.le_of_ble_eq_true rfl) (Nat.le_of_ble_eq_true rfl) (Nat.le_of_ble_eq_true rfl) (Nat.le_of_ble_eq_true rfl) ?_
  refine z_st (st' := [zv x_11]) rfl ?_
  rcases if_e H with ⟨h_12, H⟩ | ⟨h_12, H⟩
  · refine z_zne_t (M := M_X1_ringsCrossBehind) (tgt := 45) dX1_ringsCrossBehind_28 (by decide) h_12 ?_
    refine z_zconst (M := M_X1_ringsCrossBehind) (b := false) dX1_ringsCrossBehind_45 rfl ?_
    cases H
    exact z_zret (M := M_X1_ringsCrossBehind) dX1_ringsCrossBehind_46 rfl (Nat.le_of_ble_eq_true rfl) (Nat.le_of_ble_eq_true rfl) ⟨rfl, rfl⟩
  · refine z_zne_f (M := M_X1_ringsCrossBehind) (tgt := 45) dX1_ringsCrossBehind_28 (by decide) h_12 ?_
    refine z_aload_n (M := M_X1_ringsCrossBehind) dX1_ringsCrossBehind_31 rfl ?_
    refine z_getR (M := M_X1_ringsCrossBehind) (ci := 4) (C := RX1) (T := TX1) (Nf := 11) (ty := tyX1) cl4 dX1_ringsCrossBehind_32 ly_177 1 (by decide) t_286 rfl ?_
    refine z_iload_n (M := M_X1_ringsCrossBehind) dX1_ringsCrossBehind_35 rfl ?_
    refine z_iload_n (M := M_X1_ringsCrossBehind) dX1_ringsCrossBehind_36 rfl ?_
    refine z_iload (M := M_X1_ringsCrossBehind) dX1_ringsCrossBehind_37 rfl ?_
    obtain ⟨x_14, hc_13, H⟩ := bd_e H
    refine z_callV (M := M_X1_ringsCrossBehind) (M' := M_X5_begins) (as := [vi j_0, vi (σ (kE_placeX 179) 0), vi (σ (kE_placeY 179) 0)]) (rest := []) rfl rfl dX1_ringsCrossBehind_39 m_X5_begins t_1282 t_1283 t_1284 (c_X5_begins hl (by decide) hc_13) rfl rfl (ly_G (by decide)) rfl (Nat.le_of_ble_eq_true rfl) (Nat.le_of_ble_eq_true rfl) (Nat.le_of_ble_eq_true rfl) (Nat.le_of_ble_eq_true rfl) ?_
    refine z_st (st' := [zv x_14]) rfl ?_
    rcases if_e H with ⟨h_15, H⟩ | ⟨h_15, H⟩
    · refine z_zeq_f (M := M_X1_ringsCrossBehind) (tgt := 47) dX1_ringsCrossBehind_42 (by decide) h_15 ?_
      refine z_zconst (M := M_X1_ringsCrossBehind) (b := false) dX1_ringsCrossBehind_45 rfl ?_
      cases H
      exact z_zret (M := M_X1_ringsCrossBehind) dX1_ringsCrossBehind_46 rfl (Nat.le_of_ble_eq_true rfl) (Nat.le_of_ble_eq_true rfl) ⟨rfl, rfl⟩
    · refine z_zeq_t (M := M_X1_ringsCrossBehind) (tgt := 47) dX1_ringsCrossBehind_42 (by decide) h_15 ?_
      obtain ⟨v_56, he_57, hk_58⟩ := bd_e H
      have J_59 : ∀ x_23, v_56 = x_23 → YY l E M_X1_ringsCrossBehind 4 0 0 (pS (some (zv r)) σ) 70 [some (vr 177), some (vi i_0), some (vi j_0), some (vi (σ (kE_placeX 179) 0)), some (vi (σ (kE_placeY 179) 0)), none, none] [vi x_23] σ 0 0 := by
        intro x_23 e
        have H := hk_58
        rw [e] at H
        refine z_istore (M := M_X1_ringsCrossBehind) (lv' := [some (vr 177), some (vi i_0), some (vi j_0), some (vi (σ (kE_placeX 179) 0)), some (vi (σ (kE_placeY 179) 0)), some (vi x_23), none]) dX1_ringsCrossBehind_70 (Nat.le_of_ble_eq_true rfl) rfl rfl ?_
        obtain ⟨v_52, he_53, hk_54⟩ := bd_e H
        have J_55 : ∀ x_31, v_52 = x_31 → YY l E M_X1_ringsCrossBehind 4 0 0 (pS (some (zv r)) σ) 95 [some (vr 177), some (vi i_0), some (vi j_0), some (vi (σ (kE_placeX 179) 0)), some (vi (σ (kE_placeY 179) 0)), some (vi x_23), none] [vi x_31] σ 0 0 := by
          intro x_31 e
          have H := hk_54
          rw [e] at H
          refine z_istore (M := M_X1_ringsCrossBehind) (lv' := [some (vr 177), some (vi i_0), some (vi j_0), some (vi (σ (kE_placeX 179) 0)), some (vi (σ (kE_placeY 179) 0)), some (vi x_23), some (vi x_31)]) dX1_ringsCrossBehind_95 (Nat.le_of_ble_eq_true rfl) rfl rfl ?_
          obtain ⟨v_48, he_49, hk_50⟩ := bd_e H
          have J_51 : ∀ x_47, v_48 = x_47 → YY l E M_X1_ringsCrossBehind 4 0 0 (pS (some (zv r)) σ) 157 [some (vr 177), some (vi i_0), some (vi j_0), some (vi (σ (kE_placeX 179) 0)), some (vi (σ (kE_placeY 179) 0)), some (vi x_23), some (vi x_31)] [zv x_47] σ 0 0 := by
            intro x_47 e
            have H := hk_50
            rw [e] at H
            cases H
            exact z_zret (M := M_X1_ringsCrossBehind) dX1_ringsCrossBehind_157 rfl (Nat.le_of_ble_eq_true rfl) (Nat.le_of_ble_eq_true rfl) ⟨rfl, rfl⟩
          have H := he_49
          refine z_aload_n (M := M_X1_ringsCrossBehind) dX1_ringsCrossBehind_97 rfl ?_
          refine z_iload_n (M := M_X1_ringsCrossBehind) dX1_ringsCrossBehind_98 rfl ?_
          refine z_iload (M := M_X1_ringsCrossBehind) dX1_ringsCrossBehind_99 rfl ?_
          refine z_aload_n (M := M_X1_ringsCrossBehind) dX1_ringsCrossBehind_101 rfl ?_
          refine z_getR (M := M_X1_ringsCrossBehind) (ci := 4) (C := RX1) (T := TX1) (Nf := 11) (ty := tyX1) cl4 dX1_ringsCrossBehind_102 ly_177 1 (by decide) t_286 rfl ?_
          refine z_getR (M := M_X1_ringsCrossBehind) (ci := 8) (C := RX5) (T := TX5) (Nf := 8) (ty := tyX5) cl8 dX1_ringsCrossBehind_105 (ly_G (by decide)) 2 (by decide) t_245 rfl ?_
          refine z_iload (M := M_X1_ringsCrossBehind) dX1_ringsCrossBehind_108 rfl ?_
          obtain ⟨x_32, x_32_e, hi_33, H⟩ := rd_e H
          refine z_iald (M := M_X1_ringsCrossBehind) dX1_ringsCrossBehind_110 ly_182 rfl rfl rfl hi_33 x_32_e ?_
          refine z_aload_n (M := M_X1_ringsCrossBehind) dX1_ringsCrossBehind_111 rfl ?_
          refine z_getR (M := M_X1_ringsCrossBehind) (ci := 4) (C := RX1) (T := TX1) (Nf := 11) (ty := tyX1) cl4 dX1_ringsCrossBehind_112 ly_177 1 (by decide) t_286 rfl ?_
          refine z_getR (M := M_X1_ringsCrossBehind) (ci := 8) (C := RX5) (T := TX5) (Nf := 8) (ty := tyX5) cl8 dX1_ringsCrossBehind_115 (ly_G (by decide)) 3 (by decide) t_249 rfl ?_
          refine z_iload (M := M_X1_ringsCrossBehind) dX1_ringsCrossBehind_118 rfl ?_
          obtain ⟨x_34, x_34_e, hi_35, H⟩ := rd_e H
          refine z_iald (M := M_X1_ringsCrossBehind) dX1_ringsCrossBehind_120 ly_183 rfl rfl rfl hi_35 x_34_e ?_
          obtain ⟨x_37, hc_36, H⟩ := bd_e H
          refine z_callV (M := M_X1_ringsCrossBehind) (M' := M_X1_isLeft) (as := [vi i_0, vi x_23, vi x_32, vi x_34]) (rest := []) rfl rfl dX1_ringsCrossBehind_121 m_X1_isLeft t_1294 t_1296 s_54 (c_X1_isLeft hl  hc_36) rfl rfl ly_177 rfl (Nat.le_of_ble_eq_true rfl) (Nat.le_of_ble_eq_true rfl) (Nat.le_of_ble_eq_true rfl) (Nat.le_of_ble_eq_true rfl) ?_
          refine z_st (st' := [zv x_37]) rfl ?_
          refine z_aload_n (M := M_X1_ringsCrossBehind) dX1_ringsCrossBehind_124 rfl ?_
          refine z_iload_n (M := M_X1_ringsCrossBehind) dX1_ringsCrossBehind_125 rfl ?_
          refine z_iload (M := M_X1_ringsCrossBehind) dX1_ringsCrossBehind_126 rfl ?_
          refine z_aload_n (M := M_X1_ringsCrossBehind) dX1_ringsCrossBehind_128 rfl ?_
          refine z_getR (M := M_X1_ringsCrossBehind) (ci := 4) (C := RX1) (T := TX1) (Nf := 11) (ty := tyX1) cl4 dX1_ringsCrossBehind_129 ly_177 1 (by decide) t_286 rfl ?_
          refine z_getR (M := M_X1_ringsCrossBehind) (ci := 8) (C := RX5) (T := TX5) (Nf := 8) (ty := tyX5) cl8 dX1_ringsCrossBehind_132 (ly_G (by decide)) 0 (by decide) t_237 rfl ?_
          refine z_iload_n (M := M_X1_ringsCrossBehind) dX1_ringsCrossBehind_135 rfl ?_
          obtain ⟨x_38, x_38_e, hi_39, H⟩ := rd_e H
          refine z_iald (M := M_X1_ringsCrossBehind) dX1_ringsCrossBehind_136 ly_180 rfl rfl rfl hi_39 x_38_e ?_
          refine z_aload_n (M := M_X1_ringsCrossBehind) dX1_ringsCrossBehind_137 rfl ?_
          refine z_getR (M := M_X1_ringsCrossBehind) (ci := 4) (C := RX1) (T := TX1) (Nf := 11) (ty := tyX1) cl4 dX1_ringsCrossBehind_138 ly_177 1 (by decide) t_286 rfl ?_
          refine z_getR (M := M_X1_ringsCrossBehind) (ci := 8) (C := RX5) (T := TX5) (Nf := 8) (ty := tyX5) cl8 dX1_ringsCrossBehind_141 (ly_G (by decide)) 1 (by decide) t_241 rfl ?_
          refine z_iload_n (M := M_X1_ringsCrossBehind) dX1_ringsCrossBehind_144 rfl ?_
          obtain ⟨x_40, x_40_e, hi_41, H⟩ := rd_e H
          refine z_iald (M := M_X1_ringsCrossBehind) dX1_ringsCrossBehind_145 ly_181 rfl rfl rfl hi_41 x_40_e ?_
          obtain ⟨x_43, hc_42, H⟩ := bd_e H
          refine z_callV (M := M_X1_ringsCrossBehind) (M' := M_X1_isLeft) (as := [vi i_0, vi x_23, vi x_38, vi x_40]) (rest := [zv x_37]) rfl rfl dX1_ringsCrossBehind_146 m_X1_isLeft t_1294 t_1296 s_54 (c_X1_isLeft hl  hc_42) rfl rfl ly_177 rfl (Nat.le_of_ble_eq_true rfl) (Nat.le_of_ble_eq_true rfl) (Nat.le_of_ble_eq_true rfl) (Nat.le_of_ble_eq_true rfl) ?_
          refine z_st (st' := [zv x_43, zv x_37]) rfl ?_
          rcases if_e H with ⟨h_44, H⟩ | ⟨h_44, H⟩
          · refine z_ceq_f (M := M_X1_ringsCrossBehind) (tgt := 156) dX1_ringsCrossBehind_149 (by decide)  h_44 ?_
            refine z_zconst (M := M_X1_ringsCrossBehind) (b := true) dX1_ringsCrossBehind_152 rfl ?_
            refine z_goto (M := M_X1_ringsCrossBehind) (tgt := 157) dX1_ringsCrossBehind_153 (by decide) ?_
            exact J_51 _ (Option.some.inj H).symm
          · refine z_ceq_t (M := M_X1_ringsCrossBehind) (tgt := 156) dX1_ringsCrossBehind_149 (by decide)  (Decidable.not_not.mp h_44) ?_
            refine z_zconst (M := M_X1_ringsCrossBehind) (b := false) dX1_ringsCrossBehind_156 rfl ?_
            exact J_51 _ (Option.some.inj H).symm
        have H := he_53
        refine z_aload_n (M := M_X1_ringsCrossBehind) dX1_ringsCrossBehind_72 rfl ?_
        refine z_getR (M := M_X1_ringsCrossBehind) (ci := 4) (C := RX1) (T := TX1) (Nf := 11) (ty := tyX1) cl4 dX1_ringsCrossBehind_73 ly_177 1 (by decide) t_286 rfl ?_
        refine z_iload_n (M := M_X1_ringsCrossBehind) dX1_ringsCrossBehind_76 rfl ?_
        refine z_iload_n (M := M_X1_ringsCrossBehind) dX1_ringsCrossBehind_77 rfl ?_
        refine z_iload (M := M_X1_ringsCrossBehind) dX1_ringsCrossBehind_78 rfl ?_
        obtain ⟨x_25, hc_24, H⟩ := bd_e H
        refine z_callV (M := M_X1_ringsCrossBehind) (M' := M_X5_ends) (as := [vi j_0, vi (σ (kE_placeX 179) 0), vi (σ (kE_placeY 179) 0)]) (rest := []) rfl rfl dX1_ringsCrossBehind_80 m_X5_ends t_1286 t_1287 t_1288 (c_X5_ends hl (by decide) hc_24) rfl rfl (ly_G (by decide)) rfl (Nat.le_of_ble_eq_true rfl) (Nat.le_of_ble_eq_true rfl) (Nat.le_of_ble_eq_true rfl) (Nat.le_of_ble_eq_true rfl) ?_
        refine z_st (st' := [zv x_25]) rfl ?_
        rcases if_e H with ⟨h_26, H⟩ | ⟨h_26, H⟩
        · refine z_zeq_f (M := M_X1_ringsCrossBehind) (tgt := 94) dX1_ringsCrossBehind_83 (by decide) h_26 ?_
          refine z_aload_n (M := M_X1_ringsCrossBehind) dX1_ringsCrossBehind_86 rfl ?_
          refine z_iload_n (M := M_X1_ringsCrossBehind) dX1_ringsCrossBehind_87 rfl ?_
          obtain ⟨x_28, hc_27, H⟩ := bd_e H
          refine z_callV (M := M_X1_ringsCrossBehind) (M' := M_X1_nextOf) (as := [vi j_0]) (rest := []) rfl rfl dX1_ringsCrossBehind_88 m_X1_nextOf t_1290 t_1292 s_53 (c_X1_nextOf hl  hc_27) rfl rfl ly_177 rfl (Nat.le_of_ble_eq_true rfl) (Nat.le_of_ble_eq_true rfl) (Nat.le_of_ble_eq_true rfl) (Nat.le_of_ble_eq_true rfl) ?_
          refine z_st (st' := [vi x_28]) rfl ?_
          refine z_goto (M := M_X1_ringsCrossBehind) (tgt := 95) dX1_ringsCrossBehind_91 (by decide) ?_
          exact J_55 _ (Option.some.inj H).symm
        · refine z_zeq_t (M := M_X1_ringsCrossBehind) (tgt := 94) dX1_ringsCrossBehind_83 (by decide) h_26 ?_
          refine z_iload_n (M := M_X1_ringsCrossBehind) dX1_ringsCrossBehind_94 rfl ?_
          exact J_55 _ (Option.some.inj H).symm
      have H := he_57
      refine z_aload_n (M := M_X1_ringsCrossBehind) dX1_ringsCrossBehind_47 rfl ?_
      refine z_getR (M := M_X1_ringsCrossBehind) (ci := 4) (C := RX1) (T := TX1) (Nf := 11) (ty := tyX1) cl4 dX1_ringsCrossBehind_48 ly_177 1 (by decide) t_286 rfl ?_
      refine z_iload_n (M := M_X1_ringsCrossBehind) dX1_ringsCrossBehind_51 rfl ?_
      refine z_iload_n (M := M_X1_ringsCrossBehind) dX1_ringsCrossBehind_52 rfl ?_
      refine z_iload (M := M_X1_ringsCrossBehind) dX1_ringsCrossBehind_53 rfl ?_
      obtain ⟨x_17, hc_16, H⟩ := bd_e H
      refine z_callV (M := M_X1_ringsCrossBehind) (M' := M_X5_ends) (as := [vi i_0, vi (σ (kE_placeX 179) 0), vi (σ (kE_placeY 179) 0)]) (rest := []) rfl rfl dX1_ringsCrossBehind_55 m_X5_ends t_1286 t_1287 t_1288 (c_X5_ends hl (by decide) hc_16) rfl rfl (ly_G (by decide)) rfl (Nat.le_of_ble_eq_true rfl) (Nat.le_of_ble_eq_true rfl) (Nat.le_of_ble_eq_true rfl) (Nat.le_of_ble_eq_true rfl) ?_
      refine z_st (st' := [zv x_17]) rfl ?_
      rcases if_e H with ⟨h_18, H⟩ | ⟨h_18, H⟩
      · refine z_zeq_f (M := M_X1_ringsCrossBehind) (tgt := 69) dX1_ringsCrossBehind_58 (by decide) h_18 ?_
        refine z_aload_n (M := M_X1_ringsCrossBehind) dX1_ringsCrossBehind_61 rfl ?_
        refine z_iload_n (M := M_X1_ringsCrossBehind) dX1_ringsCrossBehind_62 rfl ?_
        obtain ⟨x_20, hc_19, H⟩ := bd_e H
        refine z_callV (M := M_X1_ringsCrossBehind) (M' := M_X1_nextOf) (as := [vi i_0]) (rest := []) rfl rfl dX1_ringsCrossBehind_63 m_X1_nextOf t_1290 t_1292 s_53 (c_X1_nextOf hl  hc_19) rfl rfl ly_177 rfl (Nat.le_of_ble_eq_true rfl) (Nat.le_of_ble_eq_true rfl) (Nat.le_of_ble_eq_true rfl) (Nat.le_of_ble_eq_true rfl) ?_
        refine z_st (st' := [vi x_20]) rfl ?_
        refine z_goto (M := M_X1_ringsCrossBehind) (tgt := 70) dX1_ringsCrossBehind_66 (by decide) ?_
        exact J_59 _ (Option.some.inj H).symm
      · refine z_zeq_t (M := M_X1_ringsCrossBehind) (tgt := 69) dX1_ringsCrossBehind_58 (by decide) h_18 ?_
        refine z_iload_n (M := M_X1_ringsCrossBehind) dX1_ringsCrossBehind_69 rfl ?_
        exact J_59 _ (Option.some.inj H).symm
theorem c_X5_highX (hl : l.stackTraces = false) {σ : SG} {this_0 : Nat} {i_0 : Int} {r : Int} (h_this : isG this_0) (H : fE_highX σ this_0 i_0 = some r) : en_S l E M_X5_highX 1 0 0 [vr this_0, vi i_0] σ (pS (some (vi r)) σ) := by
  unfold fE_highX at H
  refine z_mk (lv := [some (vr this_0), some (vi i_0)]) m_X5_highX rfl hl (Nat.le_of_ble_eq_true rfl) rfl ?_
  refine z_aload_n (M := M_X5_highX) dX5_highX_0 rfl ?_
  refine z_getR (M := M_X5_highX) (ci := 8) (C := RX5) (T := TX5) (Nf := 8) (ty := tyX5) cl8 dX5_highX_1 (ly_G h_this) 0 (by decide) t_234 rfl ?_
  refine z_iload_n (M := M_X5_highX) dX5_highX_4 rfl ?_
  obtain ⟨x_1, x_1_e, hi_2, H⟩ := rd_e H
  refine z_iald (M := M_X5_highX) dX5_highX_5 (ly_Gi (k := 1) h_this (by decide) (by decide)) rfl rfl rfl hi_2 x_1_e ?_
  refine z_aload_n (M := M_X5_highX) dX5_highX_6 rfl ?_
  refine z_getR (M := M_X5_highX) (ci := 8) (C := RX5) (T := TX5) (Nf := 8) (ty := tyX5) cl8 dX5_highX_7 (ly_G h_this) 2 (by decide) t_242 rfl ?_
  refine z_iload_n (M := M_X5_highX) dX5_highX_10 rfl ?_
  obtain ⟨x_3, x_3_e, hi_4, H⟩ := rd_e H
  refine z_iald (M := M_X5_highX) dX5_highX_11 (ly_Gi (k := 3) h_this (by decide) (by decide)) rfl rfl rfl hi_4 x_3_e ?_
  refine z_mmax (M := M_X5_highX) dX5_highX_12 t_1242 t_1013 t_20 t_1014 (Nat.le_of_ble_eq_true rfl) (Nat.le_of_ble_eq_true rfl) (Nat.le_of_ble_eq_true rfl) (Nat.le_of_ble_eq_true rfl) ?_
  cases H
  exact z_iret (M := M_X5_highX) dX5_highX_15 rfl (Nat.le_of_ble_eq_true rfl) (Nat.le_of_ble_eq_true rfl) ⟨rfl, rfl⟩
theorem c_X5_highY (hl : l.stackTraces = false) {σ : SG} {this_0 : Nat} {i_0 : Int} {r : Int} (h_this : isG this_0) (H : fE_highY σ this_0 i_0 = some r) : en_S l E M_X5_highY 1 0 0 [vr this_0, vi i_0] σ (pS (some (vi r)) σ) := by
  unfold fE_highY at H
  refine z_mk (lv := [some (vr this_0), some (vi i_0)]) m_X5_highY rfl hl (Nat.le_of_ble_eq_true rfl) rfl ?_
  refine z_aload_n (M := M_X5_highY) dX5_highY_0 rfl ?_
  refine z_getR (M := M_X5_highY) (ci := 8) (C := RX5) (T := TX5) (Nf := 8) (ty := tyX5) cl8 dX5_highY_1 (ly_G h_this) 1 (by decide) t_238 rfl ?_
  refine z_iload_n (M := M_X5_highY) dX5_highY_4 rfl ?_
  obtain ⟨x_1, x_1_e, hi_2, H⟩ := rd_e H
  refine z_iald (M := M_X5_highY) dX5_highY_5 (ly_Gi (k := 2) h_this (by decide) (by decide)) rfl rfl rfl hi_2 x_1_e ?_
  refine z_aload_n (M := M_X5_highY) dX5_highY_6 rfl ?_
  refine z_getR (M := M_X5_highY) (ci := 8) (C := RX5) (T := TX5) (Nf := 8) (ty := tyX5) cl8 dX5_highY_7 (ly_G h_this) 3 (by decide) t_246 rfl ?_
  refine z_iload_n (M := M_X5_highY) dX5_highY_10 rfl ?_
  obtain ⟨x_3, x_3_e, hi_4, H⟩ := rd_e H
  refine z_iald (M := M_X5_highY) dX5_highY_11 (ly_Gi (k := 4) h_this (by decide) (by decide)) rfl rfl rfl hi_4 x_3_e ?_
  refine z_mmax (M := M_X5_highY) dX5_highY_12 t_1242 t_1013 t_20 t_1014 (Nat.le_of_ble_eq_true rfl) (Nat.le_of_ble_eq_true rfl) (Nat.le_of_ble_eq_true rfl) (Nat.le_of_ble_eq_true rfl) ?_
  cases H
  exact z_iret (M := M_X5_highY) dX5_highY_15 rfl (Nat.le_of_ble_eq_true rfl) (Nat.le_of_ble_eq_true rfl) ⟨rfl, rfl⟩
theorem c_X5_lowX (hl : l.stackTraces = false) {σ : SG} {this_0 : Nat} {i_0 : Int} {r : Int} (h_this : isG this_0) (H : fE_lowX σ this_0 i_0 = some r) : en_S l E M_X5_lowX 1 0 0 [vr this_0, vi i_0] σ (pS (some (vi r)) σ) := by
  unfold fE_lowX at H
  refine z_mk (lv := [some (vr this_0), some (vi i_0)]) m_X5_lowX rfl hl (Nat.le_of_ble_eq_true rfl) rfl ?_
  refine z_aload_n (M := M_X5_lowX) dX5_lowX_0 rfl ?_
  refine z_getR (M := M_X5_lowX) (ci := 8) (C := RX5) (T := TX5) (Nf := 8) (ty := tyX5) cl8 dX5_lowX_1 (ly_G h_this) 0 (by decide) t_234 rfl ?_
  refine z_iload_n (M := M_X5_lowX) dX5_lowX_4 rfl ?_
  obtain ⟨x_1, x_1_e, hi_2, H⟩ := rd_e H
  refine z_iald (M := M_X5_lowX) dX5_lowX_5 (ly_Gi (k := 1) h_this (by decide) (by decide)) rfl rfl rfl hi_2 x_1_e ?_
  refine z_aload_n (M := M_X5_lowX) dX5_lowX_6 rfl ?_
  refine z_getR (M := M_X5_lowX) (ci := 8) (C := RX5) (T := TX5) (Nf := 8) (ty := tyX5) cl8 dX5_lowX_7 (ly_G h_this) 2 (by decide) t_242 rfl ?_
  refine z_iload_n (M := M_X5_lowX) dX5_lowX_10 rfl ?_
  obtain ⟨x_3, x_3_e, hi_4, H⟩ := rd_e H
  refine z_iald (M := M_X5_lowX) dX5_lowX_11 (ly_Gi (k := 3) h_this (by decide) (by decide)) rfl rfl rfl hi_4 x_3_e ?_
  refine z_mmin (M := M_X5_lowX) dX5_lowX_12 t_1237 t_626 t_20 t_627 (Nat.le_of_ble_eq_true rfl) (Nat.le_of_ble_eq_true rfl) (Nat.le_of_ble_eq_true rfl) (Nat.le_of_ble_eq_true rfl) ?_
  cases H
  exact z_iret (M := M_X5_lowX) dX5_lowX_15 rfl (Nat.le_of_ble_eq_true rfl) (Nat.le_of_ble_eq_true rfl) ⟨rfl, rfl⟩
theorem c_X5_lowY (hl : l.stackTraces = false) {σ : SG} {this_0 : Nat} {i_0 : Int} {r : Int} (h_this : isG this_0) (H : fE_lowY σ this_0 i_0 = some r) : en_S l E M_X5_lowY 1 0 0 [vr this_0, vi i_0] σ (pS (some (vi r)) σ) := by
  unfold fE_lowY at H
  refine z_mk (lv := [some (vr this_0), some (vi i_0)]) m_X5_lowY rfl hl (Nat.le_of_ble_eq_true rfl) rfl ?_
  refine z_aload_n (M := M_X5_lowY) dX5_lowY_0 rfl ?_
  refine z_getR (M := M_X5_lowY) (ci := 8) (C := RX5) (T := TX5) (Nf := 8) (ty := tyX5) cl8 dX5_lowY_1 (ly_G h_this) 1 (by decide) t_238 rfl ?_
  refine z_iload_n (M := M_X5_lowY) dX5_lowY_4 rfl ?_
  obtain ⟨x_1, x_1_e, hi_2, H⟩ := rd_e H
  refine z_iald (M := M_X5_lowY) dX5_lowY_5 (ly_Gi (k := 2) h_this (by decide) (by decide)) rfl rfl rfl hi_2 x_1_e ?_
  refine z_aload_n (M := M_X5_lowY) dX5_lowY_6 rfl ?_
  refine z_getR (M := M_X5_lowY) (ci := 8) (C := RX5) (T := TX5) (Nf := 8) (ty := tyX5) cl8 dX5_lowY_7 (ly_G h_this) 3 (by decide) t_246 rfl ?_
  refine z_iload_n (M := M_X5_lowY) dX5_lowY_10 rfl ?_
  obtain ⟨x_3, x_3_e, hi_4, H⟩ := rd_e H
  refine z_iald (M := M_X5_lowY) dX5_lowY_11 (ly_Gi (k := 4) h_this (by decide) (by decide)) rfl rfl rfl hi_4 x_3_e ?_
  refine z_mmin (M := M_X5_lowY) dX5_lowY_12 t_1237 t_626 t_20 t_627 (Nat.le_of_ble_eq_true rfl) (Nat.le_of_ble_eq_true rfl) (Nat.le_of_ble_eq_true rfl) (Nat.le_of_ble_eq_true rfl) ?_
  cases H
  exact z_iret (M := M_X5_lowY) dX5_lowY_15 rfl (Nat.le_of_ble_eq_true rfl) (Nat.le_of_ble_eq_true rfl) ⟨rfl, rfl⟩
theorem c_X5_areApart (hl : l.stackTraces = false) {σ : SG} {this_0 : Nat} {i_0 : Int} {j_0 : Int} {r : Bool} (h_this : isG this_0) (H : fE_areApart σ this_0 i_0 j_0 = some r) : en_S l E M_X5_areApart 2 0 0 [vr this_0, vi i_0, vi j_0] σ (pS (some (zv r)) σ) := by
  unfold fE_areApart at H
  refine z_mk (lv := [some (vr this_0), some (vi i_0), some (vi j_0)]) m_X5_areApart rfl hl (Nat.le_of_ble_eq_true rfl) rfl ?_
  obtain ⟨v_27, he_28, hk_29⟩ := bd_e H
  have J_30 : ∀ x_26, v_27 = x_26 → YY l E M_X5_areApart 2 0 0 (pS (some (zv r)) σ) 57 [some (vr this_0), some (vi i_0), some (vi j_0)] [zv x_26] σ 0 0 := by
    intro x_26 e
    have H := hk_29
    rw [e] at H
    cases H
    exact z_zret (M := M_X5_areApart) dX5_areApart_57 rfl (Nat.le_of_ble_eq_true rfl) (Nat.le_of_ble_eq_true rfl) ⟨rfl, rfl⟩
  have H := he_28
  refine z_aload_n (M := M_X5_areApart) dX5_areApart_0 rfl ?_
  refine z_iload_n (M := M_X5_areApart) dX5_areApart_1 rfl ?_
  obtain ⟨x_2, hc_1, H⟩ := bd_e H
  refine z_callV (M := M_X5_areApart) (M' := M_X5_lowX) (as := [vi i_0]) (rest := []) rfl rfl dX5_areApart_2 m_X5_lowX t_1233 t_1234 t_1235 (c_X5_lowX hl h_this hc_1) rfl rfl (ly_G h_this) rfl (Nat.le_of_ble_eq_true rfl) (Nat.le_of_ble_eq_true rfl) (Nat.le_of_ble_eq_true rfl) (Nat.le_of_ble_eq_true rfl) ?_
  refine z_st (st' := [vi x_2]) rfl ?_
  refine z_aload_n (M := M_X5_areApart) dX5_areApart_5 rfl ?_
  refine z_iload_n (M := M_X5_areApart) dX5_areApart_6 rfl ?_
  obtain ⟨x_4, hc_3, H⟩ := bd_e H
  refine z_callV (M := M_X5_areApart) (M' := M_X5_highX) (as := [vi j_0]) (rest := [vi x_2]) rfl rfl dX5_areApart_7 m_X5_highX t_1238 t_1239 t_1240 (c_X5_highX hl h_this hc_3) rfl rfl (ly_G h_this) rfl (Nat.le_of_ble_eq_true rfl) (Nat.le_of_ble_eq_true rfl) (Nat.le_of_ble_eq_true rfl) (Nat.le_of_ble_eq_true rfl) ?_
  refine z_st (st' := [vi x_4, vi x_2]) rfl ?_
  rcases if_e H with ⟨h_5, H⟩ | ⟨h_5, H⟩
  · refine z_icmp_gt_t (M := M_X5_areApart) (tgt := 52) dX5_areApart_10 (by decide) rfl rfl h_5 ?_
    refine z_zconst (M := M_X5_areApart) (b := true) dX5_areApart_52 rfl ?_
    refine z_goto (M := M_X5_areApart) (tgt := 57) dX5_areApart_53 (by decide) ?_
    exact J_30 _ (Option.some.inj H).symm
  · refine z_icmp_gt_f (M := M_X5_areApart) (tgt := 52) dX5_areApart_10 (by decide) rfl rfl (Int.not_lt.mp h_5) ?_
    refine z_aload_n (M := M_X5_areApart) dX5_areApart_13 rfl ?_
    refine z_iload_n (M := M_X5_areApart) dX5_areApart_14 rfl ?_
    obtain ⟨x_8, hc_7, H⟩ := bd_e H
    refine z_callV (M := M_X5_areApart) (M' := M_X5_lowX) (as := [vi j_0]) (rest := []) rfl rfl dX5_areApart_15 m_X5_lowX t_1233 t_1234 t_1235 (c_X5_lowX hl h_this hc_7) rfl rfl (ly_G h_this) rfl (Nat.le_of_ble_eq_true rfl) (Nat.le_of_ble_eq_true rfl) (Nat.le_of_ble_eq_true rfl) (Nat.le_of_ble_eq_true rfl) ?_
    refine z_st (st' := [vi x_8]) rfl ?_
    refine z_aload_n (M := M_X5_areApart) dX5_areApart_18 rfl ?_
    refine z_iload_n (M := M_X5_areApart) dX5_areApart_19 rfl ?_
    obtain ⟨x_10, hc_9, H⟩ := bd_e H
    refine z_callV (M := M_X5_areApart) (M' := M_X5_highX) (as := [vi i_0]) (rest := [vi x_8]) rfl rfl dX5_areApart_20 m_X5_highX t_1238 t_1239 t_1240 (c_X5_highX hl h_this hc_9) rfl rfl (ly_G h_this) rfl (Nat.le_of_ble_eq_true rfl) (Nat.le_of_ble_eq_true rfl) (Nat.le_of_ble_eq_true rfl) (Nat.le_of_ble_eq_true rfl) ?_
    refine z_st (st' := [vi x_10, vi x_8]) rfl ?_
    rcases if_e H with ⟨h_11, H⟩ | ⟨h_11, H⟩
    · refine z_icmp_gt_t (M := M_X5_areApart) (tgt := 52) dX5_areApart_23 (by decide) rfl rfl h_11 ?_
      refine z_zconst (M := M_X5_areApart) (b := true) dX5_areApart_52 rfl ?_
      refine z_goto (M := M_X5_areApart) (tgt := 57) dX5_areApart_53 (by decide) ?_
      exact J_30 _ (Option.some.inj H).symm
    · refine z_icmp_gt_f (M := M_X5_areApart) (tgt := 52) dX5_areApart_23 (by decide) rfl rfl (Int.not_lt.mp h_11) ?_
      refine z_aload_n (M := M_X5_areApart) dX5_areApart_26 rfl ?_
      refine z_iload_n (M := M_X5_areApart) dX5_areApart_27 rfl ?_
      obtain ⟨x_14, hc_13, H⟩ := bd_e H
      refine z_callV (M := M_X5_areApart) (M' := M_X5_lowY) (as := [vi i_0]) (rest := []) rfl rfl dX5_areApart_28 m_X5_lowY t_1243 t_1244 t_1245 (c_X5_lowY hl h_this hc_13) rfl rfl (ly_G h_this) rfl (Nat.le_of_ble_eq_true rfl) (Nat.le_of_ble_eq_true rfl) (Nat.le_of_ble_eq_true rfl) (Nat.le_of_ble_eq_true rfl) ?_
      refine z_st (st' := [vi x_14]) rfl ?_
      refine z_aload_n (M := M_X5_areApart) dX5_areApart_31 rfl ?_
      refine z_iload_n (M := M_X5_areApart) dX5_areApart_32 rfl ?_
      obtain ⟨x_16, hc_15, H⟩ := bd_e H
      refine z_callV (M := M_X5_areApart) (M' := M_X5_highY) (as := [vi j_0]) (rest := [vi x_14]) rfl rfl dX5_areApart_33 m_X5_highY t_1247 t_1248 t_1249 (c_X5_highY hl h_this hc_15) rfl rfl (ly_G h_this) rfl (Nat.le_of_ble_eq_true rfl) (Nat.le_of_ble_eq_true rfl) (Nat.le_of_ble_eq_true rfl) (Nat.le_of_ble_eq_true rfl) ?_
      refine z_st (st' := [vi x_16, vi x_14]) rfl ?_
      rcases if_e H with ⟨h_17, H⟩ | ⟨h_17, H⟩
      · refine z_icmp_gt_t (M := M_X5_areApart) (tgt := 52) dX5_areApart_36 (by decide) rfl rfl h_17 ?_
        refine z_zconst (M := M_X5_areApart) (b := true) dX5_areApart_52 rfl ?_
        refine z_goto (M := M_X5_areApart) (tgt := 57) dX5_areApart_53 (by decide) ?_
        exact J_30 _ (Option.some.inj H).symm
      · refine z_icmp_gt_f (M := M_X5_areApart) (tgt := 52) dX5_areApart_36 (by decide) rfl rfl (Int.not_lt.mp h_17) ?_
        refine z_aload_n (M := M_X5_areApart) dX5_areApart_39 rfl ?_
        refine z_iload_n (M := M_X5_areApart) dX5_areApart_40 rfl ?_
        obtain ⟨x_20, hc_19, H⟩ := bd_e H
        refine z_callV (M := M_X5_areApart) (M' := M_X5_lowY) (as := [vi j_0]) (rest := []) rfl rfl dX5_areApart_41 m_X5_lowY t_1243 t_1244 t_1245 (c_X5_lowY hl h_this hc_19) rfl rfl (ly_G h_this) rfl (Nat.le_of_ble_eq_true rfl) (Nat.le_of_ble_eq_true rfl) (Nat.le_of_ble_eq_true rfl) (Nat.le_of_ble_eq_true rfl) ?_
        refine z_st (st' := [vi x_20]) rfl ?_
        refine z_aload_n (M := M_X5_areApart) dX5_areApart_44 rfl ?_
        refine z_iload_n (M := M_X5_areApart) dX5_areApart_45 rfl ?_
        obtain ⟨x_22, hc_21, H⟩ := bd_e H
        refine z_callV (M := M_X5_areApart) (M' := M_X5_highY) (as := [vi i_0]) (rest := [vi x_20]) rfl rfl dX5_areApart_46 m_X5_highY t_1247 t_1248 t_1249 (c_X5_highY hl h_this hc_21) rfl rfl (ly_G h_this) rfl (Nat.le_of_ble_eq_true rfl) (Nat.le_of_ble_eq_true rfl) (Nat.le_of_ble_eq_true rfl) (Nat.le_of_ble_eq_true rfl) ?_
        refine z_st (st' := [vi x_22, vi x_20]) rfl ?_
        rcases if_e H with ⟨h_23, H⟩ | ⟨h_23, H⟩
        · refine z_icmp_le_f (M := M_X5_areApart) (tgt := 56) dX5_areApart_49 (by decide) rfl rfl h_23 ?_
          refine z_zconst (M := M_X5_areApart) (b := true) dX5_areApart_52 rfl ?_
          refine z_goto (M := M_X5_areApart) (tgt := 57) dX5_areApart_53 (by decide) ?_
          exact J_30 _ (Option.some.inj H).symm
        · refine z_icmp_le_t (M := M_X5_areApart) (tgt := 56) dX5_areApart_49 (by decide) rfl rfl (Int.not_lt.mp h_23) ?_
          refine z_zconst (M := M_X5_areApart) (b := false) dX5_areApart_56 rfl ?_
          exact J_30 _ (Option.some.inj H).symm
end LFAE
