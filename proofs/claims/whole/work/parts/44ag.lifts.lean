section LFAG
variable {l : Launch} {E : EE}
theorem c_X6_liesWithin (hl : l.stackTraces = false) {σ : SG} {this_0 : Nat} {limit_0 : Int} {r : Bool} (h_this : isS this_0) (H : fA_liesWithin σ this_0 limit_0 = some r) : en_S l E M_X6_liesWithin 2 0 0 [vr this_0, vi limit_0] σ (pS (some (zv r)) σ) := by
  unfold fA_liesWithin at H
  refine z_mk (lv := [some (vr this_0), some (vi limit_0), none]) m_X6_liesWithin rfl hl (Nat.le_of_ble_eq_true rfl) rfl ?_
  refine z_iconst (M := M_X6_liesWithin) dX6_liesWithin_0 ?_
  refine z_istore_n (M := M_X6_liesWithin) (lv' := [some (vr this_0), some (vi limit_0), some (vi 0)]) dX6_liesWithin_1 (Nat.le_of_ble_eq_true rfl) rfl rfl ?_
  obtain ⟨rl_5, hw_2, hk_3, hk_4⟩ := bx_e H
  have J_28 : ∀ i_27, rl_5 = (.inl i_27) → YY l E M_X6_liesWithin 2 0 0 (pS (some (zv r)) σ) 44 [some (vr this_0), some (vi limit_0), some (vi i_27)] [] σ 0 0 := by
    intro i_27 e
    have H := hk_3 _ e
    refine z_zconst (M := M_X6_liesWithin) (b := true) dX6_liesWithin_44 rfl ?_
    cases H
    exact z_zret (M := M_X6_liesWithin) dX6_liesWithin_45 rfl (Nat.le_of_ble_eq_true rfl) (Nat.le_of_ble_eq_true rfl) ⟨rfl, rfl⟩
  refine whl_go hw_2 (fun i_1 => YY l E M_X6_liesWithin 2 0 0 (pS (some (zv r)) σ) 2 [some (vr this_0), some (vi limit_0), some (vi i_1)] [] σ 0 0) ?_
  rintro i_1 o_6 H K_7 K_8
  refine z_iload_n (M := M_X6_liesWithin) dX6_liesWithin_2 rfl ?_
  refine z_aload_n (M := M_X6_liesWithin) dX6_liesWithin_3 rfl ?_
  refine z_getI (M := M_X6_liesWithin) (ci := 9) (C := RX6) (T := TX6) (Nf := 5) (ty := tyX6) cl9 dX6_liesWithin_4 (ly_S h_this) 4 (by decide) t_83 rfl rfl ?_
  rcases if_e H with ⟨h_9, H⟩ | ⟨h_9, H⟩
  · refine z_icmp_ge_f (M := M_X6_liesWithin) (tgt := 44) dX6_liesWithin_7 (by decide) rfl rfl h_9 ?_
    refine z_aload_n (M := M_X6_liesWithin) dX6_liesWithin_10 rfl ?_
    refine z_getR (M := M_X6_liesWithin) (ci := 9) (C := RX6) (T := TX6) (Nf := 5) (ty := tyX6) cl9 dX6_liesWithin_11 (ly_S h_this) 1 (by decide) t_58 rfl ?_
    refine z_iload_n (M := M_X6_liesWithin) dX6_liesWithin_14 rfl ?_
    obtain ⟨x_19, x_19_e, hi_20, H⟩ := rd_e H
    refine z_iald (M := M_X6_liesWithin) dX6_liesWithin_15 (ly_Sx h_this) rfl rfl rfl hi_20 x_19_e ?_
    refine z_iload_n (M := M_X6_liesWithin) dX6_liesWithin_16 rfl ?_
    refine z_callSN (M := M_X6_liesWithin) (M' := M_X11_isBeyond) (as := [vi x_19, vi limit_0]) (rest := []) rfl rfl dX6_liesWithin_17 m_X11_isBeyond n_1385 t_1386 (c_X11_isBeyond hl  rfl) rfl rfl (Nat.le_of_ble_eq_true rfl) (Nat.le_of_ble_eq_true rfl) (Nat.le_of_ble_eq_true rfl) (Nat.le_of_ble_eq_true rfl) ?_
    refine z_st (st' := [zv (fQ_isBeyond x_19 limit_0)]) rfl ?_
    rcases if_e H with ⟨h_21, H⟩ | ⟨h_21, H⟩
    · refine z_zne_t (M := M_X6_liesWithin) (tgt := 36) dX6_liesWithin_20 (by decide) h_21 ?_
      refine z_zconst (M := M_X6_liesWithin) (b := false) dX6_liesWithin_36 rfl ?_
      have H := congrArg some (hk_4 _ ((K_8 _ (Option.some.inj H).symm).symm))
      cases H
      exact z_zret (M := M_X6_liesWithin) dX6_liesWithin_37 rfl (Nat.le_of_ble_eq_true rfl) (Nat.le_of_ble_eq_true rfl) ⟨rfl, rfl⟩
    · refine z_zne_f (M := M_X6_liesWithin) (tgt := 36) dX6_liesWithin_20 (by decide) h_21 ?_
      refine z_aload_n (M := M_X6_liesWithin) dX6_liesWithin_23 rfl ?_
      refine z_getR (M := M_X6_liesWithin) (ci := 9) (C := RX6) (T := TX6) (Nf := 5) (ty := tyX6) cl9 dX6_liesWithin_24 (ly_S h_this) 2 (by decide) t_65 rfl ?_
      refine z_iload_n (M := M_X6_liesWithin) dX6_liesWithin_27 rfl ?_
      obtain ⟨x_22, x_22_e, hi_23, H⟩ := rd_e H
      refine z_iald (M := M_X6_liesWithin) dX6_liesWithin_28 (ly_Sy h_this) rfl rfl rfl hi_23 x_22_e ?_
      refine z_iload_n (M := M_X6_liesWithin) dX6_liesWithin_29 rfl ?_
      refine z_callSN (M := M_X6_liesWithin) (M' := M_X11_isBeyond) (as := [vi x_22, vi limit_0]) (rest := []) rfl rfl dX6_liesWithin_30 m_X11_isBeyond n_1385 t_1386 (c_X11_isBeyond hl  rfl) rfl rfl (Nat.le_of_ble_eq_true rfl) (Nat.le_of_ble_eq_true rfl) (Nat.le_of_ble_eq_true rfl) (Nat.le_of_ble_eq_true rfl) ?_
      refine z_st (st' := [zv (fQ_isBeyond x_22 limit_0)]) rfl ?_
      rcases if_e H with ⟨h_24, H⟩ | ⟨h_24, H⟩
      · refine z_zeq_f (M := M_X6_liesWithin) (tgt := 38) dX6_liesWithin_33 (by decide) h_24 ?_
        refine z_zconst (M := M_X6_liesWithin) (b := false) dX6_liesWithin_36 rfl ?_
        have H := congrArg some (hk_4 _ ((K_8 _ (Option.some.inj H).symm).symm))
        cases H
        exact z_zret (M := M_X6_liesWithin) dX6_liesWithin_37 rfl (Nat.le_of_ble_eq_true rfl) (Nat.le_of_ble_eq_true rfl) ⟨rfl, rfl⟩
      · refine z_zeq_t (M := M_X6_liesWithin) (tgt := 38) dX6_liesWithin_33 (by decide) h_24 ?_
        refine z_iinc (M := M_X6_liesWithin) (lv' := [some (vr this_0), some (vi limit_0), some (vi (i_1 + 1))]) dX6_liesWithin_38 rfl (Nat.le_of_ble_eq_true rfl) rfl rfl ?_
        refine z_goto (M := M_X6_liesWithin) (tgt := 2) dX6_liesWithin_41 (by decide) ?_
        exact K_7 _ (Option.some.inj H).symm
  · refine z_icmp_ge_t (M := M_X6_liesWithin) (tgt := 44) dX6_liesWithin_7 (by decide) rfl rfl (Int.not_lt.mp h_9) ?_
    exact J_28 _ (K_8 _ (Option.some.inj H).symm).symm
theorem c_X11_canBeLaidOver (hl : l.stackTraces = false) {σ : SG} {shape_0 : Nat} {r : Bool} (h_shape : isS shape_0) (H : fQ_canBeLaidOver σ shape_0 = some r) : en_S l E M_X11_canBeLaidOver 3 0 0 [vr shape_0] σ (pS (some (zv r)) σ) := by
  unfold fQ_canBeLaidOver at H
  refine z_mk (lv := [some (vr shape_0), none, none, none, none, none]) m_X11_canBeLaidOver rfl hl (Nat.le_of_ble_eq_true rfl) rfl ?_
  refine z_aload_n (M := M_X11_canBeLaidOver) dX11_canBeLaidOver_0 rfl ?_
  obtain ⟨x_2, hc_1, H⟩ := bd_e H
  refine z_callV (M := M_X11_canBeLaidOver) (M' := M_X6_kind) (as := []) (rest := []) rfl rfl dX11_canBeLaidOver_1 m_X6_kind t_950 t_951 t_952 (c_X6_kind hl h_shape hc_1) rfl rfl (ly_S h_shape) rfl (Nat.le_of_ble_eq_true rfl) (Nat.le_of_ble_eq_true rfl) (Nat.le_of_ble_eq_true rfl) (Nat.le_of_ble_eq_true rfl) ?_
  refine z_st (st' := [vi x_2]) rfl ?_
  refine z_istore_n (M := M_X11_canBeLaidOver) (lv' := [some (vr shape_0), some (vi x_2), none, none, none, none]) dX11_canBeLaidOver_4 (Nat.le_of_ble_eq_true rfl) rfl rfl ?_
  obtain ⟨v_108, he_109, hk_110⟩ := bd_e H
  have J_111 : v_108 = true → YY l E M_X11_canBeLaidOver 3 0 0 (pS (some (zv r)) σ) 25 [some (vr shape_0), some (vi x_2), none, none, none, none] [] σ 0 0 := by
    intro e
    have H := hk_110
    rw [e] at H
    rcases if_e H with ⟨_, H⟩ | ⟨q, H⟩
    · refine z_zconst (M := M_X11_canBeLaidOver) (b := false) dX11_canBeLaidOver_25 rfl ?_
      cases H
      exact z_zret (M := M_X11_canBeLaidOver) dX11_canBeLaidOver_26 rfl (Nat.le_of_ble_eq_true rfl) (Nat.le_of_ble_eq_true rfl) ⟨rfl, rfl⟩
    · exact absurd rfl q
  have J_112 : v_108 = false → YY l E M_X11_canBeLaidOver 3 0 0 (pS (some (zv r)) σ) 27 [some (vr shape_0), some (vi x_2), none, none, none, none] [] σ 0 0 := by
    intro e
    have H := hk_110
    rw [e] at H
    rcases if_e H with ⟨q, H⟩ | ⟨_, H⟩
    · exact nomatch q
    · refine z_iconst (M := M_X11_canBeLaidOver) dX11_canBeLaidOver_27 ?_
      refine z_istore_n (M := M_X11_canBeLaidOver) (lv' := [some (vr shape_0), some (vi x_2), some (vi 0), none, none, none]) dX11_canBeLaidOver_28 (Nat.le_of_ble_eq_true rfl) rfl rfl ?_
      refine z_iconst (M := M_X11_canBeLaidOver) dX11_canBeLaidOver_29 ?_
      refine z_istore_n (M := M_X11_canBeLaidOver) (lv' := [some (vr shape_0), some (vi x_2), some (vi 0), some (vi 0), none, none]) dX11_canBeLaidOver_30 (Nat.le_of_ble_eq_true rfl) rfl rfl ?_
      obtain ⟨rl_74, hw_71, hk_72, hk_73⟩ := bx_e H
      have J_107 : ∀ from_105 at_106, rl_74 = (.inl (from_105, at_106)) → YY l E M_X11_canBeLaidOver 3 0 0 (pS (some (zv r)) σ) 95 [some (vr shape_0), some (vi x_2), some (vi from_105), some (vi at_106), none, none] [] σ 0 0 := by
        intro from_105 at_106 e
        have H := hk_72 _ e
        refine z_zconst (M := M_X11_canBeLaidOver) (b := true) dX11_canBeLaidOver_95 rfl ?_
        cases H
        exact z_zret (M := M_X11_canBeLaidOver) dX11_canBeLaidOver_96 rfl (Nat.le_of_ble_eq_true rfl) (Nat.le_of_ble_eq_true rfl) ⟨rfl, rfl⟩
      refine whl_go hw_71 (fun (from_69, at_70) => YY l E M_X11_canBeLaidOver 3 0 0 (pS (some (zv r)) σ) 31 [some (vr shape_0), some (vi x_2), some (vi from_69), some (vi at_70), none, none] [] σ 0 0) ?_
      rintro ⟨from_69, at_70⟩ o_75 H K_76 K_77
      refine z_iload_n (M := M_X11_canBeLaidOver) dX11_canBeLaidOver_31 rfl ?_
      refine z_iconst (M := M_X11_canBeLaidOver) dX11_canBeLaidOver_32 ?_
      refine z_iadd (M := M_X11_canBeLaidOver) dX11_canBeLaidOver_33 ?_
      refine z_aload_n (M := M_X11_canBeLaidOver) dX11_canBeLaidOver_34 rfl ?_
      refine z_getI (M := M_X11_canBeLaidOver) (ci := 9) (C := RX6) (T := TX6) (Nf := 5) (ty := tyX6) cl9 dX11_canBeLaidOver_35 (ly_S h_shape) 3 (by decide) t_79 rfl rfl ?_
      rcases if_e H with ⟨h_78, H⟩ | ⟨h_78, H⟩
      · refine z_icmp_ge_f (M := M_X11_canBeLaidOver) (tgt := 95) dX11_canBeLaidOver_38 (by decide) rfl rfl h_78 ?_
        refine z_iconst (M := M_X11_canBeLaidOver) dX11_canBeLaidOver_41 ?_
        refine z_istore (M := M_X11_canBeLaidOver) (lv' := [some (vr shape_0), some (vi x_2), some (vi from_69), some (vi at_70), some (vi 0), none]) dX11_canBeLaidOver_42 (Nat.le_of_ble_eq_true rfl) rfl rfl ?_
        obtain ⟨rl_84, hw_81, hk_82, hk_83⟩ := bx_e H
        have J_103 : ∀ from_98 row_99, rl_84 = (.inl (from_98, row_99)) → YY l E M_X11_canBeLaidOver 3 0 0 (pS (some (zv r)) σ) 86 [some (vr shape_0), some (vi x_2), some (vi from_98), some (vi at_70), some (vi row_99), none] [] σ 0 0 := by
          intro from_98 row_99 e
          have H := hk_82 _ e
          refine z_aload_n (M := M_X11_canBeLaidOver) dX11_canBeLaidOver_86 rfl ?_
          refine z_iload_n (M := M_X11_canBeLaidOver) dX11_canBeLaidOver_87 rfl ?_
          obtain ⟨x_101, hc_100, H⟩ := bd_e H
          refine z_callV (M := M_X11_canBeLaidOver) (M' := M_X6_behind) (as := [vi at_70]) (rest := []) rfl rfl dX11_canBeLaidOver_88 m_X6_behind t_1391 t_1107 t_1108 (c_X6_behind hl h_shape hc_100) rfl rfl (ly_S h_shape) rfl (Nat.le_of_ble_eq_true rfl) (Nat.le_of_ble_eq_true rfl) (Nat.le_of_ble_eq_true rfl) (Nat.le_of_ble_eq_true rfl) ?_
          refine z_st (st' := [vi x_101]) rfl ?_
          refine z_istore_n (M := M_X11_canBeLaidOver) (lv' := [some (vr shape_0), some (vi x_2), some (vi from_98), some (vi x_101), some (vi row_99), none]) dX11_canBeLaidOver_91 (Nat.le_of_ble_eq_true rfl) rfl rfl ?_
          refine z_goto (M := M_X11_canBeLaidOver) (tgt := 31) dX11_canBeLaidOver_92 (by decide) ?_
          refine z_le (lv' := [some (vr shape_0), some (vi x_2), some (vi from_98), some (vi x_101), none, none]) ⟨Or.inr rfl, Or.inr rfl, Or.inr rfl, Or.inr rfl, Or.inl rfl, Or.inl rfl, trivial⟩ ?_
          exact K_76 _ (Option.some.inj H).symm
        refine whl_go hw_81 (fun (from_79, row_80) => YY l E M_X11_canBeLaidOver 3 0 0 (pS (some (zv r)) σ) 44 [some (vr shape_0), some (vi x_2), some (vi from_79), some (vi at_70), some (vi row_80), none] [] σ 0 0) ?_
        rintro ⟨from_79, row_80⟩ o_85 H K_86 K_87
        refine z_iload (M := M_X11_canBeLaidOver) dX11_canBeLaidOver_44 rfl ?_
        refine z_aload_n (M := M_X11_canBeLaidOver) dX11_canBeLaidOver_46 rfl ?_
        refine z_iload_n (M := M_X11_canBeLaidOver) dX11_canBeLaidOver_47 rfl ?_
        obtain ⟨x_89, hc_88, H⟩ := bd_e H
        refine z_callV (M := M_X11_canBeLaidOver) (M' := M_X6_rows) (as := [vi at_70]) (rest := [vi row_80]) rfl rfl dX11_canBeLaidOver_48 m_X6_rows t_1388 t_1075 t_1076 (c_X6_rows hl h_shape hc_88) rfl rfl (ly_S h_shape) rfl (Nat.le_of_ble_eq_true rfl) (Nat.le_of_ble_eq_true rfl) (Nat.le_of_ble_eq_true rfl) (Nat.le_of_ble_eq_true rfl) ?_
        refine z_st (st' := [vi x_89, vi row_80]) rfl ?_
        rcases if_e H with ⟨h_90, H⟩ | ⟨h_90, H⟩
        · refine z_icmp_ge_f (M := M_X11_canBeLaidOver) (tgt := 86) dX11_canBeLaidOver_51 (by decide) rfl rfl h_90 ?_
          refine z_aload_n (M := M_X11_canBeLaidOver) dX11_canBeLaidOver_54 rfl ?_
          refine z_iload_n (M := M_X11_canBeLaidOver) dX11_canBeLaidOver_55 rfl ?_
          refine z_iload (M := M_X11_canBeLaidOver) dX11_canBeLaidOver_56 rfl ?_
          obtain ⟨x_92, hc_91, H⟩ := bd_e H
          refine z_callV (M := M_X11_canBeLaidOver) (M' := M_X6_rowLength) (as := [vi at_70, vi row_80]) (rest := []) rfl rfl dX11_canBeLaidOver_58 m_X6_rowLength t_1389 t_1080 t_1081 (c_X6_rowLength hl h_shape hc_91) rfl rfl (ly_S h_shape) rfl (Nat.le_of_ble_eq_true rfl) (Nat.le_of_ble_eq_true rfl) (Nat.le_of_ble_eq_true rfl) (Nat.le_of_ble_eq_true rfl) ?_
          refine z_st (st' := [vi x_92]) rfl ?_
          refine z_istore (M := M_X11_canBeLaidOver) (lv' := [some (vr shape_0), some (vi x_2), some (vi from_79), some (vi at_70), some (vi row_80), some (vi x_92)]) dX11_canBeLaidOver_61 (Nat.le_of_ble_eq_true rfl) rfl rfl ?_
          refine z_aload_n (M := M_X11_canBeLaidOver) dX11_canBeLaidOver_63 rfl ?_
          refine z_iload_n (M := M_X11_canBeLaidOver) dX11_canBeLaidOver_64 rfl ?_
          refine z_iload (M := M_X11_canBeLaidOver) dX11_canBeLaidOver_65 rfl ?_
          obtain ⟨x_94, hc_93, H⟩ := bd_e H
          refine z_callV (M := M_X11_canBeLaidOver) (M' := M_X6_isClosed) (as := [vi from_79, vi x_92]) (rest := []) rfl rfl dX11_canBeLaidOver_67 m_X6_isClosed t_1390 t_1202 t_1203 (c_X6_isClosed hl h_shape hc_93) rfl rfl (ly_S h_shape) rfl (Nat.le_of_ble_eq_true rfl) (Nat.le_of_ble_eq_true rfl) (Nat.le_of_ble_eq_true rfl) (Nat.le_of_ble_eq_true rfl) ?_
          refine z_st (st' := [zv x_94]) rfl ?_
          rcases if_e H with ⟨h_95, H⟩ | ⟨h_95, H⟩
          · refine z_zne_t (M := M_X11_canBeLaidOver) (tgt := 75) dX11_canBeLaidOver_70 (by decide) h_95 ?_
            refine z_iload_n (M := M_X11_canBeLaidOver) dX11_canBeLaidOver_75 rfl ?_
            refine z_iload (M := M_X11_canBeLaidOver) dX11_canBeLaidOver_76 rfl ?_
            refine z_iadd (M := M_X11_canBeLaidOver) dX11_canBeLaidOver_78 ?_
            refine z_istore_n (M := M_X11_canBeLaidOver) (lv' := [some (vr shape_0), some (vi x_2), some (vi (from_79 + x_92)), some (vi at_70), some (vi row_80), some (vi x_92)]) dX11_canBeLaidOver_79 (Nat.le_of_ble_eq_true rfl) rfl rfl ?_
            refine z_iinc (M := M_X11_canBeLaidOver) (lv' := [some (vr shape_0), some (vi x_2), some (vi (from_79 + x_92)), some (vi at_70), some (vi (row_80 + 1)), some (vi x_92)]) dX11_canBeLaidOver_80 rfl (Nat.le_of_ble_eq_true rfl) rfl rfl ?_
            refine z_goto (M := M_X11_canBeLaidOver) (tgt := 44) dX11_canBeLaidOver_83 (by decide) ?_
            refine z_le (lv' := [some (vr shape_0), some (vi x_2), some (vi (from_79 + x_92)), some (vi at_70), some (vi (row_80 + 1)), none]) ⟨Or.inr rfl, Or.inr rfl, Or.inr rfl, Or.inr rfl, Or.inr rfl, Or.inl rfl, trivial⟩ ?_
            exact K_86 _ (Option.some.inj H).symm
          · refine z_zne_f (M := M_X11_canBeLaidOver) (tgt := 75) dX11_canBeLaidOver_70 (by decide) h_95 ?_
            refine z_zconst (M := M_X11_canBeLaidOver) (b := false) dX11_canBeLaidOver_73 rfl ?_
            have H := congrArg some (hk_83 _ ((K_87 _ (Option.some.inj H).symm).symm))
            have H := congrArg some (hk_73 _ ((K_77 _ (Option.some.inj H).symm).symm))
            cases H
            exact z_zret (M := M_X11_canBeLaidOver) dX11_canBeLaidOver_74 rfl (Nat.le_of_ble_eq_true rfl) (Nat.le_of_ble_eq_true rfl) ⟨rfl, rfl⟩
        · refine z_icmp_ge_t (M := M_X11_canBeLaidOver) (tgt := 86) dX11_canBeLaidOver_51 (by decide) rfl rfl (Int.not_lt.mp h_90) ?_
          exact J_103 _ _ (K_87 _ (Option.some.inj H).symm).symm
      · refine z_icmp_ge_t (M := M_X11_canBeLaidOver) (tgt := 95) dX11_canBeLaidOver_38 (by decide) rfl rfl (Int.not_lt.mp h_78) ?_
        exact J_107 _ _ (K_77 _ (Option.some.inj H).symm).symm
  have H := he_109
  refine z_iload_n (M := M_X11_canBeLaidOver) dX11_canBeLaidOver_5 rfl ?_
  refine z_iconst (M := M_X11_canBeLaidOver) dX11_canBeLaidOver_6 ?_
  rcases if_e H with ⟨h_55, H⟩ | ⟨h_55, H⟩
  · refine z_icmp_eq_f (M := M_X11_canBeLaidOver) (tgt := 16) dX11_canBeLaidOver_7 (by decide) rfl (by decide +kernel) h_55 ?_
    refine z_iload_n (M := M_X11_canBeLaidOver) dX11_canBeLaidOver_10 rfl ?_
    refine z_bipush (M := M_X11_canBeLaidOver) dX11_canBeLaidOver_11 (by decide +kernel) ?_
    rcases if_e H with ⟨h_56, H⟩ | ⟨h_56, H⟩
    · refine z_icmp_ne_t (M := M_X11_canBeLaidOver) (tgt := 25) dX11_canBeLaidOver_13 (by decide) rfl (by decide +kernel) h_56 ?_
      exact J_111 (Option.some.inj H).symm
    · refine z_icmp_ne_f (M := M_X11_canBeLaidOver) (tgt := 25) dX11_canBeLaidOver_13 (by decide) rfl (by decide +kernel) (Decidable.not_not.mp h_56) ?_
      refine z_aload_n (M := M_X11_canBeLaidOver) dX11_canBeLaidOver_16 rfl ?_
      refine z_ldc (M := M_X11_canBeLaidOver) (n := 500000000) dX11_canBeLaidOver_17 t_1380 (by decide +kernel) ?_
      obtain ⟨x_59, hc_58, H⟩ := bd_e H
      refine z_callV (M := M_X11_canBeLaidOver) (M' := M_X6_liesWithin) (as := [vi 500000000]) (rest := []) rfl rfl dX11_canBeLaidOver_19 m_X6_liesWithin t_1381 t_1382 t_1383 (c_X6_liesWithin hl h_shape hc_58) rfl rfl (ly_S h_shape) rfl (Nat.le_of_ble_eq_true rfl) (Nat.le_of_ble_eq_true rfl) (Nat.le_of_ble_eq_true rfl) (Nat.le_of_ble_eq_true rfl) ?_
      refine z_st (st' := [zv x_59]) rfl ?_
      rcases if_e H with ⟨h_60, H⟩ | ⟨h_60, H⟩
      · refine z_zne_t (M := M_X11_canBeLaidOver) (tgt := 27) dX11_canBeLaidOver_22 (by decide) h_60 ?_
        exact J_112 (Option.some.inj H).symm
      · refine z_zne_f (M := M_X11_canBeLaidOver) (tgt := 27) dX11_canBeLaidOver_22 (by decide) h_60 ?_
        exact J_111 (Option.some.inj H).symm
  · refine z_icmp_eq_t (M := M_X11_canBeLaidOver) (tgt := 16) dX11_canBeLaidOver_7 (by decide) rfl (by decide +kernel) (Decidable.not_not.mp h_55) ?_
    refine z_aload_n (M := M_X11_canBeLaidOver) dX11_canBeLaidOver_16 rfl ?_
    refine z_ldc (M := M_X11_canBeLaidOver) (n := 500000000) dX11_canBeLaidOver_17 t_1380 (by decide +kernel) ?_
    obtain ⟨x_64, hc_63, H⟩ := bd_e H
    refine z_callV (M := M_X11_canBeLaidOver) (M' := M_X6_liesWithin) (as := [vi 500000000]) (rest := []) rfl rfl dX11_canBeLaidOver_19 m_X6_liesWithin t_1381 t_1382 t_1383 (c_X6_liesWithin hl h_shape hc_63) rfl rfl (ly_S h_shape) rfl (Nat.le_of_ble_eq_true rfl) (Nat.le_of_ble_eq_true rfl) (Nat.le_of_ble_eq_true rfl) (Nat.le_of_ble_eq_true rfl) ?_
    refine z_st (st' := [zv x_64]) rfl ?_
    rcases if_e H with ⟨h_65, H⟩ | ⟨h_65, H⟩
    · refine z_zne_t (M := M_X11_canBeLaidOver) (tgt := 27) dX11_canBeLaidOver_22 (by decide) h_65 ?_
      exact J_112 (Option.some.inj H).symm
    · refine z_zne_f (M := M_X11_canBeLaidOver) (tgt := 27) dX11_canBeLaidOver_22 (by decide) h_65 ?_
      exact J_111 (Option.some.inj H).symm
theorem c_X11_overlay (hl : l.stackTraces = false) {σ : SG} {what_0 : Int} {slot_0 : Int} {other_0 : Int} {to_0 : Int} {r : Int ⊕ Nat} {σ' : SG}  (H : fQ_overlay σ what_0 slot_0 other_0 to_0 = some (r, σ')) : en_S l E M_X11_overlay 9 6 36 [vr 32, vi what_0, vi slot_0, vi other_0, vi to_0] σ (pT (riT r) σ') := by
  unfold fQ_overlay at H
  refine z_mk (lv := [some (vr 32), some (vi what_0), some (vi slot_0), some (vi other_0), some (vi to_0), none, none, none]) m_X11_overlay rfl hl (Nat.le_of_ble_eq_true rfl) rfl ?_
  refine z_aload_n (M := M_X11_overlay) dX11_overlay_0 rfl ?_
  refine z_iload_n (M := M_X11_overlay) dX11_overlay_1 rfl ?_
  obtain ⟨z_77, σ_2, hc_1, K_4, K_5⟩ := bt_e H
  rcases z_77 with x_3 | z_77
  · have H := K_4 _ rfl
    refine z_callV (M := M_X11_overlay) (M' := M_X11_slotNumbered) (as := [vi slot_0]) (rest := []) rfl rfl dX11_overlay_2 m_X11_slotNumbered t_744 t_746 s_2 (v := some (vr x_3)) (c_X11_slotNumbered hl  hc_1) rfl rfl ly_32 rfl (Nat.le_of_ble_eq_true rfl) (Nat.le_of_ble_eq_true rfl) (Nat.le_of_ble_eq_true rfl) (Nat.le_of_ble_eq_true rfl) ?_
    refine z_st (st' := [vr x_3]) rfl ?_
    obtain ⟨hs_6, H⟩ := ck_e H
    refine z_astore (M := M_X11_overlay) (lv' := [some (vr 32), some (vi what_0), some (vi slot_0), some (vi other_0), some (vi to_0), some (vr x_3), none, none]) dX11_overlay_5 (Nat.le_of_ble_eq_true rfl) rfl rfl ?_
    refine z_aload_n (M := M_X11_overlay) dX11_overlay_7 rfl ?_
    refine z_iload_n (M := M_X11_overlay) dX11_overlay_8 rfl ?_
    obtain ⟨z_76, σ_8, hc_7, K_10, K_11⟩ := bt_e H
    rcases z_76 with x_9 | z_76
    · have H := K_10 _ rfl
      refine z_callV (M := M_X11_overlay) (M' := M_X11_slotNumbered) (as := [vi other_0]) (rest := []) rfl rfl dX11_overlay_9 m_X11_slotNumbered t_744 t_746 s_2 (v := some (vr x_9)) (c_X11_slotNumbered hl  hc_7) rfl rfl ly_32 rfl (Nat.le_of_ble_eq_true rfl) (Nat.le_of_ble_eq_true rfl) (Nat.le_of_ble_eq_true rfl) (Nat.le_of_ble_eq_true rfl) ?_
      refine z_st (st' := [vr x_9]) rfl ?_
      obtain ⟨hs_12, H⟩ := ck_e H
      refine z_astore (M := M_X11_overlay) (lv' := [some (vr 32), some (vi what_0), some (vi slot_0), some (vi other_0), some (vi to_0), some (vr x_3), some (vr x_9), none]) dX11_overlay_12 (Nat.le_of_ble_eq_true rfl) rfl rfl ?_
      refine z_aload_n (M := M_X11_overlay) dX11_overlay_14 rfl ?_
      refine z_iload (M := M_X11_overlay) dX11_overlay_15 rfl ?_
      obtain ⟨z_75, σ_14, hc_13, K_16, K_17⟩ := bt_e H
      rcases z_75 with x_15 | z_75
      · have H := K_16 _ rfl
        refine z_callV (M := M_X11_overlay) (M' := M_X11_slotNumbered) (as := [vi to_0]) (rest := []) rfl rfl dX11_overlay_17 m_X11_slotNumbered t_744 t_746 s_2 (v := some (vr x_15)) (c_X11_slotNumbered hl  hc_13) rfl rfl ly_32 rfl (Nat.le_of_ble_eq_true rfl) (Nat.le_of_ble_eq_true rfl) (Nat.le_of_ble_eq_true rfl) (Nat.le_of_ble_eq_true rfl) ?_
        refine z_st (st' := [vr x_15]) rfl ?_
        obtain ⟨hs_18, H⟩ := ck_e H
        refine z_astore (M := M_X11_overlay) (lv' := [some (vr 32), some (vi what_0), some (vi slot_0), some (vi other_0), some (vi to_0), some (vr x_3), some (vr x_9), some (vr x_15)]) dX11_overlay_20 (Nat.le_of_ble_eq_true rfl) rfl rfl ?_
        refine z_aload (M := M_X11_overlay) dX11_overlay_22 rfl ?_
        obtain ⟨z_74, σ_20, hc_19, K_22, K_23⟩ := bt_e H
        rcases z_74 with x_21 | z_74
        · have H := K_22 _ rfl
          refine z_callS (M := M_X11_overlay) (M' := M_X11_mustBeThere) (as := [vr x_3]) (rest := []) rfl rfl dX11_overlay_24 m_X11_mustBeThere t_1047 t_1048 (v := none) (c_X11_mustBeThere hl hs_6 hc_19) rfl rfl (Nat.le_of_ble_eq_true rfl) (Nat.le_of_ble_eq_true rfl) (Nat.le_of_ble_eq_true rfl) (Nat.le_of_ble_eq_true rfl) ?_
          refine z_st (st' := []) rfl ?_
          refine z_aload (M := M_X11_overlay) dX11_overlay_27 rfl ?_
          obtain ⟨z_73, σ_25, hc_24, K_27, K_28⟩ := bt_e H
          rcases z_73 with x_26 | z_73
          · have H := K_27 _ rfl
            refine z_callS (M := M_X11_overlay) (M' := M_X11_mustBeThere) (as := [vr x_9]) (rest := []) rfl rfl dX11_overlay_29 m_X11_mustBeThere t_1047 t_1048 (v := none) (c_X11_mustBeThere hl hs_12 hc_24) rfl rfl (Nat.le_of_ble_eq_true rfl) (Nat.le_of_ble_eq_true rfl) (Nat.le_of_ble_eq_true rfl) (Nat.le_of_ble_eq_true rfl) ?_
            refine z_st (st' := []) rfl ?_
            refine z_iload_n (M := M_X11_overlay) dX11_overlay_32 rfl ?_
            rcases if_e H with ⟨h_42, H⟩ | ⟨h_42, H⟩
            · refine z_if_lt_t (M := M_X11_overlay) (tgt := 57) dX11_overlay_33 (by decide) rfl h_42 ?_
              cases H
              exact z_throw (M := M_X11_overlay) (names := en_nm) rfl dX11_overlay_57 dX11_overlay_60 dX11_overlay_61 dX11_overlay_64 (by decide +kernel) en_nm_ok (Or.inl t_721) (Or.inl t_19) at_X11_IllegalArgumentException_118 (Nat.le_of_ble_eq_true rfl) (Nat.le_of_ble_eq_true rfl) (Nat.le_of_ble_eq_true rfl) (Nat.le_of_ble_eq_true rfl) ⟨rfl, rfl⟩
            · refine z_if_lt_f (M := M_X11_overlay) (tgt := 57) dX11_overlay_33 (by decide) rfl (Int.not_lt.mp h_42) ?_
              refine z_iload_n (M := M_X11_overlay) dX11_overlay_36 rfl ?_
              refine z_iconst (M := M_X11_overlay) dX11_overlay_37 ?_
              rcases if_e H with ⟨h_43, H⟩ | ⟨h_43, H⟩
              · refine z_icmp_ge_t (M := M_X11_overlay) (tgt := 57) dX11_overlay_38 (by decide) rfl (by decide +kernel) h_43 ?_
                cases H
                exact z_throw (M := M_X11_overlay) (names := en_nm) rfl dX11_overlay_57 dX11_overlay_60 dX11_overlay_61 dX11_overlay_64 (by decide +kernel) en_nm_ok (Or.inl t_721) (Or.inl t_19) at_X11_IllegalArgumentException_118 (Nat.le_of_ble_eq_true rfl) (Nat.le_of_ble_eq_true rfl) (Nat.le_of_ble_eq_true rfl) (Nat.le_of_ble_eq_true rfl) ⟨rfl, rfl⟩
              · refine z_icmp_ge_f (M := M_X11_overlay) (tgt := 57) dX11_overlay_38 (by decide) rfl (by decide +kernel) (Int.not_le.mp h_43) ?_
                refine z_aload (M := M_X11_overlay) dX11_overlay_41 rfl ?_
                obtain ⟨x_45, hc_44, H⟩ := bd_e H
                refine z_callS (M := M_X11_overlay) (M' := M_X11_canBeLaidOver) (as := [vr x_3]) (rest := []) rfl rfl dX11_overlay_43 m_X11_canBeLaidOver t_1377 t_1378 (c_X11_canBeLaidOver hl hs_6 hc_44) rfl rfl (Nat.le_of_ble_eq_true rfl) (Nat.le_of_ble_eq_true rfl) (Nat.le_of_ble_eq_true rfl) (Nat.le_of_ble_eq_true rfl) ?_
                refine z_st (st' := [zv x_45]) rfl ?_
                rcases if_e H with ⟨h_46, H⟩ | ⟨h_46, H⟩
                · refine z_zeq_f (M := M_X11_overlay) (tgt := 57) dX11_overlay_46 (by decide) h_46 ?_
                  refine z_aload (M := M_X11_overlay) dX11_overlay_49 rfl ?_
                  obtain ⟨x_48, hc_47, H⟩ := bd_e H
                  refine z_callS (M := M_X11_overlay) (M' := M_X11_canBeLaidOver) (as := [vr x_9]) (rest := []) rfl rfl dX11_overlay_51 m_X11_canBeLaidOver t_1377 t_1378 (c_X11_canBeLaidOver hl hs_12 hc_47) rfl rfl (Nat.le_of_ble_eq_true rfl) (Nat.le_of_ble_eq_true rfl) (Nat.le_of_ble_eq_true rfl) (Nat.le_of_ble_eq_true rfl) ?_
                  refine z_st (st' := [zv x_48]) rfl ?_
                  rcases if_e H with ⟨h_49, H⟩ | ⟨h_49, H⟩
                  · refine z_zne_t (M := M_X11_overlay) (tgt := 65) dX11_overlay_54 (by decide) h_49 ?_
                    refine z_aload_n (M := M_X11_overlay) dX11_overlay_65 rfl ?_
                    refine z_getR (M := M_X11_overlay) (ci := 14) (C := RX11) (T := TX11) (Nf := 19) (ty := tyX11) cl14 dX11_overlay_66 ly_32 10 (by decide) t_573 rfl ?_
                    refine z_aload (M := M_X11_overlay) dX11_overlay_69 rfl ?_
                    refine z_aload (M := M_X11_overlay) dX11_overlay_71 rfl ?_
                    obtain ⟨⟨x_63, σ_62⟩, hc_61, H⟩ := bd_e H
                    refine z_callV (M := M_X11_overlay) (M' := M_X8_snap) (as := [vr x_3, vr x_9]) (rest := []) rfl rfl dX11_overlay_73 m_X8_snap t_1392 t_1393 t_1394 (c_X8_snap hl hs_6 hs_12 hc_61) rfl rfl ly_193 rfl (Nat.le_of_ble_eq_true rfl) (Nat.le_of_ble_eq_true rfl) (Nat.le_of_ble_eq_true rfl) (Nat.le_of_ble_eq_true rfl) ?_
                    refine z_st (st' := [zv x_63]) rfl ?_
                    rcases if_e H with ⟨h_64, H⟩ | ⟨h_64, H⟩
                    · refine z_zeq_f (M := M_X11_overlay) (tgt := 94) dX11_overlay_76 (by decide) h_64 ?_
                      refine z_aload_n (M := M_X11_overlay) dX11_overlay_79 rfl ?_
                      refine z_getR (M := M_X11_overlay) (ci := 14) (C := RX11) (T := TX11) (Nf := 19) (ty := tyX11) cl14 dX11_overlay_80 ly_32 11 (by decide) t_574 rfl ?_
                      refine z_iload_n (M := M_X11_overlay) dX11_overlay_83 rfl ?_
                      refine z_aload_n (M := M_X11_overlay) dX11_overlay_84 rfl ?_
                      refine z_getR (M := M_X11_overlay) (ci := 14) (C := RX11) (T := TX11) (Nf := 19) (ty := tyX11) cl14 dX11_overlay_85 ly_32 1 (by decide) t_564 rfl ?_
                      obtain ⟨⟨x_67, σ_66⟩, hc_65, H⟩ := bd_e H
                      refine z_callV (M := M_X11_overlay) (M' := M_X4_make) (as := [vi what_0, vr 162]) (rest := []) rfl rfl dX11_overlay_88 m_X4_make t_1488 t_1489 t_1490 (c_X4_make hl (by decide) hc_65) rfl rfl ly_208 rfl (Nat.le_of_ble_eq_true rfl) (Nat.le_of_ble_eq_true rfl) (Nat.le_of_ble_eq_true rfl) (Nat.le_of_ble_eq_true rfl) ?_
                      refine z_st (st' := [zv x_67]) rfl ?_
                      rcases if_e H with ⟨h_68, H⟩ | ⟨h_68, H⟩
                      · refine z_zne_t (M := M_X11_overlay) (tgt := 102) dX11_overlay_91 (by decide) h_68 ?_
                        refine z_aload (M := M_X11_overlay) dX11_overlay_102 rfl ?_
                        refine z_aload_n (M := M_X11_overlay) dX11_overlay_104 rfl ?_
                        refine z_getR (M := M_X11_overlay) (ci := 14) (C := RX11) (T := TX11) (Nf := 19) (ty := tyX11) cl14 dX11_overlay_105 ly_32 1 (by decide) t_564 rfl ?_
                        obtain ⟨σ_70, hc_69, H⟩ := bd_e H
                        refine z_callV (M := M_X11_overlay) (M' := M_X6_become) (as := [vr 162]) (rest := []) rfl rfl dX11_overlay_108 m_X6_become t_1150 t_1151 t_1152 (c_X6_become hl hs_18 (by decide) hc_69) rfl rfl (ly_S hs_18) rfl (Nat.le_of_ble_eq_true rfl) (Nat.le_of_ble_eq_true rfl) (Nat.le_of_ble_eq_true rfl) (Nat.le_of_ble_eq_true rfl) ?_
                        refine z_st (st' := []) rfl ?_
                        refine z_aload (M := M_X11_overlay) dX11_overlay_111 rfl ?_
                        refine z_getR (M := M_X11_overlay) (ci := 9) (C := RX6) (T := TX6) (Nf := 5) (ty := tyX6) cl9 dX11_overlay_113 (ly_S hs_18) 0 (by decide) t_55 rfl ?_
                        refine z_iconst (M := M_X11_overlay) dX11_overlay_116 ?_
                        obtain ⟨x_71, x_71_e, hi_72, H⟩ := rd_e H
                        refine z_iald (M := M_X11_overlay) dX11_overlay_117 (ly_Sp hs_18) rfl (by decide +kernel) rfl hi_72 x_71_e ?_
                        cases H
                        exact z_iret (M := M_X11_overlay) dX11_overlay_118 rfl (Nat.le_of_ble_eq_true rfl) (Nat.le_of_ble_eq_true rfl) ⟨rfl, rfl⟩
                      · refine z_zne_f (M := M_X11_overlay) (tgt := 102) dX11_overlay_91 (by decide) h_68 ?_
                        cases H
                        exact z_throw (M := M_X11_overlay) (names := en_nm) rfl dX11_overlay_94 dX11_overlay_97 dX11_overlay_98 dX11_overlay_101 (by decide +kernel) en_nm_ok (Or.inl t_1857) (Or.inl t_34) at_X11_UnsupportedOperationException_234 (Nat.le_of_ble_eq_true rfl) (Nat.le_of_ble_eq_true rfl) (Nat.le_of_ble_eq_true rfl) (Nat.le_of_ble_eq_true rfl) ⟨rfl, rfl⟩
                    · refine z_zeq_t (M := M_X11_overlay) (tgt := 94) dX11_overlay_76 (by decide) h_64 ?_
                      cases H
                      exact z_throw (M := M_X11_overlay) (names := en_nm) rfl dX11_overlay_94 dX11_overlay_97 dX11_overlay_98 dX11_overlay_101 (by decide +kernel) en_nm_ok (Or.inl t_1857) (Or.inl t_34) at_X11_UnsupportedOperationException_234 (Nat.le_of_ble_eq_true rfl) (Nat.le_of_ble_eq_true rfl) (Nat.le_of_ble_eq_true rfl) (Nat.le_of_ble_eq_true rfl) ⟨rfl, rfl⟩
                  · refine z_zne_f (M := M_X11_overlay) (tgt := 65) dX11_overlay_54 (by decide) h_49 ?_
                    cases H
                    exact z_throw (M := M_X11_overlay) (names := en_nm) rfl dX11_overlay_57 dX11_overlay_60 dX11_overlay_61 dX11_overlay_64 (by decide +kernel) en_nm_ok (Or.inl t_721) (Or.inl t_19) at_X11_IllegalArgumentException_118 (Nat.le_of_ble_eq_true rfl) (Nat.le_of_ble_eq_true rfl) (Nat.le_of_ble_eq_true rfl) (Nat.le_of_ble_eq_true rfl) ⟨rfl, rfl⟩
                · refine z_zeq_t (M := M_X11_overlay) (tgt := 57) dX11_overlay_46 (by decide) h_46 ?_
                  cases H
                  exact z_throw (M := M_X11_overlay) (names := en_nm) rfl dX11_overlay_57 dX11_overlay_60 dX11_overlay_61 dX11_overlay_64 (by decide +kernel) en_nm_ok (Or.inl t_721) (Or.inl t_19) at_X11_IllegalArgumentException_118 (Nat.le_of_ble_eq_true rfl) (Nat.le_of_ble_eq_true rfl) (Nat.le_of_ble_eq_true rfl) (Nat.le_of_ble_eq_true rfl) ⟨rfl, rfl⟩
          · have H := K_28 _ rfl
            cases H
            exact z_callSX (M := M_X11_overlay) (M' := M_X11_mustBeThere) (as := [vr x_9]) (rest := []) rfl rfl dX11_overlay_29 m_X11_mustBeThere t_1047 t_1048 (e := z_73) (c_X11_mustBeThere hl hs_12 hc_24) rfl rfl (Nat.le_of_ble_eq_true rfl) (Nat.le_of_ble_eq_true rfl) (Nat.le_of_ble_eq_true rfl) (Nat.le_of_ble_eq_true rfl) ⟨rfl, rfl⟩
        · have H := K_23 _ rfl
          cases H
          exact z_callSX (M := M_X11_overlay) (M' := M_X11_mustBeThere) (as := [vr x_3]) (rest := []) rfl rfl dX11_overlay_24 m_X11_mustBeThere t_1047 t_1048 (e := z_74) (c_X11_mustBeThere hl hs_6 hc_19) rfl rfl (Nat.le_of_ble_eq_true rfl) (Nat.le_of_ble_eq_true rfl) (Nat.le_of_ble_eq_true rfl) (Nat.le_of_ble_eq_true rfl) ⟨rfl, rfl⟩
      · have H := K_17 _ rfl
        cases H
        exact z_callVX (M := M_X11_overlay) (M' := M_X11_slotNumbered) (as := [vi to_0]) (rest := []) rfl rfl dX11_overlay_17 m_X11_slotNumbered t_744 t_746 s_2 (e := z_75) (c_X11_slotNumbered hl  hc_13) rfl rfl ly_32 rfl (Nat.le_of_ble_eq_true rfl) (Nat.le_of_ble_eq_true rfl) (Nat.le_of_ble_eq_true rfl) (Nat.le_of_ble_eq_true rfl) ⟨rfl, rfl⟩
    · have H := K_11 _ rfl
      cases H
      exact z_callVX (M := M_X11_overlay) (M' := M_X11_slotNumbered) (as := [vi other_0]) (rest := []) rfl rfl dX11_overlay_9 m_X11_slotNumbered t_744 t_746 s_2 (e := z_76) (c_X11_slotNumbered hl  hc_7) rfl rfl ly_32 rfl (Nat.le_of_ble_eq_true rfl) (Nat.le_of_ble_eq_true rfl) (Nat.le_of_ble_eq_true rfl) (Nat.le_of_ble_eq_true rfl) ⟨rfl, rfl⟩
  · have H := K_5 _ rfl
    cases H
    exact z_callVX (M := M_X11_overlay) (M' := M_X11_slotNumbered) (as := [vi slot_0]) (rest := []) rfl rfl dX11_overlay_2 m_X11_slotNumbered t_744 t_746 s_2 (e := z_77) (c_X11_slotNumbered hl  hc_1) rfl rfl ly_32 rfl (Nat.le_of_ble_eq_true rfl) (Nat.le_of_ble_eq_true rfl) (Nat.le_of_ble_eq_true rfl) (Nat.le_of_ble_eq_true rfl) ⟨rfl, rfl⟩
theorem c_X11_canBeRelated (hl : l.stackTraces = false) {σ : SG} {shape_0 : Nat} {r : Bool} (h_shape : isS shape_0) (H : fQ_canBeRelated σ shape_0 = some r) : en_S l E M_X11_canBeRelated 3 0 0 [vr shape_0] σ (pS (some (zv r)) σ) := by
  unfold fQ_canBeRelated at H
  refine z_mk (lv := [some (vr shape_0)]) m_X11_canBeRelated rfl hl (Nat.le_of_ble_eq_true rfl) rfl ?_
  obtain ⟨v_11, he_12, hk_13⟩ := bd_e H
  have J_14 : ∀ x_10, v_11 = x_10 → YY l E M_X11_canBeRelated 3 0 0 (pS (some (zv r)) σ) 23 [some (vr shape_0)] [zv x_10] σ 0 0 := by
    intro x_10 e
    have H := hk_13
    rw [e] at H
    cases H
    exact z_zret (M := M_X11_canBeRelated) dX11_canBeRelated_23 rfl (Nat.le_of_ble_eq_true rfl) (Nat.le_of_ble_eq_true rfl) ⟨rfl, rfl⟩
  have H := he_12
  refine z_aload_n (M := M_X11_canBeRelated) dX11_canBeRelated_0 rfl ?_
  obtain ⟨x_2, hc_1, H⟩ := bd_e H
  refine z_callV (M := M_X11_canBeRelated) (M' := M_X6_kind) (as := []) (rest := []) rfl rfl dX11_canBeRelated_1 m_X6_kind t_950 t_951 t_952 (c_X6_kind hl h_shape hc_1) rfl rfl (ly_S h_shape) rfl (Nat.le_of_ble_eq_true rfl) (Nat.le_of_ble_eq_true rfl) (Nat.le_of_ble_eq_true rfl) (Nat.le_of_ble_eq_true rfl) ?_
  refine z_st (st' := [vi x_2]) rfl ?_
  refine z_bipush (M := M_X11_canBeRelated) dX11_canBeRelated_4 (by decide +kernel) ?_
  rcases if_e H with ⟨h_3, H⟩ | ⟨h_3, H⟩
  · refine z_icmp_eq_f (M := M_X11_canBeRelated) (tgt := 22) dX11_canBeRelated_6 (by decide) rfl (by decide +kernel) h_3 ?_
    refine z_aload_n (M := M_X11_canBeRelated) dX11_canBeRelated_9 rfl ?_
    refine z_ldc (M := M_X11_canBeRelated) (n := 500000000) dX11_canBeRelated_10 t_1380 (by decide +kernel) ?_
    obtain ⟨x_5, hc_4, H⟩ := bd_e H
    refine z_callV (M := M_X11_canBeRelated) (M' := M_X6_liesWithin) (as := [vi 500000000]) (rest := []) rfl rfl dX11_canBeRelated_12 m_X6_liesWithin t_1381 t_1382 t_1383 (c_X6_liesWithin hl h_shape hc_4) rfl rfl (ly_S h_shape) rfl (Nat.le_of_ble_eq_true rfl) (Nat.le_of_ble_eq_true rfl) (Nat.le_of_ble_eq_true rfl) (Nat.le_of_ble_eq_true rfl) ?_
    refine z_st (st' := [zv x_5]) rfl ?_
    rcases if_e H with ⟨h_6, H⟩ | ⟨h_6, H⟩
    · refine z_zeq_f (M := M_X11_canBeRelated) (tgt := 22) dX11_canBeRelated_15 (by decide) h_6 ?_
      refine z_zconst (M := M_X11_canBeRelated) (b := true) dX11_canBeRelated_18 rfl ?_
      refine z_goto (M := M_X11_canBeRelated) (tgt := 23) dX11_canBeRelated_19 (by decide) ?_
      exact J_14 _ (Option.some.inj H).symm
    · refine z_zeq_t (M := M_X11_canBeRelated) (tgt := 22) dX11_canBeRelated_15 (by decide) h_6 ?_
      refine z_zconst (M := M_X11_canBeRelated) (b := false) dX11_canBeRelated_22 rfl ?_
      exact J_14 _ (Option.some.inj H).symm
  · refine z_icmp_eq_t (M := M_X11_canBeRelated) (tgt := 22) dX11_canBeRelated_6 (by decide) rfl (by decide +kernel) (Decidable.not_not.mp h_3) ?_
    refine z_zconst (M := M_X11_canBeRelated) (b := false) dX11_canBeRelated_22 rfl ?_
    exact J_14 _ (Option.some.inj H).symm
theorem c_X11_mustBeRelatable (hl : l.stackTraces = false) {σ : SG} {what_0 : Int} {slot_0 : Int} {other_0 : Int} {r : Unit ⊕ Nat} {σ' : SG}  (H : fQ_mustBeRelatable σ what_0 slot_0 other_0 = some (r, σ')) : en_S l E M_X11_mustBeRelatable 7 5 30 [vr 32, vi what_0, vi slot_0, vi other_0] σ (pT (ruT r) σ') := by
  unfold fQ_mustBeRelatable at H
  refine z_mk (lv := [some (vr 32), some (vi what_0), some (vi slot_0), some (vi other_0), none, none]) m_X11_mustBeRelatable rfl hl (Nat.le_of_ble_eq_true rfl) rfl ?_
  refine z_aload_n (M := M_X11_mustBeRelatable) dX11_mustBeRelatable_0 rfl ?_
  refine z_iload_n (M := M_X11_mustBeRelatable) dX11_mustBeRelatable_1 rfl ?_
  obtain ⟨z_47, σ_2, hc_1, K_4, K_5⟩ := bt_e H
  rcases z_47 with x_3 | z_47
  · have H := K_4 _ rfl
    refine z_callV (M := M_X11_mustBeRelatable) (M' := M_X11_slotNumbered) (as := [vi slot_0]) (rest := []) rfl rfl dX11_mustBeRelatable_2 m_X11_slotNumbered t_744 t_746 s_2 (v := some (vr x_3)) (c_X11_slotNumbered hl  hc_1) rfl rfl ly_32 rfl (Nat.le_of_ble_eq_true rfl) (Nat.le_of_ble_eq_true rfl) (Nat.le_of_ble_eq_true rfl) (Nat.le_of_ble_eq_true rfl) ?_
    refine z_st (st' := [vr x_3]) rfl ?_
    obtain ⟨hs_6, H⟩ := ck_e H
    refine z_astore (M := M_X11_mustBeRelatable) (lv' := [some (vr 32), some (vi what_0), some (vi slot_0), some (vi other_0), some (vr x_3), none]) dX11_mustBeRelatable_5 (Nat.le_of_ble_eq_true rfl) rfl rfl ?_
    refine z_aload_n (M := M_X11_mustBeRelatable) dX11_mustBeRelatable_7 rfl ?_
    refine z_iload_n (M := M_X11_mustBeRelatable) dX11_mustBeRelatable_8 rfl ?_
    obtain ⟨z_46, σ_8, hc_7, K_10, K_11⟩ := bt_e H
    rcases z_46 with x_9 | z_46
    · have H := K_10 _ rfl
      refine z_callV (M := M_X11_mustBeRelatable) (M' := M_X11_slotNumbered) (as := [vi other_0]) (rest := []) rfl rfl dX11_mustBeRelatable_9 m_X11_slotNumbered t_744 t_746 s_2 (v := some (vr x_9)) (c_X11_slotNumbered hl  hc_7) rfl rfl ly_32 rfl (Nat.le_of_ble_eq_true rfl) (Nat.le_of_ble_eq_true rfl) (Nat.le_of_ble_eq_true rfl) (Nat.le_of_ble_eq_true rfl) ?_
      refine z_st (st' := [vr x_9]) rfl ?_
      obtain ⟨hs_12, H⟩ := ck_e H
      refine z_astore (M := M_X11_mustBeRelatable) (lv' := [some (vr 32), some (vi what_0), some (vi slot_0), some (vi other_0), some (vr x_3), some (vr x_9)]) dX11_mustBeRelatable_12 (Nat.le_of_ble_eq_true rfl) rfl rfl ?_
      refine z_aload (M := M_X11_mustBeRelatable) dX11_mustBeRelatable_14 rfl ?_
      obtain ⟨z_45, σ_14, hc_13, K_16, K_17⟩ := bt_e H
      rcases z_45 with x_15 | z_45
      · have H := K_16 _ rfl
        refine z_callS (M := M_X11_mustBeRelatable) (M' := M_X11_mustBeThere) (as := [vr x_3]) (rest := []) rfl rfl dX11_mustBeRelatable_16 m_X11_mustBeThere t_1047 t_1048 (v := none) (c_X11_mustBeThere hl hs_6 hc_13) rfl rfl (Nat.le_of_ble_eq_true rfl) (Nat.le_of_ble_eq_true rfl) (Nat.le_of_ble_eq_true rfl) (Nat.le_of_ble_eq_true rfl) ?_
        refine z_st (st' := []) rfl ?_
        refine z_aload (M := M_X11_mustBeRelatable) dX11_mustBeRelatable_19 rfl ?_
        obtain ⟨z_44, σ_19, hc_18, K_21, K_22⟩ := bt_e H
        rcases z_44 with x_20 | z_44
        · have H := K_21 _ rfl
          refine z_callS (M := M_X11_mustBeRelatable) (M' := M_X11_mustBeThere) (as := [vr x_9]) (rest := []) rfl rfl dX11_mustBeRelatable_21 m_X11_mustBeThere t_1047 t_1048 (v := none) (c_X11_mustBeThere hl hs_12 hc_18) rfl rfl (Nat.le_of_ble_eq_true rfl) (Nat.le_of_ble_eq_true rfl) (Nat.le_of_ble_eq_true rfl) (Nat.le_of_ble_eq_true rfl) ?_
          refine z_st (st' := []) rfl ?_
          refine z_iload_n (M := M_X11_mustBeRelatable) dX11_mustBeRelatable_24 rfl ?_
          rcases if_e H with ⟨h_36, H⟩ | ⟨h_36, H⟩
          · refine z_if_lt_t (M := M_X11_mustBeRelatable) (tgt := 50) dX11_mustBeRelatable_25 (by decide) rfl h_36 ?_
            cases H
            exact z_throw (M := M_X11_mustBeRelatable) (names := en_nm) rfl dX11_mustBeRelatable_50 dX11_mustBeRelatable_53 dX11_mustBeRelatable_54 dX11_mustBeRelatable_57 (by decide +kernel) en_nm_ok (Or.inl t_721) (Or.inl t_19) at_X11_IllegalArgumentException_118 (Nat.le_of_ble_eq_true rfl) (Nat.le_of_ble_eq_true rfl) (Nat.le_of_ble_eq_true rfl) (Nat.le_of_ble_eq_true rfl) ⟨rfl, rfl⟩
          · refine z_if_lt_f (M := M_X11_mustBeRelatable) (tgt := 50) dX11_mustBeRelatable_25 (by decide) rfl (Int.not_lt.mp h_36) ?_
            refine z_iload_n (M := M_X11_mustBeRelatable) dX11_mustBeRelatable_28 rfl ?_
            refine z_bipush (M := M_X11_mustBeRelatable) dX11_mustBeRelatable_29 (by decide +kernel) ?_
            rcases if_e H with ⟨h_37, H⟩ | ⟨h_37, H⟩
            · refine z_icmp_ge_t (M := M_X11_mustBeRelatable) (tgt := 50) dX11_mustBeRelatable_31 (by decide) rfl (by decide +kernel) h_37 ?_
              cases H
              exact z_throw (M := M_X11_mustBeRelatable) (names := en_nm) rfl dX11_mustBeRelatable_50 dX11_mustBeRelatable_53 dX11_mustBeRelatable_54 dX11_mustBeRelatable_57 (by decide +kernel) en_nm_ok (Or.inl t_721) (Or.inl t_19) at_X11_IllegalArgumentException_118 (Nat.le_of_ble_eq_true rfl) (Nat.le_of_ble_eq_true rfl) (Nat.le_of_ble_eq_true rfl) (Nat.le_of_ble_eq_true rfl) ⟨rfl, rfl⟩
            · refine z_icmp_ge_f (M := M_X11_mustBeRelatable) (tgt := 50) dX11_mustBeRelatable_31 (by decide) rfl (by decide +kernel) (Int.not_le.mp h_37) ?_
              refine z_aload (M := M_X11_mustBeRelatable) dX11_mustBeRelatable_34 rfl ?_
              obtain ⟨x_39, hc_38, H⟩ := bd_e H
              refine z_callS (M := M_X11_mustBeRelatable) (M' := M_X11_canBeRelated) (as := [vr x_3]) (rest := []) rfl rfl dX11_mustBeRelatable_36 m_X11_canBeRelated t_1883 t_1884 (c_X11_canBeRelated hl hs_6 hc_38) rfl rfl (Nat.le_of_ble_eq_true rfl) (Nat.le_of_ble_eq_true rfl) (Nat.le_of_ble_eq_true rfl) (Nat.le_of_ble_eq_true rfl) ?_
              refine z_st (st' := [zv x_39]) rfl ?_
              rcases if_e H with ⟨h_40, H⟩ | ⟨h_40, H⟩
              · refine z_zeq_f (M := M_X11_mustBeRelatable) (tgt := 50) dX11_mustBeRelatable_39 (by decide) h_40 ?_
                refine z_aload (M := M_X11_mustBeRelatable) dX11_mustBeRelatable_42 rfl ?_
                obtain ⟨x_42, hc_41, H⟩ := bd_e H
                refine z_callS (M := M_X11_mustBeRelatable) (M' := M_X11_canBeRelated) (as := [vr x_9]) (rest := []) rfl rfl dX11_mustBeRelatable_44 m_X11_canBeRelated t_1883 t_1884 (c_X11_canBeRelated hl hs_12 hc_41) rfl rfl (Nat.le_of_ble_eq_true rfl) (Nat.le_of_ble_eq_true rfl) (Nat.le_of_ble_eq_true rfl) (Nat.le_of_ble_eq_true rfl) ?_
                refine z_st (st' := [zv x_42]) rfl ?_
                rcases if_e H with ⟨h_43, H⟩ | ⟨h_43, H⟩
                · refine z_zne_t (M := M_X11_mustBeRelatable) (tgt := 58) dX11_mustBeRelatable_47 (by decide) h_43 ?_
                  cases H
                  exact z_vret (M := M_X11_mustBeRelatable) dX11_mustBeRelatable_58 rfl (Nat.le_of_ble_eq_true rfl) (Nat.le_of_ble_eq_true rfl) ⟨rfl, rfl⟩
                · refine z_zne_f (M := M_X11_mustBeRelatable) (tgt := 58) dX11_mustBeRelatable_47 (by decide) h_43 ?_
                  cases H
                  exact z_throw (M := M_X11_mustBeRelatable) (names := en_nm) rfl dX11_mustBeRelatable_50 dX11_mustBeRelatable_53 dX11_mustBeRelatable_54 dX11_mustBeRelatable_57 (by decide +kernel) en_nm_ok (Or.inl t_721) (Or.inl t_19) at_X11_IllegalArgumentException_118 (Nat.le_of_ble_eq_true rfl) (Nat.le_of_ble_eq_true rfl) (Nat.le_of_ble_eq_true rfl) (Nat.le_of_ble_eq_true rfl) ⟨rfl, rfl⟩
              · refine z_zeq_t (M := M_X11_mustBeRelatable) (tgt := 50) dX11_mustBeRelatable_39 (by decide) h_40 ?_
                cases H
                exact z_throw (M := M_X11_mustBeRelatable) (names := en_nm) rfl dX11_mustBeRelatable_50 dX11_mustBeRelatable_53 dX11_mustBeRelatable_54 dX11_mustBeRelatable_57 (by decide +kernel) en_nm_ok (Or.inl t_721) (Or.inl t_19) at_X11_IllegalArgumentException_118 (Nat.le_of_ble_eq_true rfl) (Nat.le_of_ble_eq_true rfl) (Nat.le_of_ble_eq_true rfl) (Nat.le_of_ble_eq_true rfl) ⟨rfl, rfl⟩
        · have H := K_22 _ rfl
          cases H
          exact z_callSX (M := M_X11_mustBeRelatable) (M' := M_X11_mustBeThere) (as := [vr x_9]) (rest := []) rfl rfl dX11_mustBeRelatable_21 m_X11_mustBeThere t_1047 t_1048 (e := z_44) (c_X11_mustBeThere hl hs_12 hc_18) rfl rfl (Nat.le_of_ble_eq_true rfl) (Nat.le_of_ble_eq_true rfl) (Nat.le_of_ble_eq_true rfl) (Nat.le_of_ble_eq_true rfl) ⟨rfl, rfl⟩
      · have H := K_17 _ rfl
        cases H
        exact z_callSX (M := M_X11_mustBeRelatable) (M' := M_X11_mustBeThere) (as := [vr x_3]) (rest := []) rfl rfl dX11_mustBeRelatable_16 m_X11_mustBeThere t_1047 t_1048 (e := z_45) (c_X11_mustBeThere hl hs_6 hc_13) rfl rfl (Nat.le_of_ble_eq_true rfl) (Nat.le_of_ble_eq_true rfl) (Nat.le_of_ble_eq_true rfl) (Nat.le_of_ble_eq_true rfl) ⟨rfl, rfl⟩
    · have H := K_11 _ rfl
      cases H
      exact z_callVX (M := M_X11_mustBeRelatable) (M' := M_X11_slotNumbered) (as := [vi other_0]) (rest := []) rfl rfl dX11_mustBeRelatable_9 m_X11_slotNumbered t_744 t_746 s_2 (e := z_46) (c_X11_slotNumbered hl  hc_7) rfl rfl ly_32 rfl (Nat.le_of_ble_eq_true rfl) (Nat.le_of_ble_eq_true rfl) (Nat.le_of_ble_eq_true rfl) (Nat.le_of_ble_eq_true rfl) ⟨rfl, rfl⟩
  · have H := K_5 _ rfl
    cases H
    exact z_callVX (M := M_X11_mustBeRelatable) (M' := M_X11_slotNumbered) (as := [vi slot_0]) (rest := []) rfl rfl dX11_mustBeRelatable_2 m_X11_slotNumbered t_744 t_746 s_2 (e := z_47) (c_X11_slotNumbered hl  hc_1) rfl rfl ly_32 rfl (Nat.le_of_ble_eq_true rfl) (Nat.le_of_ble_eq_true rfl) (Nat.le_of_ble_eq_true rfl) (Nat.le_of_ble_eq_true rfl) ⟨rfl, rfl⟩
theorem c_X3_isOfPoints (hl : l.stackTraces = false) {σ : SG} {shape_0 : Nat} {r : Bool} (h_shape : isS shape_0) (H : fT_isOfPoints σ shape_0 = some r) : en_S l E M_X3_isOfPoints 2 0 0 [vr shape_0] σ (pS (some (zv r)) σ) := by
  unfold fT_isOfPoints at H
  refine z_mk (lv := [some (vr shape_0)]) m_X3_isOfPoints rfl hl (Nat.le_of_ble_eq_true rfl) rfl ?_
  obtain ⟨v_11, he_12, hk_13⟩ := bd_e H
  have J_14 : ∀ x_10, v_11 = x_10 → YY l E M_X3_isOfPoints 2 0 0 (pS (some (zv r)) σ) 21 [some (vr shape_0)] [zv x_10] σ 0 0 := by
    intro x_10 e
    have H := hk_13
    rw [e] at H
    cases H
    exact z_zret (M := M_X3_isOfPoints) dX3_isOfPoints_21 rfl (Nat.le_of_ble_eq_true rfl) (Nat.le_of_ble_eq_true rfl) ⟨rfl, rfl⟩
  have H := he_12
  refine z_aload_n (M := M_X3_isOfPoints) dX3_isOfPoints_0 rfl ?_
  obtain ⟨x_2, hc_1, H⟩ := bd_e H
  refine z_callV (M := M_X3_isOfPoints) (M' := M_X6_kind) (as := []) (rest := []) rfl rfl dX3_isOfPoints_1 m_X6_kind t_1896 t_951 t_952 (c_X6_kind hl h_shape hc_1) rfl rfl (ly_S h_shape) rfl (Nat.le_of_ble_eq_true rfl) (Nat.le_of_ble_eq_true rfl) (Nat.le_of_ble_eq_true rfl) (Nat.le_of_ble_eq_true rfl) ?_
  refine z_st (st' := [vi x_2]) rfl ?_
  refine z_iconst (M := M_X3_isOfPoints) dX3_isOfPoints_4 ?_
  rcases if_e H with ⟨h_3, H⟩ | ⟨h_3, H⟩
  · refine z_icmp_eq_t (M := M_X3_isOfPoints) (tgt := 16) dX3_isOfPoints_5 (by decide) rfl (by decide +kernel) h_3 ?_
    refine z_zconst (M := M_X3_isOfPoints) (b := true) dX3_isOfPoints_16 rfl ?_
    refine z_goto (M := M_X3_isOfPoints) (tgt := 21) dX3_isOfPoints_17 (by decide) ?_
    exact J_14 _ (Option.some.inj H).symm
  · refine z_icmp_eq_f (M := M_X3_isOfPoints) (tgt := 16) dX3_isOfPoints_5 (by decide) rfl (by decide +kernel) h_3 ?_
    refine z_aload_n (M := M_X3_isOfPoints) dX3_isOfPoints_8 rfl ?_
    obtain ⟨x_6, hc_5, H⟩ := bd_e H
    refine z_callV (M := M_X3_isOfPoints) (M' := M_X6_kind) (as := []) (rest := []) rfl rfl dX3_isOfPoints_9 m_X6_kind t_1896 t_951 t_952 (c_X6_kind hl h_shape hc_5) rfl rfl (ly_S h_shape) rfl (Nat.le_of_ble_eq_true rfl) (Nat.le_of_ble_eq_true rfl) (Nat.le_of_ble_eq_true rfl) (Nat.le_of_ble_eq_true rfl) ?_
    refine z_st (st' := [vi x_6]) rfl ?_
    refine z_iconst (M := M_X3_isOfPoints) dX3_isOfPoints_12 ?_
    rcases if_e H with ⟨h_7, H⟩ | ⟨h_7, H⟩
    · refine z_icmp_ne_f (M := M_X3_isOfPoints) (tgt := 20) dX3_isOfPoints_13 (by decide) rfl (by decide +kernel) h_7 ?_
      refine z_zconst (M := M_X3_isOfPoints) (b := true) dX3_isOfPoints_16 rfl ?_
      refine z_goto (M := M_X3_isOfPoints) (tgt := 21) dX3_isOfPoints_17 (by decide) ?_
      exact J_14 _ (Option.some.inj H).symm
    · refine z_icmp_ne_t (M := M_X3_isOfPoints) (tgt := 20) dX3_isOfPoints_13 (by decide) rfl (by decide +kernel) h_7 ?_
      refine z_zconst (M := M_X3_isOfPoints) (b := false) dX3_isOfPoints_20 rfl ?_
      exact J_14 _ (Option.some.inj H).symm
theorem c_X3_hasTooManyParts (hl : l.stackTraces = false) {σ : SG} {shape_0 : Nat} {r : Bool} (h_shape : isS shape_0) (H : fT_hasTooManyParts σ shape_0 = some r) : en_S l E M_X3_hasTooManyParts 3 0 0 [vr shape_0] σ (pS (some (zv r)) σ) := by
  unfold fT_hasTooManyParts at H
  refine z_mk (lv := [some (vr shape_0), none, none]) m_X3_hasTooManyParts rfl hl (Nat.le_of_ble_eq_true rfl) rfl ?_
  refine z_aload_n (M := M_X3_hasTooManyParts) dX3_hasTooManyParts_0 rfl ?_
  obtain ⟨x_2, hc_1, H⟩ := bd_e H
  refine z_callS (M := M_X3_hasTooManyParts) (M' := M_X3_isOfPoints) (as := [vr shape_0]) (rest := []) rfl rfl dX3_hasTooManyParts_1 m_X3_isOfPoints t_1893 t_1894 (c_X3_isOfPoints hl h_shape hc_1) rfl rfl (Nat.le_of_ble_eq_true rfl) (Nat.le_of_ble_eq_true rfl) (Nat.le_of_ble_eq_true rfl) (Nat.le_of_ble_eq_true rfl) ?_
  refine z_st (st' := [zv x_2]) rfl ?_
  rcases if_e H with ⟨h_3, H⟩ | ⟨h_3, H⟩
  · refine z_zeq_f (M := M_X3_hasTooManyParts) (tgt := 9) dX3_hasTooManyParts_4 (by decide) h_3 ?_
    refine z_zconst (M := M_X3_hasTooManyParts) (b := false) dX3_hasTooManyParts_7 rfl ?_
    cases H
    exact z_zret (M := M_X3_hasTooManyParts) dX3_hasTooManyParts_8 rfl (Nat.le_of_ble_eq_true rfl) (Nat.le_of_ble_eq_true rfl) ⟨rfl, rfl⟩
  · refine z_zeq_t (M := M_X3_hasTooManyParts) (tgt := 9) dX3_hasTooManyParts_4 (by decide) h_3 ?_
    refine z_iconst (M := M_X3_hasTooManyParts) dX3_hasTooManyParts_9 ?_
    refine z_istore_n (M := M_X3_hasTooManyParts) (lv' := [some (vr shape_0), some (vi 0), none]) dX3_hasTooManyParts_10 (Nat.le_of_ble_eq_true rfl) rfl rfl ?_
    refine z_iconst (M := M_X3_hasTooManyParts) dX3_hasTooManyParts_11 ?_
    refine z_istore_n (M := M_X3_hasTooManyParts) (lv' := [some (vr shape_0), some (vi 0), some (vi 0)]) dX3_hasTooManyParts_12 (Nat.le_of_ble_eq_true rfl) rfl rfl ?_
    obtain ⟨rl_9, hw_6, hk_7⟩ := bd_e H
    have J_24 : ∀ parts_20 at_21, rl_9 = (parts_20, at_21) → YY l E M_X3_hasTooManyParts 3 0 0 (pS (some (zv r)) σ) 40 [some (vr shape_0), some (vi parts_20), some (vi at_21)] [] σ 0 0 := by
      intro parts_20 at_21 e
      have H := hk_7
      rw [e] at H
      have J_22 : YY l E M_X3_hasTooManyParts 3 0 0 (pS (some (zv r)) σ) 52 [some (vr shape_0), some (vi parts_20), some (vi at_21)] [zv (decide (1024 < (w32 parts_20)))] σ 0 0 := by
        cases H
        exact z_zret (M := M_X3_hasTooManyParts) dX3_hasTooManyParts_52 rfl (Nat.le_of_ble_eq_true rfl) (Nat.le_of_ble_eq_true rfl) ⟨rfl, rfl⟩
      refine z_iload_n (M := M_X3_hasTooManyParts) dX3_hasTooManyParts_40 rfl ?_
      refine z_sipush (M := M_X3_hasTooManyParts) dX3_hasTooManyParts_41 (by decide +kernel) ?_
      by_cases h_23 : 1024 < (w32 parts_20)
      · refine z_icmp_le_f (M := M_X3_hasTooManyParts) (tgt := 51) dX3_hasTooManyParts_44 (by decide) rfl (by decide +kernel) h_23 ?_
        refine z_iconst (M := M_X3_hasTooManyParts) dX3_hasTooManyParts_47 ?_
        refine z_goto (M := M_X3_hasTooManyParts) (tgt := 52) dX3_hasTooManyParts_48 (by decide) ?_
        exact z_st (by rw [zv_t (p := 1024 < (w32 parts_20)) h_23]) J_22
      · refine z_icmp_le_t (M := M_X3_hasTooManyParts) (tgt := 51) dX3_hasTooManyParts_44 (by decide) rfl (by decide +kernel) (Int.not_lt.mp h_23) ?_
        refine z_iconst (M := M_X3_hasTooManyParts) dX3_hasTooManyParts_51 ?_
        exact z_st (by rw [zv_f (p := 1024 < (w32 parts_20)) h_23]) J_22
    refine whl_go hw_6 (fun (parts_4, at_5) => YY l E M_X3_hasTooManyParts 3 0 0 (pS (some (zv r)) σ) 13 [some (vr shape_0), some (vi parts_4), some (vi at_5)] [] σ 0 0) ?_
    rintro ⟨parts_4, at_5⟩ o_10 H K_11 K_12
    refine z_iload_n (M := M_X3_hasTooManyParts) dX3_hasTooManyParts_13 rfl ?_
    refine z_iconst (M := M_X3_hasTooManyParts) dX3_hasTooManyParts_14 ?_
    refine z_iadd (M := M_X3_hasTooManyParts) dX3_hasTooManyParts_15 ?_
    refine z_aload_n (M := M_X3_hasTooManyParts) dX3_hasTooManyParts_16 rfl ?_
    refine z_getI (M := M_X3_hasTooManyParts) (ci := 9) (C := RX6) (T := TX6) (Nf := 5) (ty := tyX6) cl9 dX3_hasTooManyParts_17 (ly_S h_shape) 3 (by decide) t_76 rfl rfl ?_
    rcases if_e H with ⟨h_13, H⟩ | ⟨h_13, H⟩
    · refine z_icmp_ge_f (M := M_X3_hasTooManyParts) (tgt := 40) dX3_hasTooManyParts_20 (by decide) rfl rfl h_13 ?_
      refine z_iload_n (M := M_X3_hasTooManyParts) dX3_hasTooManyParts_23 rfl ?_
      refine z_aload_n (M := M_X3_hasTooManyParts) dX3_hasTooManyParts_24 rfl ?_
      refine z_iload_n (M := M_X3_hasTooManyParts) dX3_hasTooManyParts_25 rfl ?_
      obtain ⟨x_15, hc_14, H⟩ := bd_e H
      refine z_callV (M := M_X3_hasTooManyParts) (M' := M_X6_rows) (as := [vi at_5]) (rest := [vi parts_4]) rfl rfl dX3_hasTooManyParts_26 m_X6_rows t_1897 t_1075 t_1076 (c_X6_rows hl h_shape hc_14) rfl rfl (ly_S h_shape) rfl (Nat.le_of_ble_eq_true rfl) (Nat.le_of_ble_eq_true rfl) (Nat.le_of_ble_eq_true rfl) (Nat.le_of_ble_eq_true rfl) ?_
      refine z_st (st' := [vi x_15, vi parts_4]) rfl ?_
      refine z_iadd (M := M_X3_hasTooManyParts) dX3_hasTooManyParts_29 ?_
      refine z_istore_n (M := M_X3_hasTooManyParts) (lv' := [some (vr shape_0), some (vi (parts_4 + x_15)), some (vi at_5)]) dX3_hasTooManyParts_30 (Nat.le_of_ble_eq_true rfl) rfl rfl ?_
      refine z_aload_n (M := M_X3_hasTooManyParts) dX3_hasTooManyParts_31 rfl ?_
      refine z_iload_n (M := M_X3_hasTooManyParts) dX3_hasTooManyParts_32 rfl ?_
      obtain ⟨x_17, hc_16, H⟩ := bd_e H
      refine z_callV (M := M_X3_hasTooManyParts) (M' := M_X6_behind) (as := [vi at_5]) (rest := []) rfl rfl dX3_hasTooManyParts_33 m_X6_behind t_1898 t_1107 t_1108 (c_X6_behind hl h_shape hc_16) rfl rfl (ly_S h_shape) rfl (Nat.le_of_ble_eq_true rfl) (Nat.le_of_ble_eq_true rfl) (Nat.le_of_ble_eq_true rfl) (Nat.le_of_ble_eq_true rfl) ?_
      refine z_st (st' := [vi x_17]) rfl ?_
      refine z_istore_n (M := M_X3_hasTooManyParts) (lv' := [some (vr shape_0), some (vi (parts_4 + x_15)), some (vi x_17)]) dX3_hasTooManyParts_36 (Nat.le_of_ble_eq_true rfl) rfl rfl ?_
      refine z_goto (M := M_X3_hasTooManyParts) (tgt := 13) dX3_hasTooManyParts_37 (by decide) ?_
      exact K_11 _ (Option.some.inj H).symm
    · refine z_icmp_ge_t (M := M_X3_hasTooManyParts) (tgt := 40) dX3_hasTooManyParts_20 (by decide) rfl rfl (Int.not_lt.mp h_13) ?_
      exact J_24 _ _ (K_12 _ (Option.some.inj H).symm).symm
theorem c_X6_isAt (hl : l.stackTraces = false) {σ : SG} {this_0 : Nat} {i_0 : Int} {px_0 : Int} {py_0 : Int} {r : Bool} (h_this : isS this_0) (H : fA_isAt σ this_0 i_0 px_0 py_0 = some r) : en_S l E M_X6_isAt 1 0 0 [vr this_0, vi i_0, vi px_0, vi py_0] σ (pS (some (zv r)) σ) := by
  unfold fA_isAt at H
  refine z_mk (lv := [some (vr this_0), some (vi i_0), some (vi px_0), some (vi py_0)]) m_X6_isAt rfl hl (Nat.le_of_ble_eq_true rfl) rfl ?_
  obtain ⟨v_11, he_12, hk_13⟩ := bd_e H
  have J_14 : ∀ x_10, v_11 = x_10 → YY l E M_X6_isAt 1 0 0 (pS (some (zv r)) σ) 25 [some (vr this_0), some (vi i_0), some (vi px_0), some (vi py_0)] [zv x_10] σ 0 0 := by
    intro x_10 e
    have H := hk_13
    rw [e] at H
    cases H
    exact z_zret (M := M_X6_isAt) dX6_isAt_25 rfl (Nat.le_of_ble_eq_true rfl) (Nat.le_of_ble_eq_true rfl) ⟨rfl, rfl⟩
  have H := he_12
  refine z_aload_n (M := M_X6_isAt) dX6_isAt_0 rfl ?_
  refine z_getR (M := M_X6_isAt) (ci := 9) (C := RX6) (T := TX6) (Nf := 5) (ty := tyX6) cl9 dX6_isAt_1 (ly_S h_this) 1 (by decide) t_58 rfl ?_
  refine z_iload_n (M := M_X6_isAt) dX6_isAt_4 rfl ?_
  obtain ⟨x_1, x_1_e, hi_2, H⟩ := rd_e H
  refine z_iald (M := M_X6_isAt) dX6_isAt_5 (ly_Sx h_this) rfl rfl rfl hi_2 x_1_e ?_
  refine z_iload_n (M := M_X6_isAt) dX6_isAt_6 rfl ?_
  rcases if_e H with ⟨h_3, H⟩ | ⟨h_3, H⟩
  · refine z_icmp_ne_f (M := M_X6_isAt) (tgt := 24) dX6_isAt_7 (by decide) rfl rfl h_3 ?_
    refine z_aload_n (M := M_X6_isAt) dX6_isAt_10 rfl ?_
    refine z_getR (M := M_X6_isAt) (ci := 9) (C := RX6) (T := TX6) (Nf := 5) (ty := tyX6) cl9 dX6_isAt_11 (ly_S h_this) 2 (by decide) t_65 rfl ?_
    refine z_iload_n (M := M_X6_isAt) dX6_isAt_14 rfl ?_
    obtain ⟨x_4, x_4_e, hi_5, H⟩ := rd_e H
    refine z_iald (M := M_X6_isAt) dX6_isAt_15 (ly_Sy h_this) rfl rfl rfl hi_5 x_4_e ?_
    refine z_iload_n (M := M_X6_isAt) dX6_isAt_16 rfl ?_
    rcases if_e H with ⟨h_6, H⟩ | ⟨h_6, H⟩
    · refine z_icmp_ne_f (M := M_X6_isAt) (tgt := 24) dX6_isAt_17 (by decide) rfl rfl h_6 ?_
      refine z_zconst (M := M_X6_isAt) (b := true) dX6_isAt_20 rfl ?_
      refine z_goto (M := M_X6_isAt) (tgt := 25) dX6_isAt_21 (by decide) ?_
      exact J_14 _ (Option.some.inj H).symm
    · refine z_icmp_ne_t (M := M_X6_isAt) (tgt := 24) dX6_isAt_17 (by decide) rfl rfl h_6 ?_
      refine z_zconst (M := M_X6_isAt) (b := false) dX6_isAt_24 rfl ?_
      exact J_14 _ (Option.some.inj H).symm
  · refine z_icmp_ne_t (M := M_X6_isAt) (tgt := 24) dX6_isAt_7 (by decide) rfl rfl h_3 ?_
    refine z_zconst (M := M_X6_isAt) (b := false) dX6_isAt_24 rfl ?_
    exact J_14 _ (Option.some.inj H).symm
theorem c_X3_hasPoint (hl : l.stackTraces = false) {σ : SG} {shape_0 : Nat} {x_0 : Int} {y_0 : Int} {r : Bool} (h_shape : isS shape_0) (H : fT_hasPoint σ shape_0 x_0 y_0 = some r) : en_S l E M_X3_hasPoint 2 0 0 [vr shape_0, vi x_0, vi y_0] σ (pS (some (zv r)) σ) := by
  unfold fT_hasPoint at H
  refine z_mk (lv := [some (vr shape_0), some (vi x_0), some (vi y_0), none]) m_X3_hasPoint rfl hl (Nat.le_of_ble_eq_true rfl) rfl ?_
  refine z_iconst (M := M_X3_hasPoint) dX3_hasPoint_0 ?_
  refine z_istore_n (M := M_X3_hasPoint) (lv' := [some (vr shape_0), some (vi x_0), some (vi y_0), some (vi 0)]) dX3_hasPoint_1 (Nat.le_of_ble_eq_true rfl) rfl rfl ?_
  obtain ⟨rl_5, hw_2, hk_3, hk_4⟩ := bx_e H
  have J_16 : ∀ i_15, rl_5 = (.inl i_15) → YY l E M_X3_hasPoint 2 0 0 (pS (some (zv r)) σ) 28 [some (vr shape_0), some (vi x_0), some (vi y_0), some (vi i_15)] [] σ 0 0 := by
    intro i_15 e
    have H := hk_3 _ e
    refine z_zconst (M := M_X3_hasPoint) (b := false) dX3_hasPoint_28 rfl ?_
    cases H
    exact z_zret (M := M_X3_hasPoint) dX3_hasPoint_29 rfl (Nat.le_of_ble_eq_true rfl) (Nat.le_of_ble_eq_true rfl) ⟨rfl, rfl⟩
  refine whl_go hw_2 (fun i_1 => YY l E M_X3_hasPoint 2 0 0 (pS (some (zv r)) σ) 2 [some (vr shape_0), some (vi x_0), some (vi y_0), some (vi i_1)] [] σ 0 0) ?_
  rintro i_1 o_6 H K_7 K_8
  refine z_iload_n (M := M_X3_hasPoint) dX3_hasPoint_2 rfl ?_
  refine z_aload_n (M := M_X3_hasPoint) dX3_hasPoint_3 rfl ?_
  refine z_getI (M := M_X3_hasPoint) (ci := 9) (C := RX6) (T := TX6) (Nf := 5) (ty := tyX6) cl9 dX3_hasPoint_4 (ly_S h_shape) 4 (by decide) t_84 rfl rfl ?_
  rcases if_e H with ⟨h_9, H⟩ | ⟨h_9, H⟩
  · refine z_icmp_ge_f (M := M_X3_hasPoint) (tgt := 28) dX3_hasPoint_7 (by decide) rfl rfl h_9 ?_
    refine z_aload_n (M := M_X3_hasPoint) dX3_hasPoint_10 rfl ?_
    refine z_iload_n (M := M_X3_hasPoint) dX3_hasPoint_11 rfl ?_
    refine z_iload_n (M := M_X3_hasPoint) dX3_hasPoint_12 rfl ?_
    refine z_iload_n (M := M_X3_hasPoint) dX3_hasPoint_13 rfl ?_
    obtain ⟨x_11, hc_10, H⟩ := bd_e H
    refine z_callV (M := M_X3_hasPoint) (M' := M_X6_isAt) (as := [vi i_1, vi x_0, vi y_0]) (rest := []) rfl rfl dX3_hasPoint_14 m_X6_isAt t_2021 t_2022 t_2023 (c_X6_isAt hl h_shape hc_10) rfl rfl (ly_S h_shape) rfl (Nat.le_of_ble_eq_true rfl) (Nat.le_of_ble_eq_true rfl) (Nat.le_of_ble_eq_true rfl) (Nat.le_of_ble_eq_true rfl) ?_
    refine z_st (st' := [zv x_11]) rfl ?_
    rcases if_e H with ⟨h_12, H⟩ | ⟨h_12, H⟩
    · refine z_zeq_f (M := M_X3_hasPoint) (tgt := 22) dX3_hasPoint_17 (by decide) h_12 ?_
      refine z_zconst (M := M_X3_hasPoint) (b := true) dX3_hasPoint_20 rfl ?_
      have H := congrArg some (hk_4 _ ((K_8 _ (Option.some.inj H).symm).symm))
      cases H
      exact z_zret (M := M_X3_hasPoint) dX3_hasPoint_21 rfl (Nat.le_of_ble_eq_true rfl) (Nat.le_of_ble_eq_true rfl) ⟨rfl, rfl⟩
    · refine z_zeq_t (M := M_X3_hasPoint) (tgt := 22) dX3_hasPoint_17 (by decide) h_12 ?_
      refine z_iinc (M := M_X3_hasPoint) (lv' := [some (vr shape_0), some (vi x_0), some (vi y_0), some (vi (i_1 + 1))]) dX3_hasPoint_22 rfl (Nat.le_of_ble_eq_true rfl) rfl rfl ?_
      refine z_goto (M := M_X3_hasPoint) (tgt := 2) dX3_hasPoint_25 (by decide) ?_
      exact K_7 _ (Option.some.inj H).symm
  · refine z_icmp_ge_t (M := M_X3_hasPoint) (tgt := 28) dX3_hasPoint_7 (by decide) rfl rfl (Int.not_lt.mp h_9) ?_
    exact J_16 _ (K_8 _ (Option.some.inj H).symm).symm
theorem c_X3_isArea (hl : l.stackTraces = false) {σ : SG} {shape_0 : Nat} {r : Bool} (h_shape : isS shape_0) (H : fT_isArea σ shape_0 = some r) : en_S l E M_X3_isArea 2 0 0 [vr shape_0] σ (pS (some (zv r)) σ) := by
  unfold fT_isArea at H
  refine z_mk (lv := [some (vr shape_0)]) m_X3_isArea rfl hl (Nat.le_of_ble_eq_true rfl) rfl ?_
  obtain ⟨v_11, he_12, hk_13⟩ := bd_e H
  have J_14 : ∀ x_10, v_11 = x_10 → YY l E M_X3_isArea 2 0 0 (pS (some (zv r)) σ) 22 [some (vr shape_0)] [zv x_10] σ 0 0 := by
    intro x_10 e
    have H := hk_13
    rw [e] at H
    cases H
    exact z_zret (M := M_X3_isArea) dX3_isArea_22 rfl (Nat.le_of_ble_eq_true rfl) (Nat.le_of_ble_eq_true rfl) ⟨rfl, rfl⟩
  have H := he_12
  refine z_aload_n (M := M_X3_isArea) dX3_isArea_0 rfl ?_
  obtain ⟨x_2, hc_1, H⟩ := bd_e H
  refine z_callV (M := M_X3_isArea) (M' := M_X6_kind) (as := []) (rest := []) rfl rfl dX3_isArea_1 m_X6_kind t_1896 t_951 t_952 (c_X6_kind hl h_shape hc_1) rfl rfl (ly_S h_shape) rfl (Nat.le_of_ble_eq_true rfl) (Nat.le_of_ble_eq_true rfl) (Nat.le_of_ble_eq_true rfl) (Nat.le_of_ble_eq_true rfl) ?_
  refine z_st (st' := [vi x_2]) rfl ?_
  refine z_iconst (M := M_X3_isArea) dX3_isArea_4 ?_
  rcases if_e H with ⟨h_3, H⟩ | ⟨h_3, H⟩
  · refine z_icmp_eq_t (M := M_X3_isArea) (tgt := 17) dX3_isArea_5 (by decide) rfl (by decide +kernel) h_3 ?_
    refine z_zconst (M := M_X3_isArea) (b := true) dX3_isArea_17 rfl ?_
    refine z_goto (M := M_X3_isArea) (tgt := 22) dX3_isArea_18 (by decide) ?_
    exact J_14 _ (Option.some.inj H).symm
  · refine z_icmp_eq_f (M := M_X3_isArea) (tgt := 17) dX3_isArea_5 (by decide) rfl (by decide +kernel) h_3 ?_
    refine z_aload_n (M := M_X3_isArea) dX3_isArea_8 rfl ?_
    obtain ⟨x_6, hc_5, H⟩ := bd_e H
    refine z_callV (M := M_X3_isArea) (M' := M_X6_kind) (as := []) (rest := []) rfl rfl dX3_isArea_9 m_X6_kind t_1896 t_951 t_952 (c_X6_kind hl h_shape hc_5) rfl rfl (ly_S h_shape) rfl (Nat.le_of_ble_eq_true rfl) (Nat.le_of_ble_eq_true rfl) (Nat.le_of_ble_eq_true rfl) (Nat.le_of_ble_eq_true rfl) ?_
    refine z_st (st' := [vi x_6]) rfl ?_
    refine z_bipush (M := M_X3_isArea) dX3_isArea_12 (by decide +kernel) ?_
    rcases if_e H with ⟨h_7, H⟩ | ⟨h_7, H⟩
    · refine z_icmp_ne_f (M := M_X3_isArea) (tgt := 21) dX3_isArea_14 (by decide) rfl (by decide +kernel) h_7 ?_
      refine z_zconst (M := M_X3_isArea) (b := true) dX3_isArea_17 rfl ?_
      refine z_goto (M := M_X3_isArea) (tgt := 22) dX3_isArea_18 (by decide) ?_
      exact J_14 _ (Option.some.inj H).symm
    · refine z_icmp_ne_t (M := M_X3_isArea) (tgt := 21) dX3_isArea_14 (by decide) rfl (by decide +kernel) h_7 ?_
      refine z_zconst (M := M_X3_isArea) (b := false) dX3_isArea_21 rfl ?_
      exact J_14 _ (Option.some.inj H).symm
theorem c_X3_whereIs (hl : l.stackTraces = false) {σ : SG} {shape_0 : Nat} {x_0 : Int} {y_0 : Int} {r : Int} (h_shape : isS shape_0) (H : fT_whereIs σ shape_0 x_0 y_0 = some r) : en_S l E M_X3_whereIs 4 0 0 [vr shape_0, vi x_0, vi y_0] σ (pS (some (vi r)) σ) := by
  unfold fT_whereIs at H
  refine z_mk (lv := [some (vr shape_0), some (vi x_0), some (vi y_0), none, none, none, none, none, none, none, none, none, none]) m_X3_whereIs rfl hl (Nat.le_of_ble_eq_true rfl) rfl ?_
  refine z_aload_n (M := M_X3_whereIs) dX3_whereIs_0 rfl ?_
  obtain ⟨x_2, hc_1, H⟩ := bd_e H
  refine z_callS (M := M_X3_whereIs) (M' := M_X3_isOfPoints) (as := [vr shape_0]) (rest := []) rfl rfl dX3_whereIs_1 m_X3_isOfPoints t_1893 t_1894 (c_X3_isOfPoints hl h_shape hc_1) rfl rfl (Nat.le_of_ble_eq_true rfl) (Nat.le_of_ble_eq_true rfl) (Nat.le_of_ble_eq_true rfl) (Nat.le_of_ble_eq_true rfl) ?_
  refine z_st (st' := [zv x_2]) rfl ?_
  rcases if_e H with ⟨h_3, H⟩ | ⟨h_3, H⟩
  · refine z_zeq_f (M := M_X3_whereIs) (tgt := 22) dX3_whereIs_4 (by decide) h_3 ?_
    obtain ⟨v_10, he_11, hk_12⟩ := bd_e H
    have J_13 : ∀ x_9, v_10 = x_9 → YY l E M_X3_whereIs 4 0 0 (pS (some (vi r)) σ) 21 [some (vr shape_0), some (vi x_0), some (vi y_0), none, none, none, none, none, none, none, none, none, none] [vi x_9] σ 0 0 := by
      intro x_9 e
      have H := hk_12
      rw [e] at H
      cases H
      exact z_iret (M := M_X3_whereIs) dX3_whereIs_21 rfl (Nat.le_of_ble_eq_true rfl) (Nat.le_of_ble_eq_true rfl) ⟨rfl, rfl⟩
    have H := he_11
    refine z_aload_n (M := M_X3_whereIs) dX3_whereIs_7 rfl ?_
    refine z_iload_n (M := M_X3_whereIs) dX3_whereIs_8 rfl ?_
    refine z_iload_n (M := M_X3_whereIs) dX3_whereIs_9 rfl ?_
    obtain ⟨x_5, hc_4, H⟩ := bd_e H
    refine z_callS (M := M_X3_whereIs) (M' := M_X3_hasPoint) (as := [vr shape_0, vi x_0, vi y_0]) (rest := []) rfl rfl dX3_whereIs_10 m_X3_hasPoint t_2018 t_2019 (c_X3_hasPoint hl h_shape hc_4) rfl rfl (Nat.le_of_ble_eq_true rfl) (Nat.le_of_ble_eq_true rfl) (Nat.le_of_ble_eq_true rfl) (Nat.le_of_ble_eq_true rfl) ?_
    refine z_st (st' := [zv x_5]) rfl ?_
    rcases if_e H with ⟨h_6, H⟩ | ⟨h_6, H⟩
    · refine z_zeq_f (M := M_X3_whereIs) (tgt := 20) dX3_whereIs_13 (by decide) h_6 ?_
      refine z_iconst (M := M_X3_whereIs) dX3_whereIs_16 ?_
      refine z_goto (M := M_X3_whereIs) (tgt := 21) dX3_whereIs_17 (by decide) ?_
      exact J_13 _ (Option.some.inj H).symm
    · refine z_zeq_t (M := M_X3_whereIs) (tgt := 20) dX3_whereIs_13 (by decide) h_6 ?_
      refine z_iconst (M := M_X3_whereIs) dX3_whereIs_20 ?_
      exact J_13 _ (Option.some.inj H).symm
  · refine z_zeq_t (M := M_X3_whereIs) (tgt := 22) dX3_whereIs_4 (by decide) h_3 ?_
    refine z_aload_n (M := M_X3_whereIs) dX3_whereIs_22 rfl ?_
    obtain ⟨x_15, hc_14, H⟩ := bd_e H
    refine z_callS (M := M_X3_whereIs) (M' := M_X3_isArea) (as := [vr shape_0]) (rest := []) rfl rfl dX3_whereIs_23 m_X3_isArea t_1905 t_1906 (c_X3_isArea hl h_shape hc_14) rfl rfl (Nat.le_of_ble_eq_true rfl) (Nat.le_of_ble_eq_true rfl) (Nat.le_of_ble_eq_true rfl) (Nat.le_of_ble_eq_true rfl) ?_
    refine z_st (st' := [zv x_15]) rfl ?_
    refine z_zstore_n (M := M_X3_whereIs) (lv' := [some (vr shape_0), some (vi x_0), some (vi y_0), some (zv x_15), none, none, none, none, none, none, none, none, none]) dX3_whereIs_26 (Nat.le_of_ble_eq_true rfl) rfl rfl ?_
    refine z_zconst (M := M_X3_whereIs) (b := false) dX3_whereIs_27 rfl ?_
    refine z_zstore (M := M_X3_whereIs) (lv' := [some (vr shape_0), some (vi x_0), some (vi y_0), some (zv x_15), some (zv false), none, none, none, none, none, none, none, none]) dX3_whereIs_28 (Nat.le_of_ble_eq_true rfl) rfl rfl ?_
    refine z_zconst (M := M_X3_whereIs) (b := false) dX3_whereIs_30 rfl ?_
    refine z_zstore (M := M_X3_whereIs) (lv' := [some (vr shape_0), some (vi x_0), some (vi y_0), some (zv x_15), some (zv false), some (zv false), none, none, none, none, none, none, none]) dX3_whereIs_31 (Nat.le_of_ble_eq_true rfl) rfl rfl ?_
    refine z_zconst (M := M_X3_whereIs) (b := false) dX3_whereIs_33 rfl ?_
    refine z_zstore (M := M_X3_whereIs) (lv' := [some (vr shape_0), some (vi x_0), some (vi y_0), some (zv x_15), some (zv false), some (zv false), some (zv false), none, none, none, none, none, none]) dX3_whereIs_34 (Nat.le_of_ble_eq_true rfl) rfl rfl ?_
    refine z_iconst (M := M_X3_whereIs) dX3_whereIs_36 ?_
    refine z_istore (M := M_X3_whereIs) (lv' := [some (vr shape_0), some (vi x_0), some (vi y_0), some (zv x_15), some (zv false), some (zv false), some (zv false), some (vi 0), none, none, none, none, none]) dX3_whereIs_37 (Nat.le_of_ble_eq_true rfl) rfl rfl ?_
    refine z_iconst (M := M_X3_whereIs) dX3_whereIs_39 ?_
    refine z_istore (M := M_X3_whereIs) (lv' := [some (vr shape_0), some (vi x_0), some (vi y_0), some (zv x_15), some (zv false), some (zv false), some (zv false), some (vi 0), some (vi 0), none, none, none, none]) dX3_whereIs_40 (Nat.le_of_ble_eq_true rfl) rfl rfl ?_
    obtain ⟨rl_24, hw_21, hk_22⟩ := bd_e H
    have J_222 : ∀ ends_204 held_205 odd_206 from_207 at_208, rl_24 = (ends_204, held_205, odd_206, from_207, at_208) → YY l E M_X3_whereIs 4 0 0 (pS (some (vi r)) σ) 290 [some (vr shape_0), some (vi x_0), some (vi y_0), some (zv x_15), some (zv ends_204), some (zv held_205), some (zv odd_206), some (vi from_207), some (vi at_208), none, none, none, none] [] σ 0 0 := by
      intro ends_204 held_205 odd_206 from_207 at_208 e
      have H := hk_22
      rw [e] at H
      refine z_zload_n (M := M_X3_whereIs) dX3_whereIs_290 rfl ?_
      rcases if_e H with ⟨h_209, H⟩ | ⟨h_209, H⟩
      · refine z_zeq_f (M := M_X3_whereIs) (tgt := 314) dX3_whereIs_291 (by decide) h_209 ?_
        have J_212 : YY l E M_X3_whereIs 4 0 0 (pS (some (vi r)) σ) 313 [some (vr shape_0), some (vi x_0), some (vi y_0), some (zv x_15), some (zv ends_204), some (zv held_205), some (zv odd_206), some (vi from_207), some (vi at_208), none, none, none, none] [vi (if held_205 = true then 1 else (if odd_206 = true then 0 else 2))] σ 0 0 := by
          cases H
          exact z_iret (M := M_X3_whereIs) dX3_whereIs_313 rfl (Nat.le_of_ble_eq_true rfl) (Nat.le_of_ble_eq_true rfl) ⟨rfl, rfl⟩
        refine z_zload (M := M_X3_whereIs) dX3_whereIs_294 rfl ?_
        by_cases h_213 : held_205 = true
        · refine z_zeq_f (M := M_X3_whereIs) (tgt := 303) dX3_whereIs_296 (by decide) h_213 ?_
          refine z_iconst (M := M_X3_whereIs) dX3_whereIs_299 ?_
          refine z_goto (M := M_X3_whereIs) (tgt := 313) dX3_whereIs_300 (by decide) ?_
          exact z_st (by rw [if_pos (c := held_205 = true) h_213]) J_212
        · refine z_zeq_t (M := M_X3_whereIs) (tgt := 303) dX3_whereIs_296 (by decide) h_213 ?_
          have J_214 : YY l E M_X3_whereIs 4 0 0 (pS (some (vi r)) σ) 313 [some (vr shape_0), some (vi x_0), some (vi y_0), some (zv x_15), some (zv ends_204), some (zv held_205), some (zv odd_206), some (vi from_207), some (vi at_208), none, none, none, none] [vi (if odd_206 = true then 0 else 2)] σ 0 0 := by
            exact z_st (by rw [if_neg (c := held_205 = true) h_213]) J_212
          refine z_zload (M := M_X3_whereIs) dX3_whereIs_303 rfl ?_
          by_cases h_215 : odd_206 = true
          · refine z_zeq_f (M := M_X3_whereIs) (tgt := 312) dX3_whereIs_305 (by decide) h_215 ?_
            refine z_iconst (M := M_X3_whereIs) dX3_whereIs_308 ?_
            refine z_goto (M := M_X3_whereIs) (tgt := 313) dX3_whereIs_309 (by decide) ?_
            exact z_st (by rw [if_pos (c := odd_206 = true) h_215]) J_214
          · refine z_zeq_t (M := M_X3_whereIs) (tgt := 312) dX3_whereIs_305 (by decide) h_215 ?_
            refine z_iconst (M := M_X3_whereIs) dX3_whereIs_312 ?_
            exact z_st (by rw [if_neg (c := odd_206 = true) h_215]) J_214
      · refine z_zeq_t (M := M_X3_whereIs) (tgt := 314) dX3_whereIs_291 (by decide) h_209 ?_
        have J_218 : YY l E M_X3_whereIs 4 0 0 (pS (some (vi r)) σ) 333 [some (vr shape_0), some (vi x_0), some (vi y_0), some (zv x_15), some (zv ends_204), some (zv held_205), some (zv odd_206), some (vi from_207), some (vi at_208), none, none, none, none] [vi (if ends_204 = true then 1 else (if held_205 = true then 0 else 2))] σ 0 0 := by
          cases H
          exact z_iret (M := M_X3_whereIs) dX3_whereIs_333 rfl (Nat.le_of_ble_eq_true rfl) (Nat.le_of_ble_eq_true rfl) ⟨rfl, rfl⟩
        refine z_zload (M := M_X3_whereIs) dX3_whereIs_314 rfl ?_
        by_cases h_219 : ends_204 = true
        · refine z_zeq_f (M := M_X3_whereIs) (tgt := 323) dX3_whereIs_316 (by decide) h_219 ?_
          refine z_iconst (M := M_X3_whereIs) dX3_whereIs_319 ?_
          refine z_goto (M := M_X3_whereIs) (tgt := 333) dX3_whereIs_320 (by decide) ?_
          exact z_st (by rw [if_pos (c := ends_204 = true) h_219]) J_218
        · refine z_zeq_t (M := M_X3_whereIs) (tgt := 323) dX3_whereIs_316 (by decide) h_219 ?_
          have J_220 : YY l E M_X3_whereIs 4 0 0 (pS (some (vi r)) σ) 333 [some (vr shape_0), some (vi x_0), some (vi y_0), some (zv x_15), some (zv ends_204), some (zv held_205), some (zv odd_206), some (vi from_207), some (vi at_208), none, none, none, none] [vi (if held_205 = true then 0 else 2)] σ 0 0 := by
            exact z_st (by rw [if_neg (c := ends_204 = true) h_219]) J_218
          refine z_zload (M := M_X3_whereIs) dX3_whereIs_323 rfl ?_
          by_cases h_221 : held_205 = true
          · refine z_zeq_f (M := M_X3_whereIs) (tgt := 332) dX3_whereIs_325 (by decide) h_221 ?_
            refine z_iconst (M := M_X3_whereIs) dX3_whereIs_328 ?_
            refine z_goto (M := M_X3_whereIs) (tgt := 333) dX3_whereIs_329 (by decide) ?_
            exact z_st (by rw [if_pos (c := held_205 = true) h_221]) J_220
          · refine z_zeq_t (M := M_X3_whereIs) (tgt := 332) dX3_whereIs_325 (by decide) h_221 ?_
            refine z_iconst (M := M_X3_whereIs) dX3_whereIs_332 ?_
            exact z_st (by rw [if_neg (c := held_205 = true) h_221]) J_220
    refine whl_go hw_21 (fun (ends_16, held_17, odd_18, from_19, at_20) => YY l E M_X3_whereIs 4 0 0 (pS (some (vi r)) σ) 42 [some (vr shape_0), some (vi x_0), some (vi y_0), some (zv x_15), some (zv ends_16), some (zv held_17), some (zv odd_18), some (vi from_19), some (vi at_20), none, none, none, none] [] σ 0 0) ?_
    rintro ⟨ends_16, held_17, odd_18, from_19, at_20⟩ o_25 H K_26 K_27
    refine z_iload (M := M_X3_whereIs) dX3_whereIs_42 rfl ?_
    refine z_iconst (M := M_X3_whereIs) dX3_whereIs_44 ?_
    refine z_iadd (M := M_X3_whereIs) dX3_whereIs_45 ?_
    refine z_aload_n (M := M_X3_whereIs) dX3_whereIs_46 rfl ?_
    refine z_getI (M := M_X3_whereIs) (ci := 9) (C := RX6) (T := TX6) (Nf := 5) (ty := tyX6) cl9 dX3_whereIs_47 (ly_S h_shape) 3 (by decide) t_76 rfl rfl ?_
    rcases if_e H with ⟨h_28, H⟩ | ⟨h_28, H⟩
    · refine z_icmp_ge_f (M := M_X3_whereIs) (tgt := 290) dX3_whereIs_50 (by decide) rfl rfl h_28 ?_
      refine z_iconst (M := M_X3_whereIs) dX3_whereIs_53 ?_
      refine z_istore (M := M_X3_whereIs) (lv' := [some (vr shape_0), some (vi x_0), some (vi y_0), some (zv x_15), some (zv ends_16), some (zv held_17), some (zv odd_18), some (vi from_19), some (vi at_20), some (vi 0), none, none, none]) dX3_whereIs_54 (Nat.le_of_ble_eq_true rfl) rfl rfl ?_
      obtain ⟨rl_37, hw_34, hk_35⟩ := bd_e H
      have J_202 : ∀ ends_194 held_195 odd_196 from_197 row_198, rl_37 = (ends_194, held_195, odd_196, from_197, row_198) → YY l E M_X3_whereIs 4 0 0 (pS (some (vi r)) σ) 279 [some (vr shape_0), some (vi x_0), some (vi y_0), some (zv x_15), some (zv ends_194), some (zv held_195), some (zv odd_196), some (vi from_197), some (vi at_20), some (vi row_198), none, none, none] [] σ 0 0 := by
        intro ends_194 held_195 odd_196 from_197 row_198 e
        have H := hk_35
        rw [e] at H
        refine z_aload_n (M := M_X3_whereIs) dX3_whereIs_279 rfl ?_
        refine z_iload (M := M_X3_whereIs) dX3_whereIs_280 rfl ?_
        obtain ⟨x_200, hc_199, H⟩ := bd_e H
        refine z_callV (M := M_X3_whereIs) (M' := M_X6_behind) (as := [vi at_20]) (rest := []) rfl rfl dX3_whereIs_282 m_X6_behind t_1898 t_1107 t_1108 (c_X6_behind hl h_shape hc_199) rfl rfl (ly_S h_shape) rfl (Nat.le_of_ble_eq_true rfl) (Nat.le_of_ble_eq_true rfl) (Nat.le_of_ble_eq_true rfl) (Nat.le_of_ble_eq_true rfl) ?_
        refine z_st (st' := [vi x_200]) rfl ?_
        refine z_istore (M := M_X3_whereIs) (lv' := [some (vr shape_0), some (vi x_0), some (vi y_0), some (zv x_15), some (zv ends_194), some (zv held_195), some (zv odd_196), some (vi from_197), some (vi x_200), some (vi row_198), none, none, none]) dX3_whereIs_285 (Nat.le_of_ble_eq_true rfl) rfl rfl ?_
        refine z_goto (M := M_X3_whereIs) (tgt := 42) dX3_whereIs_287 (by decide) ?_
        refine z_le (lv' := [some (vr shape_0), some (vi x_0), some (vi y_0), some (zv x_15), some (zv ends_194), some (zv held_195), some (zv odd_196), some (vi from_197), some (vi x_200), none, none, none, none]) ⟨Or.inr rfl, Or.inr rfl, Or.inr rfl, Or.inr rfl, Or.inr rfl, Or.inr rfl, Or.inr rfl, Or.inr rfl, Or.inr rfl, Or.inl rfl, Or.inl rfl, Or.inl rfl, Or.inl rfl, trivial⟩ ?_
        exact K_26 _ (Option.some.inj H).symm
      refine whl_go hw_34 (fun (ends_29, held_30, odd_31, from_32, row_33) => YY l E M_X3_whereIs 4 0 0 (pS (some (vi r)) σ) 56 [some (vr shape_0), some (vi x_0), some (vi y_0), some (zv x_15), some (zv ends_29), some (zv held_30), some (zv odd_31), some (vi from_32), some (vi at_20), some (vi row_33), none, none, none] [] σ 0 0) ?_
      rintro ⟨ends_29, held_30, odd_31, from_32, row_33⟩ o_38 H K_39 K_40
      refine z_iload (M := M_X3_whereIs) dX3_whereIs_56 rfl ?_
      refine z_aload_n (M := M_X3_whereIs) dX3_whereIs_58 rfl ?_
      refine z_iload (M := M_X3_whereIs) dX3_whereIs_59 rfl ?_
      obtain ⟨x_42, hc_41, H⟩ := bd_e H
      refine z_callV (M := M_X3_whereIs) (M' := M_X6_rows) (as := [vi at_20]) (rest := [vi row_33]) rfl rfl dX3_whereIs_61 m_X6_rows t_1897 t_1075 t_1076 (c_X6_rows hl h_shape hc_41) rfl rfl (ly_S h_shape) rfl (Nat.le_of_ble_eq_true rfl) (Nat.le_of_ble_eq_true rfl) (Nat.le_of_ble_eq_true rfl) (Nat.le_of_ble_eq_true rfl) ?_
      refine z_st (st' := [vi x_42, vi row_33]) rfl ?_
      rcases if_e H with ⟨h_43, H⟩ | ⟨h_43, H⟩
      · refine z_icmp_ge_f (M := M_X3_whereIs) (tgt := 279) dX3_whereIs_64 (by decide) rfl rfl h_43 ?_
        refine z_iload (M := M_X3_whereIs) dX3_whereIs_67 rfl ?_
        refine z_aload_n (M := M_X3_whereIs) dX3_whereIs_69 rfl ?_
        refine z_iload (M := M_X3_whereIs) dX3_whereIs_70 rfl ?_
        refine z_iload (M := M_X3_whereIs) dX3_whereIs_72 rfl ?_
        obtain ⟨x_45, hc_44, H⟩ := bd_e H
        refine z_callV (M := M_X3_whereIs) (M' := M_X6_rowLength) (as := [vi at_20, vi row_33]) (rest := [vi from_32]) rfl rfl dX3_whereIs_74 m_X6_rowLength t_1903 t_1080 t_1081 (c_X6_rowLength hl h_shape hc_44) rfl rfl (ly_S h_shape) rfl (Nat.le_of_ble_eq_true rfl) (Nat.le_of_ble_eq_true rfl) (Nat.le_of_ble_eq_true rfl) (Nat.le_of_ble_eq_true rfl) ?_
        refine z_st (st' := [vi x_45, vi from_32]) rfl ?_
        refine z_iadd (M := M_X3_whereIs) dX3_whereIs_77 ?_
        refine z_istore (M := M_X3_whereIs) (lv' := [some (vr shape_0), some (vi x_0), some (vi y_0), some (zv x_15), some (zv ends_29), some (zv held_30), some (zv odd_31), some (vi from_32), some (vi at_20), some (vi row_33), some (vi (from_32 + x_45)), none, none]) dX3_whereIs_78 (Nat.le_of_ble_eq_true rfl) rfl rfl ?_
        obtain ⟨v_49, he_46, hk_47⟩ := bd_e H
        have J_192 : ∀ ends_71, v_49 = ends_71 → YY l E M_X3_whereIs 4 0 0 (pS (some (vi r)) σ) 120 [some (vr shape_0), some (vi x_0), some (vi y_0), some (zv x_15), some (zv ends_71), some (zv held_30), some (zv odd_31), some (vi from_32), some (vi at_20), some (vi row_33), some (vi (from_32 + x_45)), none, none] [] σ 0 0 := by
          intro ends_71 e
          have H := hk_47
          rw [e] at H
          refine z_iload (M := M_X3_whereIs) dX3_whereIs_120 rfl ?_
          refine z_istore (M := M_X3_whereIs) (lv' := [some (vr shape_0), some (vi x_0), some (vi y_0), some (zv x_15), some (zv ends_71), some (zv held_30), some (zv odd_31), some (vi from_32), some (vi at_20), some (vi row_33), some (vi (from_32 + x_45)), some (vi from_32), none]) dX3_whereIs_122 (Nat.le_of_ble_eq_true rfl) rfl rfl ?_
          obtain ⟨rl_78, hw_75, hk_76⟩ := bd_e H
          have J_191 : ∀ held_187 odd_188 i_189, rl_78 = (held_187, odd_188, i_189) → YY l E M_X3_whereIs 4 0 0 (pS (some (vi r)) σ) 269 [some (vr shape_0), some (vi x_0), some (vi y_0), some (zv x_15), some (zv ends_71), some (zv held_187), some (zv odd_188), some (vi from_32), some (vi at_20), some (vi row_33), some (vi (from_32 + x_45)), some (vi i_189), none] [] σ 0 0 := by
            intro held_187 odd_188 i_189 e
            have H := hk_76
            rw [e] at H
            refine z_iload (M := M_X3_whereIs) dX3_whereIs_269 rfl ?_
            refine z_istore (M := M_X3_whereIs) (lv' := [some (vr shape_0), some (vi x_0), some (vi y_0), some (zv x_15), some (zv ends_71), some (zv held_187), some (zv odd_188), some (vi (from_32 + x_45)), some (vi at_20), some (vi row_33), some (vi (from_32 + x_45)), some (vi i_189), none]) dX3_whereIs_271 (Nat.le_of_ble_eq_true rfl) rfl rfl ?_
            refine z_iinc (M := M_X3_whereIs) (lv' := [some (vr shape_0), some (vi x_0), some (vi y_0), some (zv x_15), some (zv ends_71), some (zv held_187), some (zv odd_188), some (vi (from_32 + x_45)), some (vi at_20), some (vi (row_33 + 1)), some (vi (from_32 + x_45)), some (vi i_189), none]) dX3_whereIs_273 rfl (Nat.le_of_ble_eq_true rfl) rfl rfl ?_
            refine z_goto (M := M_X3_whereIs) (tgt := 56) dX3_whereIs_276 (by decide) ?_
            refine z_le (lv' := [some (vr shape_0), some (vi x_0), some (vi y_0), some (zv x_15), some (zv ends_71), some (zv held_187), some (zv odd_188), some (vi (from_32 + x_45)), some (vi at_20), some (vi (row_33 + 1)), none, none, none]) ⟨Or.inr rfl, Or.inr rfl, Or.inr rfl, Or.inr rfl, Or.inr rfl, Or.inr rfl, Or.inr rfl, Or.inr rfl, Or.inr rfl, Or.inr rfl, Or.inl rfl, Or.inl rfl, Or.inl rfl, trivial⟩ ?_
            exact K_39 _ (Option.some.inj H).symm
          refine whl_go hw_75 (fun (held_72, odd_73, i_74) => YY l E M_X3_whereIs 4 0 0 (pS (some (vi r)) σ) 124 [some (vr shape_0), some (vi x_0), some (vi y_0), some (zv x_15), some (zv ends_71), some (zv held_72), some (zv odd_73), some (vi from_32), some (vi at_20), some (vi row_33), some (vi (from_32 + x_45)), some (vi i_74), none] [] σ 0 0) ?_
          rintro ⟨held_72, odd_73, i_74⟩ o_79 H K_80 K_81
          refine z_iload (M := M_X3_whereIs) dX3_whereIs_124 rfl ?_
          refine z_iload (M := M_X3_whereIs) dX3_whereIs_126 rfl ?_
          rcases if_e H with ⟨h_82, H⟩ | ⟨h_82, H⟩
          · refine z_icmp_ge_f (M := M_X3_whereIs) (tgt := 269) dX3_whereIs_128 (by decide) rfl rfl h_82 ?_
            have J_83 : YY l E M_X3_whereIs 4 0 0 (pS (some (vi r)) σ) 149 [some (vr shape_0), some (vi x_0), some (vi y_0), some (zv x_15), some (zv ends_71), some (zv held_72), some (zv odd_73), some (vi from_32), some (vi at_20), some (vi row_33), some (vi (from_32 + x_45)), some (vi i_74), none] [vi (if (w32 (i_74 + 1)) < (w32 (from_32 + x_45)) then (i_74 + 1) else from_32)] σ 0 0 := by
              obtain ⟨x_84, x_84_e, H⟩ := lt_e H
              refine z_st (congrArg (fun z => vi z :: []) x_84_e) ?_
              refine z_istore (M := M_X3_whereIs) (lv' := [some (vr shape_0), some (vi x_0), some (vi y_0), some (zv x_15), some (zv ends_71), some (zv held_72), some (zv odd_73), some (vi from_32), some (vi at_20), some (vi row_33), some (vi (from_32 + x_45)), some (vi i_74), some (vi x_84)]) dX3_whereIs_149 (Nat.le_of_ble_eq_true rfl) rfl rfl ?_
              obtain ⟨v_180, he_181, hk_182⟩ := bd_e H
              have J_183 : v_180 = true → YY l E M_X3_whereIs 4 0 0 (pS (some (vi r)) σ) 263 [some (vr shape_0), some (vi x_0), some (vi y_0), some (zv x_15), some (zv ends_71), some (zv held_72), some (zv odd_73), some (vi from_32), some (vi at_20), some (vi row_33), some (vi (from_32 + x_45)), some (vi i_74), some (vi x_84)] [] σ 0 0 := by
                intro e
                have H := hk_182
                rw [e] at H
                rcases if_e H with ⟨_, H⟩ | ⟨q, H⟩
                · refine z_iinc (M := M_X3_whereIs) (lv' := [some (vr shape_0), some (vi x_0), some (vi y_0), some (zv x_15), some (zv ends_71), some (zv held_72), some (zv odd_73), some (vi from_32), some (vi at_20), some (vi row_33), some (vi (from_32 + x_45)), some (vi (i_74 + 1)), some (vi x_84)]) dX3_whereIs_263 rfl (Nat.le_of_ble_eq_true rfl) rfl rfl ?_
                  refine z_goto (M := M_X3_whereIs) (tgt := 124) dX3_whereIs_266 (by decide) ?_
                  refine z_le (lv' := [some (vr shape_0), some (vi x_0), some (vi y_0), some (zv x_15), some (zv ends_71), some (zv held_72), some (zv odd_73), some (vi from_32), some (vi at_20), some (vi row_33), some (vi (from_32 + x_45)), some (vi (i_74 + 1)), none]) ⟨Or.inr rfl, Or.inr rfl, Or.inr rfl, Or.inr rfl, Or.inr rfl, Or.inr rfl, Or.inr rfl, Or.inr rfl, Or.inr rfl, Or.inr rfl, Or.inr rfl, Or.inr rfl, Or.inl rfl, trivial⟩ ?_
                  exact K_80 _ (Option.some.inj H).symm
                · exact absurd rfl q
              have J_184 : v_180 = false → YY l E M_X3_whereIs 4 0 0 (pS (some (vi r)) σ) 176 [some (vr shape_0), some (vi x_0), some (vi y_0), some (zv x_15), some (zv ends_71), some (zv held_72), some (zv odd_73), some (vi from_32), some (vi at_20), some (vi row_33), some (vi (from_32 + x_45)), some (vi i_74), some (vi x_84)] [] σ 0 0 := by
                intro e
                have H := hk_182
                rw [e] at H
                rcases if_e H with ⟨q, H⟩ | ⟨_, H⟩
                · exact nomatch q
                · obtain ⟨v_146, he_143, hk_144⟩ := bd_e H
                  have J_179 : ∀ held_158, v_146 = held_158 → YY l E M_X3_whereIs 4 0 0 (pS (some (vi r)) σ) 215 [some (vr shape_0), some (vi x_0), some (vi y_0), some (zv x_15), some (zv ends_71), some (zv held_158), some (zv odd_73), some (vi from_32), some (vi at_20), some (vi row_33), some (vi (from_32 + x_45)), some (vi i_74), some (vi x_84)] [] σ 0 0 := by
                    intro held_158 e
                    have H := hk_144
                    rw [e] at H
                    obtain ⟨v_162, he_159, hk_160⟩ := bd_e H
                    have J_178 : ∀ odd_176, v_162 = odd_176 → YY l E M_X3_whereIs 4 0 0 (pS (some (vi r)) σ) 263 [some (vr shape_0), some (vi x_0), some (vi y_0), some (zv x_15), some (zv ends_71), some (zv held_158), some (zv odd_176), some (vi from_32), some (vi at_20), some (vi row_33), some (vi (from_32 + x_45)), some (vi i_74), some (vi x_84)] [] σ 0 0 := by
                      intro odd_176 e
                      have H := hk_160
                      rw [e] at H
                      refine z_iinc (M := M_X3_whereIs) (lv' := [some (vr shape_0), some (vi x_0), some (vi y_0), some (zv x_15), some (zv ends_71), some (zv held_158), some (zv odd_176), some (vi from_32), some (vi at_20), some (vi row_33), some (vi (from_32 + x_45)), some (vi (i_74 + 1)), some (vi x_84)]) dX3_whereIs_263 rfl (Nat.le_of_ble_eq_true rfl) rfl rfl ?_
                      refine z_goto (M := M_X3_whereIs) (tgt := 124) dX3_whereIs_266 (by decide) ?_
                      refine z_le (lv' := [some (vr shape_0), some (vi x_0), some (vi y_0), some (zv x_15), some (zv ends_71), some (zv held_158), some (zv odd_176), some (vi from_32), some (vi at_20), some (vi row_33), some (vi (from_32 + x_45)), some (vi (i_74 + 1)), none]) ⟨Or.inr rfl, Or.inr rfl, Or.inr rfl, Or.inr rfl, Or.inr rfl, Or.inr rfl, Or.inr rfl, Or.inr rfl, Or.inr rfl, Or.inr rfl, Or.inr rfl, Or.inr rfl, Or.inl rfl, trivial⟩ ?_
                      exact K_80 _ (Option.some.inj H).symm
                    have H := he_159
                    refine z_aload_n (M := M_X3_whereIs) dX3_whereIs_215 rfl ?_
                    refine z_getR (M := M_X3_whereIs) (ci := 9) (C := RX6) (T := TX6) (Nf := 5) (ty := tyX6) cl9 dX3_whereIs_216 (ly_S h_shape) 1 (by decide) t_62 rfl ?_
                    refine z_iload (M := M_X3_whereIs) dX3_whereIs_219 rfl ?_
                    obtain ⟨x_163, x_163_e, hi_164, H⟩ := rd_e H
                    refine z_iald (M := M_X3_whereIs) dX3_whereIs_221 (ly_Sx h_shape) rfl rfl rfl hi_164 x_163_e ?_
                    refine z_aload_n (M := M_X3_whereIs) dX3_whereIs_222 rfl ?_
                    refine z_getR (M := M_X3_whereIs) (ci := 9) (C := RX6) (T := TX6) (Nf := 5) (ty := tyX6) cl9 dX3_whereIs_223 (ly_S h_shape) 2 (by decide) t_69 rfl ?_
                    refine z_iload (M := M_X3_whereIs) dX3_whereIs_226 rfl ?_
                    obtain ⟨x_165, x_165_e, hi_166, H⟩ := rd_e H
                    refine z_iald (M := M_X3_whereIs) dX3_whereIs_228 (ly_Sy h_shape) rfl rfl rfl hi_166 x_165_e ?_
                    refine z_aload_n (M := M_X3_whereIs) dX3_whereIs_229 rfl ?_
                    refine z_getR (M := M_X3_whereIs) (ci := 9) (C := RX6) (T := TX6) (Nf := 5) (ty := tyX6) cl9 dX3_whereIs_230 (ly_S h_shape) 1 (by decide) t_62 rfl ?_
                    refine z_iload (M := M_X3_whereIs) dX3_whereIs_233 rfl ?_
                    obtain ⟨x_167, x_167_e, hi_168, H⟩ := rd_e H
                    refine z_iald (M := M_X3_whereIs) dX3_whereIs_235 (ly_Sx h_shape) rfl rfl rfl hi_168 x_167_e ?_
                    refine z_aload_n (M := M_X3_whereIs) dX3_whereIs_236 rfl ?_
                    refine z_getR (M := M_X3_whereIs) (ci := 9) (C := RX6) (T := TX6) (Nf := 5) (ty := tyX6) cl9 dX3_whereIs_237 (ly_S h_shape) 2 (by decide) t_69 rfl ?_
                    refine z_iload (M := M_X3_whereIs) dX3_whereIs_240 rfl ?_
                    obtain ⟨x_169, x_169_e, hi_170, H⟩ := rd_e H
                    refine z_iald (M := M_X3_whereIs) dX3_whereIs_242 (ly_Sy h_shape) rfl rfl rfl hi_170 x_169_e ?_
                    refine z_iload_n (M := M_X3_whereIs) dX3_whereIs_243 rfl ?_
                    refine z_iload_n (M := M_X3_whereIs) dX3_whereIs_244 rfl ?_
                    refine z_callSN (M := M_X3_whereIs) (M' := M_X11_isCrossedFrom) (as := [vi x_163, vi x_165, vi x_167, vi x_169, vi x_0, vi y_0]) (rest := []) rfl rfl dX3_whereIs_245 m_X11_isCrossedFrom n_2026 t_1325 (c_X11_isCrossedFrom hl  rfl) rfl rfl (Nat.le_of_ble_eq_true rfl) (Nat.le_of_ble_eq_true rfl) (Nat.le_of_ble_eq_true rfl) (Nat.le_of_ble_eq_true rfl) ?_
                    refine z_st (st' := [zv (fQ_isCrossedFrom x_163 x_165 x_167 x_169 x_0 y_0)]) rfl ?_
                    rcases if_e H with ⟨h_171, H⟩ | ⟨h_171, H⟩
                    · refine z_zeq_f (M := M_X3_whereIs) (tgt := 263) dX3_whereIs_248 (by decide) h_171 ?_
                      have J_172 : YY l E M_X3_whereIs 4 0 0 (pS (some (vi r)) σ) 261 [some (vr shape_0), some (vi x_0), some (vi y_0), some (zv x_15), some (zv ends_71), some (zv held_158), some (zv odd_73), some (vi from_32), some (vi at_20), some (vi row_33), some (vi (from_32 + x_45)), some (vi i_74), some (vi x_84)] [zv (decide (¬ (odd_73 = true)))] σ 0 0 := by
                        refine z_zstore (M := M_X3_whereIs) (lv' := [some (vr shape_0), some (vi x_0), some (vi y_0), some (zv x_15), some (zv ends_71), some (zv held_158), some (zv (decide (¬ (odd_73 = true)))), some (vi from_32), some (vi at_20), some (vi row_33), some (vi (from_32 + x_45)), some (vi i_74), some (vi x_84)]) dX3_whereIs_261 (Nat.le_of_ble_eq_true rfl) rfl rfl ?_
                        exact J_178 _ (Option.some.inj H).symm
                      refine z_zload (M := M_X3_whereIs) dX3_whereIs_251 rfl ?_
                      by_cases h_174 : odd_73 = true
                      · refine z_zne_t (M := M_X3_whereIs) (tgt := 260) dX3_whereIs_253 (by decide) h_174 ?_
                        refine z_iconst (M := M_X3_whereIs) dX3_whereIs_260 ?_
                        exact z_st (by rw [zv_f (p := ¬ (odd_73 = true)) (not_not_intro h_174)]) J_172
                      · refine z_zne_f (M := M_X3_whereIs) (tgt := 260) dX3_whereIs_253 (by decide) h_174 ?_
                        refine z_iconst (M := M_X3_whereIs) dX3_whereIs_256 ?_
                        refine z_goto (M := M_X3_whereIs) (tgt := 261) dX3_whereIs_257 (by decide) ?_
                        exact z_st (by rw [zv_t (p := ¬ (odd_73 = true)) h_174]) J_172
                    · refine z_zeq_t (M := M_X3_whereIs) (tgt := 263) dX3_whereIs_248 (by decide) h_171 ?_
                      exact J_178 _ (Option.some.inj H).symm
                  have H := he_143
                  refine z_aload_n (M := M_X3_whereIs) dX3_whereIs_176 rfl ?_
                  refine z_getR (M := M_X3_whereIs) (ci := 9) (C := RX6) (T := TX6) (Nf := 5) (ty := tyX6) cl9 dX3_whereIs_177 (ly_S h_shape) 1 (by decide) t_62 rfl ?_
                  refine z_iload (M := M_X3_whereIs) dX3_whereIs_180 rfl ?_
                  obtain ⟨x_147, x_147_e, hi_148, H⟩ := rd_e H
                  refine z_iald (M := M_X3_whereIs) dX3_whereIs_182 (ly_Sx h_shape) rfl rfl rfl hi_148 x_147_e ?_
                  refine z_aload_n (M := M_X3_whereIs) dX3_whereIs_183 rfl ?_
                  refine z_getR (M := M_X3_whereIs) (ci := 9) (C := RX6) (T := TX6) (Nf := 5) (ty := tyX6) cl9 dX3_whereIs_184 (ly_S h_shape) 2 (by decide) t_69 rfl ?_
                  refine z_iload (M := M_X3_whereIs) dX3_whereIs_187 rfl ?_
                  obtain ⟨x_149, x_149_e, hi_150, H⟩ := rd_e H
                  refine z_iald (M := M_X3_whereIs) dX3_whereIs_189 (ly_Sy h_shape) rfl rfl rfl hi_150 x_149_e ?_
                  refine z_aload_n (M := M_X3_whereIs) dX3_whereIs_190 rfl ?_
                  refine z_getR (M := M_X3_whereIs) (ci := 9) (C := RX6) (T := TX6) (Nf := 5) (ty := tyX6) cl9 dX3_whereIs_191 (ly_S h_shape) 1 (by decide) t_62 rfl ?_
                  refine z_iload (M := M_X3_whereIs) dX3_whereIs_194 rfl ?_
                  obtain ⟨x_151, x_151_e, hi_152, H⟩ := rd_e H
                  refine z_iald (M := M_X3_whereIs) dX3_whereIs_196 (ly_Sx h_shape) rfl rfl rfl hi_152 x_151_e ?_
                  refine z_aload_n (M := M_X3_whereIs) dX3_whereIs_197 rfl ?_
                  refine z_getR (M := M_X3_whereIs) (ci := 9) (C := RX6) (T := TX6) (Nf := 5) (ty := tyX6) cl9 dX3_whereIs_198 (ly_S h_shape) 2 (by decide) t_69 rfl ?_
                  refine z_iload (M := M_X3_whereIs) dX3_whereIs_201 rfl ?_
                  obtain ⟨x_153, x_153_e, hi_154, H⟩ := rd_e H
                  refine z_iald (M := M_X3_whereIs) dX3_whereIs_203 (ly_Sy h_shape) rfl rfl rfl hi_154 x_153_e ?_
                  refine z_iload_n (M := M_X3_whereIs) dX3_whereIs_204 rfl ?_
                  refine z_iload_n (M := M_X3_whereIs) dX3_whereIs_205 rfl ?_
                  refine z_callSN (M := M_X3_whereIs) (M' := M_X11_isOnSegment) (as := [vi x_147, vi x_149, vi x_151, vi x_153, vi x_0, vi y_0]) (rest := []) rfl rfl dX3_whereIs_206 m_X11_isOnSegment n_2025 t_1320 (c_X11_isOnSegment hl  rfl) rfl rfl (Nat.le_of_ble_eq_true rfl) (Nat.le_of_ble_eq_true rfl) (Nat.le_of_ble_eq_true rfl) (Nat.le_of_ble_eq_true rfl) ?_
                  refine z_st (st' := [zv (fQ_isOnSegment x_147 x_149 x_151 x_153 x_0 y_0)]) rfl ?_
                  rcases if_e H with ⟨h_155, H⟩ | ⟨h_155, H⟩
                  · refine z_zeq_f (M := M_X3_whereIs) (tgt := 215) dX3_whereIs_209 (by decide) h_155 ?_
                    refine z_zconst (M := M_X3_whereIs) (b := true) dX3_whereIs_212 rfl ?_
                    refine z_zstore (M := M_X3_whereIs) (lv' := [some (vr shape_0), some (vi x_0), some (vi y_0), some (zv x_15), some (zv ends_71), some (zv true), some (zv odd_73), some (vi from_32), some (vi at_20), some (vi row_33), some (vi (from_32 + x_45)), some (vi i_74), some (vi x_84)]) dX3_whereIs_213 (Nat.le_of_ble_eq_true rfl) rfl rfl ?_
                    exact J_179 _ (Option.some.inj H).symm
                  · refine z_zeq_t (M := M_X3_whereIs) (tgt := 215) dX3_whereIs_209 (by decide) h_155 ?_
                    exact J_179 _ (Option.some.inj H).symm
              have H := he_181
              refine z_aload_n (M := M_X3_whereIs) dX3_whereIs_151 rfl ?_
              refine z_iload (M := M_X3_whereIs) dX3_whereIs_152 rfl ?_
              refine z_iload (M := M_X3_whereIs) dX3_whereIs_154 rfl ?_
              obtain ⟨x_133, hc_132, H⟩ := bd_e H
              refine z_callV (M := M_X3_whereIs) (M' := M_X6_areLike) (as := [vi i_74, vi x_84]) (rest := []) rfl rfl dX3_whereIs_156 m_X6_areLike t_1904 t_1188 t_1189 (c_X6_areLike hl h_shape hc_132) rfl rfl (ly_S h_shape) rfl (Nat.le_of_ble_eq_true rfl) (Nat.le_of_ble_eq_true rfl) (Nat.le_of_ble_eq_true rfl) (Nat.le_of_ble_eq_true rfl) ?_
              refine z_st (st' := [zv x_133]) rfl ?_
              rcases if_e H with ⟨h_134, H⟩ | ⟨h_134, H⟩
              · refine z_zne_t (M := M_X3_whereIs) (tgt := 263) dX3_whereIs_159 (by decide) h_134 ?_
                exact J_183 (Option.some.inj H).symm
              · refine z_zne_f (M := M_X3_whereIs) (tgt := 263) dX3_whereIs_159 (by decide) h_134 ?_
                refine z_iload (M := M_X3_whereIs) dX3_whereIs_162 rfl ?_
                refine z_iload (M := M_X3_whereIs) dX3_whereIs_164 rfl ?_
                rcases if_e H with ⟨h_136, H⟩ | ⟨h_136, H⟩
                · refine z_icmp_ne_f (M := M_X3_whereIs) (tgt := 176) dX3_whereIs_166 (by decide) rfl rfl h_136 ?_
                  refine z_zload_n (M := M_X3_whereIs) dX3_whereIs_169 rfl ?_
                  rcases if_e H with ⟨h_137, H⟩ | ⟨h_137, H⟩
                  · refine z_zne_t (M := M_X3_whereIs) (tgt := 176) dX3_whereIs_170 (by decide) h_137 ?_
                    exact J_184 (Option.some.inj H).symm
                  · refine z_zne_f (M := M_X3_whereIs) (tgt := 176) dX3_whereIs_170 (by decide) h_137 ?_
                    refine z_goto (M := M_X3_whereIs) (tgt := 263) dX3_whereIs_173 (by decide) ?_
                    exact J_183 (Option.some.inj H).symm
                · refine z_icmp_ne_t (M := M_X3_whereIs) (tgt := 176) dX3_whereIs_166 (by decide) rfl rfl h_136 ?_
                  exact J_184 (Option.some.inj H).symm
            refine z_iload (M := M_X3_whereIs) dX3_whereIs_131 rfl ?_
            refine z_iconst (M := M_X3_whereIs) dX3_whereIs_133 ?_
            refine z_iadd (M := M_X3_whereIs) dX3_whereIs_134 ?_
            refine z_iload (M := M_X3_whereIs) dX3_whereIs_135 rfl ?_
            by_cases h_185 : (w32 (i_74 + 1)) < (w32 (from_32 + x_45))
            · refine z_icmp_ge_f (M := M_X3_whereIs) (tgt := 147) dX3_whereIs_137 (by decide) rfl rfl h_185 ?_
              refine z_iload (M := M_X3_whereIs) dX3_whereIs_140 rfl ?_
              refine z_iconst (M := M_X3_whereIs) dX3_whereIs_142 ?_
              refine z_iadd (M := M_X3_whereIs) dX3_whereIs_143 ?_
              refine z_goto (M := M_X3_whereIs) (tgt := 149) dX3_whereIs_144 (by decide) ?_
              exact z_st (by rw [if_pos (c := (w32 (i_74 + 1)) < (w32 (from_32 + x_45))) h_185]) J_83
            · refine z_icmp_ge_t (M := M_X3_whereIs) (tgt := 147) dX3_whereIs_137 (by decide) rfl rfl (Int.not_lt.mp h_185) ?_
              refine z_iload (M := M_X3_whereIs) dX3_whereIs_147 rfl ?_
              exact z_st (by rw [if_neg (c := (w32 (i_74 + 1)) < (w32 (from_32 + x_45))) h_185]) J_83
          · refine z_icmp_ge_t (M := M_X3_whereIs) (tgt := 269) dX3_whereIs_128 (by decide) rfl rfl (Int.not_lt.mp h_82) ?_
            exact J_191 _ _ _ (K_81 _ (Option.some.inj H).symm).symm
        have H := he_46
        refine z_iload (M := M_X3_whereIs) dX3_whereIs_80 rfl ?_
        refine z_iload (M := M_X3_whereIs) dX3_whereIs_82 rfl ?_
        rcases if_e H with ⟨h_60, H⟩ | ⟨h_60, H⟩
        · refine z_icmp_ge_f (M := M_X3_whereIs) (tgt := 120) dX3_whereIs_84 (by decide) rfl rfl h_60 ?_
          refine z_aload_n (M := M_X3_whereIs) dX3_whereIs_87 rfl ?_
          refine z_iload (M := M_X3_whereIs) dX3_whereIs_88 rfl ?_
          refine z_iload_n (M := M_X3_whereIs) dX3_whereIs_90 rfl ?_
          refine z_iload_n (M := M_X3_whereIs) dX3_whereIs_91 rfl ?_
          obtain ⟨x_62, hc_61, H⟩ := bd_e H
          refine z_callV (M := M_X3_whereIs) (M' := M_X6_isAt) (as := [vi from_32, vi x_0, vi y_0]) (rest := []) rfl rfl dX3_whereIs_92 m_X6_isAt t_2021 t_2022 t_2023 (c_X6_isAt hl h_shape hc_61) rfl rfl (ly_S h_shape) rfl (Nat.le_of_ble_eq_true rfl) (Nat.le_of_ble_eq_true rfl) (Nat.le_of_ble_eq_true rfl) (Nat.le_of_ble_eq_true rfl) ?_
          refine z_st (st' := [zv x_62]) rfl ?_
          refine z_aload_n (M := M_X3_whereIs) dX3_whereIs_95 rfl ?_
          refine z_iload (M := M_X3_whereIs) dX3_whereIs_96 rfl ?_
          refine z_iconst (M := M_X3_whereIs) dX3_whereIs_98 ?_
          refine z_isub (M := M_X3_whereIs) dX3_whereIs_99 ?_
          refine z_iload_n (M := M_X3_whereIs) dX3_whereIs_100 rfl ?_
          refine z_iload_n (M := M_X3_whereIs) dX3_whereIs_101 rfl ?_
          obtain ⟨x_64, hc_63, H⟩ := bd_e H
          refine z_callV (M := M_X3_whereIs) (M' := M_X6_isAt) (as := [vi ((from_32 + x_45) - 1), vi x_0, vi y_0]) (rest := [zv x_62]) rfl rfl dX3_whereIs_102 m_X6_isAt t_2021 t_2022 t_2023 (c_X6_isAt hl h_shape hc_63) rfl rfl (ly_S h_shape) rfl (Nat.le_of_ble_eq_true rfl) (Nat.le_of_ble_eq_true rfl) (Nat.le_of_ble_eq_true rfl) (Nat.le_of_ble_eq_true rfl) ?_
          refine z_st (st' := [zv x_64, zv x_62]) rfl ?_
          rcases if_e H with ⟨h_65, H⟩ | ⟨h_65, H⟩
          · refine z_ceq_f (M := M_X3_whereIs) (tgt := 120) dX3_whereIs_105 (by decide)  h_65 ?_
            have J_66 : YY l E M_X3_whereIs 4 0 0 (pS (some (vi r)) σ) 118 [some (vr shape_0), some (vi x_0), some (vi y_0), some (zv x_15), some (zv ends_29), some (zv held_30), some (zv odd_31), some (vi from_32), some (vi at_20), some (vi row_33), some (vi (from_32 + x_45)), none, none] [zv (decide (¬ (ends_29 = true)))] σ 0 0 := by
              refine z_zstore (M := M_X3_whereIs) (lv' := [some (vr shape_0), some (vi x_0), some (vi y_0), some (zv x_15), some (zv (decide (¬ (ends_29 = true)))), some (zv held_30), some (zv odd_31), some (vi from_32), some (vi at_20), some (vi row_33), some (vi (from_32 + x_45)), none, none]) dX3_whereIs_118 (Nat.le_of_ble_eq_true rfl) rfl rfl ?_
              exact J_192 _ (Option.some.inj H).symm
            refine z_zload (M := M_X3_whereIs) dX3_whereIs_108 rfl ?_
            by_cases h_68 : ends_29 = true
            · refine z_zne_t (M := M_X3_whereIs) (tgt := 117) dX3_whereIs_110 (by decide) h_68 ?_
              refine z_iconst (M := M_X3_whereIs) dX3_whereIs_117 ?_
              exact z_st (by rw [zv_f (p := ¬ (ends_29 = true)) (not_not_intro h_68)]) J_66
            · refine z_zne_f (M := M_X3_whereIs) (tgt := 117) dX3_whereIs_110 (by decide) h_68 ?_
              refine z_iconst (M := M_X3_whereIs) dX3_whereIs_113 ?_
              refine z_goto (M := M_X3_whereIs) (tgt := 118) dX3_whereIs_114 (by decide) ?_
              exact z_st (by rw [zv_t (p := ¬ (ends_29 = true)) h_68]) J_66
          · refine z_ceq_t (M := M_X3_whereIs) (tgt := 120) dX3_whereIs_105 (by decide)  (Decidable.not_not.mp h_65) ?_
            exact J_192 _ (Option.some.inj H).symm
        · refine z_icmp_ge_t (M := M_X3_whereIs) (tgt := 120) dX3_whereIs_84 (by decide) rfl rfl (Int.not_lt.mp h_60) ?_
          exact J_192 _ (Option.some.inj H).symm
      · refine z_icmp_ge_t (M := M_X3_whereIs) (tgt := 279) dX3_whereIs_64 (by decide) rfl rfl (Int.not_lt.mp h_43) ?_
        exact J_202 _ _ _ _ _ (K_40 _ (Option.some.inj H).symm).symm
    · refine z_icmp_ge_t (M := M_X3_whereIs) (tgt := 290) dX3_whereIs_50 (by decide) rfl rfl (Int.not_lt.mp h_28) ?_
      exact J_222 _ _ _ _ _ (K_27 _ (Option.some.inj H).symm).symm
theorem c_X11_locate (hl : l.stackTraces = false) {σ : SG} {slot_0 : Int} {x_0 : Int} {y_0 : Int} {r : Int ⊕ Nat} {σ' : SG}  (H : fQ_locate σ slot_0 x_0 y_0 = some (r, σ')) : en_S l E M_X11_locate 7 3 18 [vr 32, vi slot_0, vi x_0, vi y_0] σ (pT (riT r) σ') := by
  unfold fQ_locate at H
  refine z_mk (lv := [some (vr 32), some (vi slot_0), some (vi x_0), some (vi y_0), none]) m_X11_locate rfl hl (Nat.le_of_ble_eq_true rfl) rfl ?_
  refine z_aload_n (M := M_X11_locate) dX11_locate_0 rfl ?_
  refine z_iload_n (M := M_X11_locate) dX11_locate_1 rfl ?_
  obtain ⟨z_32, σ_2, hc_1, K_4, K_5⟩ := bt_e H
  rcases z_32 with x_3 | z_32
  · have H := K_4 _ rfl
    refine z_callV (M := M_X11_locate) (M' := M_X11_slotNumbered) (as := [vi slot_0]) (rest := []) rfl rfl dX11_locate_2 m_X11_slotNumbered t_744 t_746 s_2 (v := some (vr x_3)) (c_X11_slotNumbered hl  hc_1) rfl rfl ly_32 rfl (Nat.le_of_ble_eq_true rfl) (Nat.le_of_ble_eq_true rfl) (Nat.le_of_ble_eq_true rfl) (Nat.le_of_ble_eq_true rfl) ?_
    refine z_st (st' := [vr x_3]) rfl ?_
    obtain ⟨hs_6, H⟩ := ck_e H
    refine z_astore (M := M_X11_locate) (lv' := [some (vr 32), some (vi slot_0), some (vi x_0), some (vi y_0), some (vr x_3)]) dX11_locate_5 (Nat.le_of_ble_eq_true rfl) rfl rfl ?_
    refine z_aload (M := M_X11_locate) dX11_locate_7 rfl ?_
    obtain ⟨z_31, σ_8, hc_7, K_10, K_11⟩ := bt_e H
    rcases z_31 with x_9 | z_31
    · have H := K_10 _ rfl
      refine z_callS (M := M_X11_locate) (M' := M_X11_mustBeThere) (as := [vr x_3]) (rest := []) rfl rfl dX11_locate_9 m_X11_mustBeThere t_1047 t_1048 (v := none) (c_X11_mustBeThere hl hs_6 hc_7) rfl rfl (Nat.le_of_ble_eq_true rfl) (Nat.le_of_ble_eq_true rfl) (Nat.le_of_ble_eq_true rfl) (Nat.le_of_ble_eq_true rfl) ?_
      refine z_st (st' := []) rfl ?_
      refine z_iload_n (M := M_X11_locate) dX11_locate_12 rfl ?_
      refine z_ldc (M := M_X11_locate) (n := 500000000) dX11_locate_13 t_1380 (by decide +kernel) ?_
      refine z_callS (M := M_X11_locate) (M' := M_X11_isBeyond) (as := [vi x_0, vi 500000000]) (rest := []) rfl rfl dX11_locate_15 m_X11_isBeyond t_2073 t_1386 (c_X11_isBeyond hl  rfl) rfl rfl (Nat.le_of_ble_eq_true rfl) (Nat.le_of_ble_eq_true rfl) (Nat.le_of_ble_eq_true rfl) (Nat.le_of_ble_eq_true rfl) ?_
      refine z_st (st' := [zv (fQ_isBeyond x_0 500000000)]) rfl ?_
      rcases if_e H with ⟨h_21, H⟩ | ⟨h_21, H⟩
      · refine z_zne_t (M := M_X11_locate) (tgt := 38) dX11_locate_18 (by decide) h_21 ?_
        cases H
        exact z_throw (M := M_X11_locate) (names := en_nm) rfl dX11_locate_38 dX11_locate_41 dX11_locate_42 dX11_locate_45 (by decide +kernel) en_nm_ok (Or.inl t_721) (Or.inl t_19) at_X11_IllegalArgumentException_118 (Nat.le_of_ble_eq_true rfl) (Nat.le_of_ble_eq_true rfl) (Nat.le_of_ble_eq_true rfl) (Nat.le_of_ble_eq_true rfl) ⟨rfl, rfl⟩
      · refine z_zne_f (M := M_X11_locate) (tgt := 38) dX11_locate_18 (by decide) h_21 ?_
        refine z_iload_n (M := M_X11_locate) dX11_locate_21 rfl ?_
        refine z_ldc (M := M_X11_locate) (n := 500000000) dX11_locate_22 t_1380 (by decide +kernel) ?_
        refine z_callS (M := M_X11_locate) (M' := M_X11_isBeyond) (as := [vi y_0, vi 500000000]) (rest := []) rfl rfl dX11_locate_24 m_X11_isBeyond t_2073 t_1386 (c_X11_isBeyond hl  rfl) rfl rfl (Nat.le_of_ble_eq_true rfl) (Nat.le_of_ble_eq_true rfl) (Nat.le_of_ble_eq_true rfl) (Nat.le_of_ble_eq_true rfl) ?_
        refine z_st (st' := [zv (fQ_isBeyond y_0 500000000)]) rfl ?_
        rcases if_e H with ⟨h_22, H⟩ | ⟨h_22, H⟩
        · refine z_zne_t (M := M_X11_locate) (tgt := 38) dX11_locate_27 (by decide) h_22 ?_
          cases H
          exact z_throw (M := M_X11_locate) (names := en_nm) rfl dX11_locate_38 dX11_locate_41 dX11_locate_42 dX11_locate_45 (by decide +kernel) en_nm_ok (Or.inl t_721) (Or.inl t_19) at_X11_IllegalArgumentException_118 (Nat.le_of_ble_eq_true rfl) (Nat.le_of_ble_eq_true rfl) (Nat.le_of_ble_eq_true rfl) (Nat.le_of_ble_eq_true rfl) ⟨rfl, rfl⟩
        · refine z_zne_f (M := M_X11_locate) (tgt := 38) dX11_locate_27 (by decide) h_22 ?_
          refine z_aload (M := M_X11_locate) dX11_locate_30 rfl ?_
          obtain ⟨x_24, hc_23, H⟩ := bd_e H
          refine z_callS (M := M_X11_locate) (M' := M_X11_canBeRelated) (as := [vr x_3]) (rest := []) rfl rfl dX11_locate_32 m_X11_canBeRelated t_1883 t_1884 (c_X11_canBeRelated hl hs_6 hc_23) rfl rfl (Nat.le_of_ble_eq_true rfl) (Nat.le_of_ble_eq_true rfl) (Nat.le_of_ble_eq_true rfl) (Nat.le_of_ble_eq_true rfl) ?_
          refine z_st (st' := [zv x_24]) rfl ?_
          rcases if_e H with ⟨h_25, H⟩ | ⟨h_25, H⟩
          · refine z_zne_t (M := M_X11_locate) (tgt := 46) dX11_locate_35 (by decide) h_25 ?_
            refine z_aload (M := M_X11_locate) dX11_locate_46 rfl ?_
            obtain ⟨x_27, hc_26, H⟩ := bd_e H
            refine z_callS (M := M_X11_locate) (M' := M_X3_hasTooManyParts) (as := [vr x_3]) (rest := []) rfl rfl dX11_locate_48 m_X3_hasTooManyParts t_2074 t_1891 (c_X3_hasTooManyParts hl hs_6 hc_26) rfl rfl (Nat.le_of_ble_eq_true rfl) (Nat.le_of_ble_eq_true rfl) (Nat.le_of_ble_eq_true rfl) (Nat.le_of_ble_eq_true rfl) ?_
            refine z_st (st' := [zv x_27]) rfl ?_
            rcases if_e H with ⟨h_28, H⟩ | ⟨h_28, H⟩
            · refine z_zeq_f (M := M_X11_locate) (tgt := 62) dX11_locate_51 (by decide) h_28 ?_
              cases H
              exact z_throw (M := M_X11_locate) (names := en_nm) rfl dX11_locate_54 dX11_locate_57 dX11_locate_58 dX11_locate_61 (by decide +kernel) en_nm_ok (Or.inl t_1857) (Or.inl t_34) at_X11_UnsupportedOperationException_234 (Nat.le_of_ble_eq_true rfl) (Nat.le_of_ble_eq_true rfl) (Nat.le_of_ble_eq_true rfl) (Nat.le_of_ble_eq_true rfl) ⟨rfl, rfl⟩
            · refine z_zeq_t (M := M_X11_locate) (tgt := 62) dX11_locate_51 (by decide) h_28 ?_
              refine z_aload (M := M_X11_locate) dX11_locate_62 rfl ?_
              refine z_iload_n (M := M_X11_locate) dX11_locate_64 rfl ?_
              refine z_iload_n (M := M_X11_locate) dX11_locate_65 rfl ?_
              obtain ⟨x_30, hc_29, H⟩ := bd_e H
              refine z_callS (M := M_X11_locate) (M' := M_X3_whereIs) (as := [vr x_3, vi x_0, vi y_0]) (rest := []) rfl rfl dX11_locate_66 m_X3_whereIs t_2075 t_2016 (c_X3_whereIs hl hs_6 hc_29) rfl rfl (Nat.le_of_ble_eq_true rfl) (Nat.le_of_ble_eq_true rfl) (Nat.le_of_ble_eq_true rfl) (Nat.le_of_ble_eq_true rfl) ?_
              refine z_st (st' := [vi x_30]) rfl ?_
              cases H
              exact z_iret (M := M_X11_locate) dX11_locate_69 rfl (Nat.le_of_ble_eq_true rfl) (Nat.le_of_ble_eq_true rfl) ⟨rfl, rfl⟩
          · refine z_zne_f (M := M_X11_locate) (tgt := 46) dX11_locate_35 (by decide) h_25 ?_
            cases H
            exact z_throw (M := M_X11_locate) (names := en_nm) rfl dX11_locate_38 dX11_locate_41 dX11_locate_42 dX11_locate_45 (by decide +kernel) en_nm_ok (Or.inl t_721) (Or.inl t_19) at_X11_IllegalArgumentException_118 (Nat.le_of_ble_eq_true rfl) (Nat.le_of_ble_eq_true rfl) (Nat.le_of_ble_eq_true rfl) (Nat.le_of_ble_eq_true rfl) ⟨rfl, rfl⟩
    · have H := K_11 _ rfl
      cases H
      exact z_callSX (M := M_X11_locate) (M' := M_X11_mustBeThere) (as := [vr x_3]) (rest := []) rfl rfl dX11_locate_9 m_X11_mustBeThere t_1047 t_1048 (e := z_31) (c_X11_mustBeThere hl hs_6 hc_7) rfl rfl (Nat.le_of_ble_eq_true rfl) (Nat.le_of_ble_eq_true rfl) (Nat.le_of_ble_eq_true rfl) (Nat.le_of_ble_eq_true rfl) ⟨rfl, rfl⟩
  · have H := K_5 _ rfl
    cases H
    exact z_callVX (M := M_X11_locate) (M' := M_X11_slotNumbered) (as := [vi slot_0]) (rest := []) rfl rfl dX11_locate_2 m_X11_slotNumbered t_744 t_746 s_2 (e := z_32) (c_X11_slotNumbered hl  hc_1) rfl rfl ly_32 rfl (Nat.le_of_ble_eq_true rfl) (Nat.le_of_ble_eq_true rfl) (Nat.le_of_ble_eq_true rfl) (Nat.le_of_ble_eq_true rfl) ⟨rfl, rfl⟩
theorem c_X2_placeAt (hl : l.stackTraces = false) {σ : SG} {key_0 : Int} {r : Int}  (H : fP_placeAt σ key_0 = some r) : en_S l E M_X2_placeAt 1 0 0 [vr 238, vl key_0] σ (pS (some (vi r)) σ) := by
  unfold fP_placeAt at H
  refine z_mk (lv := [some (vr 238), some (vl key_0), none, none, none, none]) m_X2_placeAt rfl hl (Nat.le_of_ble_eq_true rfl) rfl ?_
  refine z_iconst (M := M_X2_placeAt) dX2_placeAt_0 ?_
  refine z_istore_n (M := M_X2_placeAt) (lv' := [some (vr 238), some (vl key_0), none, some (vi 0), none, none]) dX2_placeAt_1 (Nat.le_of_ble_eq_true rfl) rfl rfl ?_
  refine z_aload_n (M := M_X2_placeAt) dX2_placeAt_2 rfl ?_
  refine z_getI (M := M_X2_placeAt) (ci := 5) (C := RX2) (T := TX2) (Nf := 17) (ty := tyX2) cl5 dX2_placeAt_3 ly_238 3 (by decide) t_488 rfl rfl ?_
  refine z_iconst (M := M_X2_placeAt) dX2_placeAt_6 ?_
  refine z_isub (M := M_X2_placeAt) dX2_placeAt_7 ?_
  refine z_istore (M := M_X2_placeAt) (lv' := [some (vr 238), some (vl key_0), none, some (vi 0), some (vi ((σ kP_places 0) - 1)), none]) dX2_placeAt_8 (Nat.le_of_ble_eq_true rfl) rfl rfl ?_
  obtain ⟨rl_6, hw_3, hk_4⟩ := bd_e H
  have J_27 : ∀ low_25 high_26, rl_6 = (low_25, high_26) → YY l E M_X2_placeAt 1 0 0 (pS (some (vi r)) σ) 53 [some (vr 238), some (vl key_0), none, some (vi low_25), some (vi high_26), none] [] σ 0 0 := by
    intro low_25 high_26 e
    have H := hk_4
    rw [e] at H
    refine z_iload_n (M := M_X2_placeAt) dX2_placeAt_53 rfl ?_
    cases H
    exact z_iret (M := M_X2_placeAt) dX2_placeAt_54 rfl (Nat.le_of_ble_eq_true rfl) (Nat.le_of_ble_eq_true rfl) ⟨rfl, rfl⟩
  refine whl_go hw_3 (fun (low_1, high_2) => YY l E M_X2_placeAt 1 0 0 (pS (some (vi r)) σ) 10 [some (vr 238), some (vl key_0), none, some (vi low_1), some (vi high_2), none] [] σ 0 0) ?_
  rintro ⟨low_1, high_2⟩ o_7 H K_8 K_9
  refine z_iload_n (M := M_X2_placeAt) dX2_placeAt_10 rfl ?_
  refine z_iload (M := M_X2_placeAt) dX2_placeAt_11 rfl ?_
  rcases if_e H with ⟨h_10, H⟩ | ⟨h_10, H⟩
  · refine z_icmp_ge_f (M := M_X2_placeAt) (tgt := 53) dX2_placeAt_13 (by decide) rfl rfl h_10 ?_
    refine z_iload_n (M := M_X2_placeAt) dX2_placeAt_16 rfl ?_
    refine z_iload (M := M_X2_placeAt) dX2_placeAt_17 rfl ?_
    refine z_iload_n (M := M_X2_placeAt) dX2_placeAt_19 rfl ?_
    refine z_isub (M := M_X2_placeAt) dX2_placeAt_20 ?_
    refine z_iconst (M := M_X2_placeAt) dX2_placeAt_21 ?_
    refine z_idiv (M := M_X2_placeAt) dX2_placeAt_22 (by decide +kernel) ?_
    refine z_iadd (M := M_X2_placeAt) dX2_placeAt_23 ?_
    refine z_istore (M := M_X2_placeAt) (lv' := [some (vr 238), some (vl key_0), none, some (vi low_1), some (vi high_2), some (vi (low_1 + (q_idv (high_2 - low_1) 2)))]) dX2_placeAt_24 (Nat.le_of_ble_eq_true rfl) rfl rfl ?_
    obtain ⟨v_14, he_11, hk_12⟩ := bd_e H
    have J_23 : ∀ low_20 high_21, v_14 = (low_20, high_21) → YY l E M_X2_placeAt 1 0 0 (pS (some (vi r)) σ) 50 [some (vr 238), some (vl key_0), none, some (vi low_20), some (vi high_21), some (vi (low_1 + (q_idv (high_2 - low_1) 2)))] [] σ 0 0 := by
      intro low_20 high_21 e
      have H := hk_12
      rw [e] at H
      refine z_goto (M := M_X2_placeAt) (tgt := 10) dX2_placeAt_50 (by decide) ?_
      refine z_le (lv' := [some (vr 238), some (vl key_0), none, some (vi low_20), some (vi high_21), none]) ⟨Or.inr rfl, Or.inr rfl, Or.inl rfl, Or.inr rfl, Or.inr rfl, Or.inl rfl, trivial⟩ ?_
      exact K_8 _ (Option.some.inj H).symm
    have H := he_11
    refine z_aload_n (M := M_X2_placeAt) dX2_placeAt_26 rfl ?_
    refine z_getR (M := M_X2_placeAt) (ci := 5) (C := RX2) (T := TX2) (Nf := 17) (ty := tyX2) cl5 dX2_placeAt_27 ly_238 0 (by decide) t_485 rfl ?_
    refine z_iload (M := M_X2_placeAt) dX2_placeAt_30 rfl ?_
    obtain ⟨x_15, x_15_e, hi_16, H⟩ := rd_e H
    refine z_lald (M := M_X2_placeAt) dX2_placeAt_32 ly_239 rfl rfl rfl hi_16 x_15_e ?_
    refine z_lload_n (M := M_X2_placeAt) dX2_placeAt_33 rfl ?_
    refine z_lcmp (M := M_X2_placeAt) dX2_placeAt_34 ?_
    rcases if_e H with ⟨h_17, H⟩ | ⟨h_17, H⟩
    · refine z_lif_ge_f (M := M_X2_placeAt) (tgt := 46) dX2_placeAt_35 (by decide) rfl rfl h_17 ?_
      refine z_iload (M := M_X2_placeAt) dX2_placeAt_38 rfl ?_
      refine z_iconst (M := M_X2_placeAt) dX2_placeAt_40 ?_
      refine z_iadd (M := M_X2_placeAt) dX2_placeAt_41 ?_
      refine z_istore_n (M := M_X2_placeAt) (lv' := [some (vr 238), some (vl key_0), none, some (vi ((low_1 + (q_idv (high_2 - low_1) 2)) + 1)), some (vi high_2), some (vi (low_1 + (q_idv (high_2 - low_1) 2)))]) dX2_placeAt_42 (Nat.le_of_ble_eq_true rfl) rfl rfl ?_
      refine z_goto (M := M_X2_placeAt) (tgt := 50) dX2_placeAt_43 (by decide) ?_
      exact J_23 _ _ (Option.some.inj H).symm
    · refine z_lif_ge_t (M := M_X2_placeAt) (tgt := 46) dX2_placeAt_35 (by decide) rfl rfl (Int.not_lt.mp h_17) ?_
      refine z_iload (M := M_X2_placeAt) dX2_placeAt_46 rfl ?_
      refine z_istore (M := M_X2_placeAt) (lv' := [some (vr 238), some (vl key_0), none, some (vi low_1), some (vi (low_1 + (q_idv (high_2 - low_1) 2))), some (vi (low_1 + (q_idv (high_2 - low_1) 2)))]) dX2_placeAt_48 (Nat.le_of_ble_eq_true rfl) rfl rfl ?_
      exact J_23 _ _ (Option.some.inj H).symm
  · refine z_icmp_ge_t (M := M_X2_placeAt) (tgt := 53) dX2_placeAt_13 (by decide) rfl rfl (Int.not_lt.mp h_10) ?_
    exact J_27 _ _ (K_9 _ (Option.some.inj H).symm).symm
theorem c_X2_numberPlaces (hl : l.stackTraces = false) {σ : SG} {shape_0 : Nat} {σ' : SG} (h_shape : isS shape_0) (H : fP_numberPlaces σ shape_0 = some σ') : en_S l E M_X2_numberPlaces 3 0 0 [vr 238, vr shape_0] σ (pS (none) σ') := by
  unfold fP_numberPlaces at H
  refine z_mk (lv := [some (vr 238), some (vr shape_0), none, none, none]) m_X2_numberPlaces rfl hl (Nat.le_of_ble_eq_true rfl) rfl ?_
  refine z_aload_n (M := M_X2_numberPlaces) dX2_numberPlaces_0 rfl ?_
  refine z_getR (M := M_X2_numberPlaces) (ci := 5) (C := RX2) (T := TX2) (Nf := 17) (ty := tyX2) cl5 dX2_numberPlaces_1 ly_238 4 (by decide) t_489 rfl ?_
  refine z_iconst (M := M_X2_numberPlaces) dX2_numberPlaces_4 ?_
  refine z_aload_n (M := M_X2_numberPlaces) dX2_numberPlaces_5 rfl ?_
  refine z_getI (M := M_X2_numberPlaces) (ci := 5) (C := RX2) (T := TX2) (Nf := 17) (ty := tyX2) cl5 dX2_numberPlaces_6 ly_238 3 (by decide) t_488 rfl rfl ?_
  refine z_iconst (M := M_X2_numberPlaces) dX2_numberPlaces_9 ?_
  obtain ⟨σ_2, hc_1, H⟩ := bd_e H
  refine z_callS (M := M_X2_numberPlaces) (M' := M_J7_fill_fda19) (as := [vr 242, vi 0, vi (σ kP_places 0), vi (-1)]) (rest := []) rfl rfl dX2_numberPlaces_10 m_J7_fill_fda19 t_2096 t_1522 (c_J7_fill_fda19 hl ly_242 hc_1) rfl rfl (Nat.le_of_ble_eq_true rfl) (Nat.le_of_ble_eq_true rfl) (Nat.le_of_ble_eq_true rfl) (Nat.le_of_ble_eq_true rfl) ?_
  refine z_st (st' := []) rfl ?_
  refine z_iconst (M := M_X2_numberPlaces) dX2_numberPlaces_13 ?_
  refine z_istore_n (M := M_X2_numberPlaces) (lv' := [some (vr 238), some (vr shape_0), some (vi 0), none, none]) dX2_numberPlaces_14 (Nat.le_of_ble_eq_true rfl) rfl rfl ?_
  refine z_iconst (M := M_X2_numberPlaces) dX2_numberPlaces_15 ?_
  refine z_istore_n (M := M_X2_numberPlaces) (lv' := [some (vr 238), some (vr shape_0), some (vi 0), some (vi 0), none]) dX2_numberPlaces_16 (Nat.le_of_ble_eq_true rfl) rfl rfl ?_
  obtain ⟨rl_9, hw_6, hk_7⟩ := bd_e H
  have J_41 : ∀ number_38 i_39 σ_40, rl_9 = (number_38, i_39, σ_40) → YY l E M_X2_numberPlaces 3 0 0 (pS (none) σ') 82 [some (vr 238), some (vr shape_0), some (vi number_38), some (vi i_39), none] [] σ_40 0 0 := by
    intro number_38 i_39 σ_40 e
    have H := hk_7
    rw [e] at H
    cases H
    exact z_vret (M := M_X2_numberPlaces) dX2_numberPlaces_82 rfl (Nat.le_of_ble_eq_true rfl) (Nat.le_of_ble_eq_true rfl) ⟨rfl, rfl⟩
  refine whl_go hw_6 (fun (number_3, i_4, σ_5) => YY l E M_X2_numberPlaces 3 0 0 (pS (none) σ') 17 [some (vr 238), some (vr shape_0), some (vi number_3), some (vi i_4), none] [] σ_5 0 0) ?_
  rintro ⟨number_3, i_4, σ_5⟩ o_10 H K_11 K_12
  refine z_iload_n (M := M_X2_numberPlaces) dX2_numberPlaces_17 rfl ?_
  refine z_aload_n (M := M_X2_numberPlaces) dX2_numberPlaces_18 rfl ?_
  refine z_getI (M := M_X2_numberPlaces) (ci := 9) (C := RX6) (T := TX6) (Nf := 5) (ty := tyX6) cl9 dX2_numberPlaces_19 (ly_S h_shape) 4 (by decide) t_82 rfl rfl ?_
  rcases if_e H with ⟨h_13, H⟩ | ⟨h_13, H⟩
  · refine z_icmp_ge_f (M := M_X2_numberPlaces) (tgt := 82) dX2_numberPlaces_22 (by decide) rfl rfl h_13 ?_
    refine z_aload_n (M := M_X2_numberPlaces) dX2_numberPlaces_25 rfl ?_
    refine z_aload_n (M := M_X2_numberPlaces) dX2_numberPlaces_26 rfl ?_
    refine z_getR (M := M_X2_numberPlaces) (ci := 9) (C := RX6) (T := TX6) (Nf := 5) (ty := tyX6) cl9 dX2_numberPlaces_27 (ly_S h_shape) 1 (by decide) t_59 rfl ?_
    refine z_iload_n (M := M_X2_numberPlaces) dX2_numberPlaces_30 rfl ?_
    obtain ⟨x_14, x_14_e, hi_15, H⟩ := rd_e H
    refine z_iald (M := M_X2_numberPlaces) dX2_numberPlaces_31 (ly_Sx h_shape) rfl rfl rfl hi_15 x_14_e ?_
    refine z_aload_n (M := M_X2_numberPlaces) dX2_numberPlaces_32 rfl ?_
    refine z_getR (M := M_X2_numberPlaces) (ci := 9) (C := RX6) (T := TX6) (Nf := 5) (ty := tyX6) cl9 dX2_numberPlaces_33 (ly_S h_shape) 2 (by decide) t_66 rfl ?_
    refine z_iload_n (M := M_X2_numberPlaces) dX2_numberPlaces_36 rfl ?_
    obtain ⟨x_16, x_16_e, hi_17, H⟩ := rd_e H
    refine z_iald (M := M_X2_numberPlaces) dX2_numberPlaces_37 (ly_Sy h_shape) rfl rfl rfl hi_17 x_16_e ?_
    refine z_callSN (M := M_X2_numberPlaces) (M' := M_X11_keyOf) (as := [vi x_14, vi x_16]) (rest := [vr 238]) rfl rfl dX2_numberPlaces_38 m_X11_keyOf n_2087 t_1426 (c_X11_keyOf hl  rfl) rfl rfl (Nat.le_of_ble_eq_true rfl) (Nat.le_of_ble_eq_true rfl) (Nat.le_of_ble_eq_true rfl) (Nat.le_of_ble_eq_true rfl) ?_
    refine z_st (st' := [vl (fQ_keyOf x_14 x_16), vr 238]) rfl ?_
    obtain ⟨x_19, hc_18, H⟩ := bd_e H
    refine z_callV (M := M_X2_numberPlaces) (M' := M_X2_placeAt) (as := [vl (fQ_keyOf x_14 x_16)]) (rest := []) rfl rfl dX2_numberPlaces_41 m_X2_placeAt t_2097 t_2099 s_129 (c_X2_placeAt hl  hc_18) rfl rfl ly_238 rfl (Nat.le_of_ble_eq_true rfl) (Nat.le_of_ble_eq_true rfl) (Nat.le_of_ble_eq_true rfl) (Nat.le_of_ble_eq_true rfl) ?_
    refine z_st (st' := [vi x_19]) rfl ?_
    refine z_istore (M := M_X2_numberPlaces) (lv' := [some (vr 238), some (vr shape_0), some (vi number_3), some (vi i_4), some (vi x_19)]) dX2_numberPlaces_44 (Nat.le_of_ble_eq_true rfl) rfl rfl ?_
    obtain ⟨v_23, he_20, hk_21⟩ := bd_e H
    have J_36 : ∀ number_33 σ_34, v_23 = (number_33, σ_34) → YY l E M_X2_numberPlaces 3 0 0 (pS (none) σ') 76 [some (vr 238), some (vr shape_0), some (vi number_33), some (vi i_4), some (vi x_19)] [] σ_34 0 0 := by
      intro number_33 σ_34 e
      have H := hk_21
      rw [e] at H
      refine z_iinc (M := M_X2_numberPlaces) (lv' := [some (vr 238), some (vr shape_0), some (vi number_33), some (vi (i_4 + 1)), some (vi x_19)]) dX2_numberPlaces_76 rfl (Nat.le_of_ble_eq_true rfl) rfl rfl ?_
      refine z_goto (M := M_X2_numberPlaces) (tgt := 17) dX2_numberPlaces_79 (by decide) ?_
      refine z_le (lv' := [some (vr 238), some (vr shape_0), some (vi number_33), some (vi (i_4 + 1)), none]) ⟨Or.inr rfl, Or.inr rfl, Or.inr rfl, Or.inr rfl, Or.inl rfl, trivial⟩ ?_
      exact K_11 _ (Option.some.inj H).symm
    have H := he_20
    refine z_aload_n (M := M_X2_numberPlaces) dX2_numberPlaces_46 rfl ?_
    refine z_getR (M := M_X2_numberPlaces) (ci := 5) (C := RX2) (T := TX2) (Nf := 17) (ty := tyX2) cl5 dX2_numberPlaces_47 ly_238 4 (by decide) t_489 rfl ?_
    refine z_iload (M := M_X2_numberPlaces) dX2_numberPlaces_50 rfl ?_
    obtain ⟨x_24, x_24_e, hi_25, H⟩ := rd_e H
    refine z_iald (M := M_X2_numberPlaces) dX2_numberPlaces_52 ly_242 rfl rfl rfl hi_25 x_24_e ?_
    refine z_iconst (M := M_X2_numberPlaces) dX2_numberPlaces_53 ?_
    rcases if_e H with ⟨h_26, H⟩ | ⟨h_26, H⟩
    · refine z_icmp_ne_f (M := M_X2_numberPlaces) (tgt := 76) dX2_numberPlaces_54 (by decide) rfl (by decide +kernel) h_26 ?_
      refine z_aload_n (M := M_X2_numberPlaces) dX2_numberPlaces_57 rfl ?_
      refine z_getR (M := M_X2_numberPlaces) (ci := 5) (C := RX2) (T := TX2) (Nf := 17) (ty := tyX2) cl5 dX2_numberPlaces_58 ly_238 4 (by decide) t_489 rfl ?_
      refine z_iload (M := M_X2_numberPlaces) dX2_numberPlaces_61 rfl ?_
      refine z_iload_n (M := M_X2_numberPlaces) dX2_numberPlaces_63 rfl ?_
      obtain ⟨σ_27, σ_27_e, hi_28, H⟩ := wa_e H
      refine z_iast (M := M_X2_numberPlaces) dX2_numberPlaces_64 ly_242 rfl rfl rfl hi_28 σ_27_e ?_
      refine z_aload_n (M := M_X2_numberPlaces) dX2_numberPlaces_65 rfl ?_
      refine z_getR (M := M_X2_numberPlaces) (ci := 5) (C := RX2) (T := TX2) (Nf := 17) (ty := tyX2) cl5 dX2_numberPlaces_66 ly_238 5 (by decide) t_490 rfl ?_
      refine z_iload_n (M := M_X2_numberPlaces) dX2_numberPlaces_69 rfl ?_
      refine z_iload (M := M_X2_numberPlaces) dX2_numberPlaces_70 rfl ?_
      obtain ⟨σ_29, σ_29_e, hi_30, H⟩ := wa_e H
      refine z_iast (M := M_X2_numberPlaces) dX2_numberPlaces_72 ly_243 rfl rfl rfl hi_30 σ_29_e ?_
      refine z_iinc (M := M_X2_numberPlaces) (lv' := [some (vr 238), some (vr shape_0), some (vi (number_3 + 1)), some (vi i_4), some (vi x_19)]) dX2_numberPlaces_73 rfl (Nat.le_of_ble_eq_true rfl) rfl rfl ?_
      exact J_36 _ _ (Option.some.inj H).symm
    · refine z_icmp_ne_t (M := M_X2_numberPlaces) (tgt := 76) dX2_numberPlaces_54 (by decide) rfl (by decide +kernel) h_26 ?_
      exact J_36 _ _ (Option.some.inj H).symm
  · refine z_icmp_ge_t (M := M_X2_numberPlaces) (tgt := 82) dX2_numberPlaces_22 (by decide) rfl rfl (Int.not_lt.mp h_13) ?_
    exact J_41 _ _ _ (K_12 _ (Option.some.inj H).symm).symm
theorem c_X2_gather (hl : l.stackTraces = false) {σ : SG} {shape_0 : Nat} {r : Bool} {σ' : SG} (h_shape : isS shape_0) (H : fP_gather σ shape_0 = some (r, σ')) : en_S l E M_X2_gather 4 0 0 [vr 238, vr shape_0] σ (pS (some (zv r)) σ') := by
  unfold fP_gather at H
  refine z_mk (lv := [some (vr 238), some (vr shape_0), none, none]) m_X2_gather rfl hl (Nat.le_of_ble_eq_true rfl) rfl ?_
  refine z_iconst (M := M_X2_gather) dX2_gather_0 ?_
  refine z_istore_n (M := M_X2_gather) (lv' := [some (vr 238), some (vr shape_0), some (vi 0), none]) dX2_gather_1 (Nat.le_of_ble_eq_true rfl) rfl rfl ?_
  obtain ⟨rl_6, hw_3, hk_4⟩ := bd_e H
  have J_53 : ∀ i_19 σ_20, rl_6 = (i_19, σ_20) → YY l E M_X2_gather 4 0 0 (pS (some (zv r)) σ') 37 [some (vr 238), some (vr shape_0), some (vi i_19), none] [] σ_20 0 0 := by
    intro i_19 σ_20 e
    have H := hk_4
    rw [e] at H
    refine z_aload_n (M := M_X2_gather) dX2_gather_37 rfl ?_
    refine z_getR (M := M_X2_gather) (ci := 5) (C := RX2) (T := TX2) (Nf := 17) (ty := tyX2) cl5 dX2_gather_38 ly_238 0 (by decide) t_485 rfl ?_
    refine z_aload_n (M := M_X2_gather) dX2_gather_41 rfl ?_
    refine z_getI (M := M_X2_gather) (ci := 9) (C := RX6) (T := TX6) (Nf := 5) (ty := tyX6) cl9 dX2_gather_42 (ly_S h_shape) 4 (by decide) t_82 rfl rfl ?_
    obtain ⟨σ_22, hc_21, H⟩ := bd_e H
    refine z_callSN (M := M_X2_gather) (M' := M_X11_sortRow) (as := [vr 239, vi (σ_20 (kA_points shape_0) 0)]) (rest := []) rfl rfl dX2_gather_45 m_X11_sortRow n_2088 t_1417 (c_X11_sortRow hl ly_239 hc_21) rfl rfl (Nat.le_of_ble_eq_true rfl) (Nat.le_of_ble_eq_true rfl) (Nat.le_of_ble_eq_true rfl) (Nat.le_of_ble_eq_true rfl) ?_
    refine z_st (st' := []) rfl ?_
    refine z_aload_n (M := M_X2_gather) dX2_gather_48 rfl ?_
    refine z_getR (M := M_X2_gather) (ci := 5) (C := RX2) (T := TX2) (Nf := 17) (ty := tyX2) cl5 dX2_gather_49 ly_238 0 (by decide) t_485 rfl ?_
    refine z_aload_n (M := M_X2_gather) dX2_gather_52 rfl ?_
    refine z_getI (M := M_X2_gather) (ci := 9) (C := RX6) (T := TX6) (Nf := 5) (ty := tyX6) cl9 dX2_gather_53 (ly_S h_shape) 4 (by decide) t_82 rfl rfl ?_
    obtain ⟨⟨x_25, σ_24⟩, hc_23, H⟩ := bd_e H
    refine z_callSN (M := M_X2_gather) (M' := M_X11_leaveEachOnce) (as := [vr 239, vi (σ_22 (kA_points shape_0) 0)]) (rest := []) rfl rfl dX2_gather_56 m_X11_leaveEachOnce n_2089 t_1423 (c_X11_leaveEachOnce hl ly_239 hc_23) rfl rfl (Nat.le_of_ble_eq_true rfl) (Nat.le_of_ble_eq_true rfl) (Nat.le_of_ble_eq_true rfl) (Nat.le_of_ble_eq_true rfl) ?_
    refine z_st (st' := [vi x_25]) rfl ?_
    refine z_istore_n (M := M_X2_gather) (lv' := [some (vr 238), some (vr shape_0), some (vi x_25), none]) dX2_gather_59 (Nat.le_of_ble_eq_true rfl) rfl rfl ?_
    refine z_iload_n (M := M_X2_gather) dX2_gather_60 rfl ?_
    refine z_sipush (M := M_X2_gather) dX2_gather_61 (by decide +kernel) ?_
    rcases if_e H with ⟨h_26, H⟩ | ⟨h_26, H⟩
    · refine z_icmp_le_f (M := M_X2_gather) (tgt := 69) dX2_gather_64 (by decide) rfl (by decide +kernel) h_26 ?_
      refine z_zconst (M := M_X2_gather) (b := false) dX2_gather_67 rfl ?_
      cases H
      exact z_zret (M := M_X2_gather) dX2_gather_68 rfl (Nat.le_of_ble_eq_true rfl) (Nat.le_of_ble_eq_true rfl) ⟨rfl, rfl⟩
    · refine z_icmp_le_t (M := M_X2_gather) (tgt := 69) dX2_gather_64 (by decide) rfl (by decide +kernel) (Int.not_lt.mp h_26) ?_
      refine z_aload_n (M := M_X2_gather) dX2_gather_69 rfl ?_
      refine z_iload_n (M := M_X2_gather) dX2_gather_70 rfl ?_
      obtain ⟨σ_27, σ_27_e, H⟩ := wf_e H
      refine z_putI (M := M_X2_gather) (ci := 5) (C := RX2) (T := TX2) (Nf := 17) (ty := tyX2) cl5 dX2_gather_71 ly_238 3 (by decide) t_488 rfl rfl rfl rfl σ_27_e ?_
      refine z_iconst (M := M_X2_gather) dX2_gather_74 ?_
      refine z_istore_n (M := M_X2_gather) (lv' := [some (vr 238), some (vr shape_0), some (vi x_25), some (vi 0)]) dX2_gather_75 (Nat.le_of_ble_eq_true rfl) rfl rfl ?_
      obtain ⟨rl_33, hw_30, hk_31⟩ := bd_e H
      have J_52 : ∀ i_48 σ_49, rl_33 = (i_48, σ_49) → YY l E M_X2_gather 4 0 0 (pS (some (zv r)) σ') 120 [some (vr 238), some (vr shape_0), some (vi x_25), some (vi i_48)] [] σ_49 0 0 := by
        intro i_48 σ_49 e
        have H := hk_31
        rw [e] at H
        refine z_aload_n (M := M_X2_gather) dX2_gather_120 rfl ?_
        refine z_aload_n (M := M_X2_gather) dX2_gather_121 rfl ?_
        obtain ⟨σ_51, hc_50, H⟩ := bd_e H
        refine z_callV (M := M_X2_gather) (M' := M_X2_numberPlaces) (as := [vr shape_0]) (rest := []) rfl rfl dX2_gather_122 m_X2_numberPlaces t_2092 t_2094 s_128 (c_X2_numberPlaces hl h_shape hc_50) rfl rfl ly_238 rfl (Nat.le_of_ble_eq_true rfl) (Nat.le_of_ble_eq_true rfl) (Nat.le_of_ble_eq_true rfl) (Nat.le_of_ble_eq_true rfl) ?_
        refine z_st (st' := []) rfl ?_
        refine z_zconst (M := M_X2_gather) (b := true) dX2_gather_125 rfl ?_
        cases H
        exact z_zret (M := M_X2_gather) dX2_gather_126 rfl (Nat.le_of_ble_eq_true rfl) (Nat.le_of_ble_eq_true rfl) ⟨rfl, rfl⟩
      refine whl_go hw_30 (fun (i_28, σ_29) => YY l E M_X2_gather 4 0 0 (pS (some (zv r)) σ') 76 [some (vr 238), some (vr shape_0), some (vi x_25), some (vi i_28)] [] σ_29 0 0) ?_
      rintro ⟨i_28, σ_29⟩ o_34 H K_35 K_36
      refine z_iload_n (M := M_X2_gather) dX2_gather_76 rfl ?_
      refine z_aload_n (M := M_X2_gather) dX2_gather_77 rfl ?_
      refine z_getI (M := M_X2_gather) (ci := 5) (C := RX2) (T := TX2) (Nf := 17) (ty := tyX2) cl5 dX2_gather_78 ly_238 3 (by decide) t_488 rfl rfl ?_
      rcases if_e H with ⟨h_37, H⟩ | ⟨h_37, H⟩
      · refine z_icmp_ge_f (M := M_X2_gather) (tgt := 120) dX2_gather_81 (by decide) rfl rfl h_37 ?_
        refine z_aload_n (M := M_X2_gather) dX2_gather_84 rfl ?_
        refine z_getR (M := M_X2_gather) (ci := 5) (C := RX2) (T := TX2) (Nf := 17) (ty := tyX2) cl5 dX2_gather_85 ly_238 1 (by decide) t_486 rfl ?_
        refine z_iload_n (M := M_X2_gather) dX2_gather_88 rfl ?_
        refine z_aload_n (M := M_X2_gather) dX2_gather_89 rfl ?_
        refine z_getR (M := M_X2_gather) (ci := 5) (C := RX2) (T := TX2) (Nf := 17) (ty := tyX2) cl5 dX2_gather_90 ly_238 0 (by decide) t_485 rfl ?_
        refine z_iload_n (M := M_X2_gather) dX2_gather_93 rfl ?_
        obtain ⟨x_38, x_38_e, hi_39, H⟩ := rd_e H
        refine z_lald (M := M_X2_gather) dX2_gather_94 ly_239 rfl rfl rfl hi_39 x_38_e ?_
        refine z_callSN (M := M_X2_gather) (M' := M_X11_keyX) (as := [vl x_38]) (rest := [vi i_28, vr 240]) rfl rfl dX2_gather_95 m_X11_keyX n_2090 t_1454 (c_X11_keyX hl  rfl) rfl rfl (Nat.le_of_ble_eq_true rfl) (Nat.le_of_ble_eq_true rfl) (Nat.le_of_ble_eq_true rfl) (Nat.le_of_ble_eq_true rfl) ?_
        refine z_st (st' := [vi (fQ_keyX x_38), vi i_28, vr 240]) rfl ?_
        obtain ⟨σ_40, σ_40_e, hi_41, H⟩ := wa_e H
        refine z_iast (M := M_X2_gather) dX2_gather_98 ly_240 rfl rfl rfl hi_41 σ_40_e ?_
        refine z_aload_n (M := M_X2_gather) dX2_gather_99 rfl ?_
        refine z_getR (M := M_X2_gather) (ci := 5) (C := RX2) (T := TX2) (Nf := 17) (ty := tyX2) cl5 dX2_gather_100 ly_238 2 (by decide) t_487 rfl ?_
        refine z_iload_n (M := M_X2_gather) dX2_gather_103 rfl ?_
        refine z_aload_n (M := M_X2_gather) dX2_gather_104 rfl ?_
        refine z_getR (M := M_X2_gather) (ci := 5) (C := RX2) (T := TX2) (Nf := 17) (ty := tyX2) cl5 dX2_gather_105 ly_238 0 (by decide) t_485 rfl ?_
        refine z_iload_n (M := M_X2_gather) dX2_gather_108 rfl ?_
        obtain ⟨x_42, x_42_e, hi_43, H⟩ := rd_e H
        refine z_lald (M := M_X2_gather) dX2_gather_109 ly_239 rfl rfl rfl hi_43 x_42_e ?_
        refine z_callSN (M := M_X2_gather) (M' := M_X11_keyY) (as := [vl x_42]) (rest := [vi i_28, vr 241]) rfl rfl dX2_gather_110 m_X11_keyY n_2091 t_1457 (c_X11_keyY hl  rfl) rfl rfl (Nat.le_of_ble_eq_true rfl) (Nat.le_of_ble_eq_true rfl) (Nat.le_of_ble_eq_true rfl) (Nat.le_of_ble_eq_true rfl) ?_
        refine z_st (st' := [vi (fQ_keyY x_42), vi i_28, vr 241]) rfl ?_
        obtain ⟨σ_44, σ_44_e, hi_45, H⟩ := wa_e H
        refine z_iast (M := M_X2_gather) dX2_gather_113 ly_241 rfl rfl rfl hi_45 σ_44_e ?_
        refine z_iinc (M := M_X2_gather) (lv' := [some (vr 238), some (vr shape_0), some (vi x_25), some (vi (i_28 + 1))]) dX2_gather_114 rfl (Nat.le_of_ble_eq_true rfl) rfl rfl ?_
        refine z_goto (M := M_X2_gather) (tgt := 76) dX2_gather_117 (by decide) ?_
        exact K_35 _ (Option.some.inj H).symm
      · refine z_icmp_ge_t (M := M_X2_gather) (tgt := 120) dX2_gather_81 (by decide) rfl rfl (Int.not_lt.mp h_37) ?_
        exact J_52 _ _ (K_36 _ (Option.some.inj H).symm).symm
  refine whl_go hw_3 (fun (i_1, σ_2) => YY l E M_X2_gather 4 0 0 (pS (some (zv r)) σ') 2 [some (vr 238), some (vr shape_0), some (vi i_1), none] [] σ_2 0 0) ?_
  rintro ⟨i_1, σ_2⟩ o_7 H K_8 K_9
  refine z_iload_n (M := M_X2_gather) dX2_gather_2 rfl ?_
  refine z_aload_n (M := M_X2_gather) dX2_gather_3 rfl ?_
  refine z_getI (M := M_X2_gather) (ci := 9) (C := RX6) (T := TX6) (Nf := 5) (ty := tyX6) cl9 dX2_gather_4 (ly_S h_shape) 4 (by decide) t_82 rfl rfl ?_
  rcases if_e H with ⟨h_10, H⟩ | ⟨h_10, H⟩
  · refine z_icmp_ge_f (M := M_X2_gather) (tgt := 37) dX2_gather_7 (by decide) rfl rfl h_10 ?_
    refine z_aload_n (M := M_X2_gather) dX2_gather_10 rfl ?_
    refine z_getR (M := M_X2_gather) (ci := 5) (C := RX2) (T := TX2) (Nf := 17) (ty := tyX2) cl5 dX2_gather_11 ly_238 0 (by decide) t_485 rfl ?_
    refine z_iload_n (M := M_X2_gather) dX2_gather_14 rfl ?_
    refine z_aload_n (M := M_X2_gather) dX2_gather_15 rfl ?_
    refine z_getR (M := M_X2_gather) (ci := 9) (C := RX6) (T := TX6) (Nf := 5) (ty := tyX6) cl9 dX2_gather_16 (ly_S h_shape) 1 (by decide) t_59 rfl ?_
    refine z_iload_n (M := M_X2_gather) dX2_gather_19 rfl ?_
    obtain ⟨x_11, x_11_e, hi_12, H⟩ := rd_e H
    refine z_iald (M := M_X2_gather) dX2_gather_20 (ly_Sx h_shape) rfl rfl rfl hi_12 x_11_e ?_
    refine z_aload_n (M := M_X2_gather) dX2_gather_21 rfl ?_
    refine z_getR (M := M_X2_gather) (ci := 9) (C := RX6) (T := TX6) (Nf := 5) (ty := tyX6) cl9 dX2_gather_22 (ly_S h_shape) 2 (by decide) t_66 rfl ?_
    refine z_iload_n (M := M_X2_gather) dX2_gather_25 rfl ?_
    obtain ⟨x_13, x_13_e, hi_14, H⟩ := rd_e H
    refine z_iald (M := M_X2_gather) dX2_gather_26 (ly_Sy h_shape) rfl rfl rfl hi_14 x_13_e ?_
    refine z_callSN (M := M_X2_gather) (M' := M_X11_keyOf) (as := [vi x_11, vi x_13]) (rest := [vi i_1, vr 239]) rfl rfl dX2_gather_27 m_X11_keyOf n_2087 t_1426 (c_X11_keyOf hl  rfl) rfl rfl (Nat.le_of_ble_eq_true rfl) (Nat.le_of_ble_eq_true rfl) (Nat.le_of_ble_eq_true rfl) (Nat.le_of_ble_eq_true rfl) ?_
    refine z_st (st' := [vl (fQ_keyOf x_11 x_13), vi i_1, vr 239]) rfl ?_
    obtain ⟨σ_15, σ_15_e, hi_16, H⟩ := wa_e H
    refine z_last (M := M_X2_gather) dX2_gather_30 ly_239 rfl rfl rfl hi_16 σ_15_e ?_
    refine z_iinc (M := M_X2_gather) (lv' := [some (vr 238), some (vr shape_0), some (vi (i_1 + 1)), none]) dX2_gather_31 rfl (Nat.le_of_ble_eq_true rfl) rfl rfl ?_
    refine z_goto (M := M_X2_gather) (tgt := 2) dX2_gather_34 (by decide) ?_
    exact K_8 _ (Option.some.inj H).symm
  · refine z_icmp_ge_t (M := M_X2_gather) (tgt := 37) dX2_gather_7 (by decide) rfl rfl (Int.not_lt.mp h_10) ?_
    exact J_53 _ _ (K_9 _ (Option.some.inj H).symm).symm
theorem c_X2_turnAt (hl : l.stackTraces = false) {σ : SG} {a_0 : Int} {b_0 : Int} {c_0 : Int} {r : Int}  (H : fP_turnAt σ a_0 b_0 c_0 = some r) : en_S l E M_X2_turnAt 3 0 0 [vr 238, vi a_0, vi b_0, vi c_0] σ (pS (some (vi r)) σ) := by
  unfold fP_turnAt at H
  refine z_mk (lv := [some (vr 238), some (vi a_0), some (vi b_0), some (vi c_0)]) m_X2_turnAt rfl hl (Nat.le_of_ble_eq_true rfl) rfl ?_
  refine z_aload_n (M := M_X2_turnAt) dX2_turnAt_0 rfl ?_
  refine z_getR (M := M_X2_turnAt) (ci := 5) (C := RX2) (T := TX2) (Nf := 17) (ty := tyX2) cl5 dX2_turnAt_1 ly_238 1 (by decide) t_486 rfl ?_
  refine z_iload_n (M := M_X2_turnAt) dX2_turnAt_4 rfl ?_
  obtain ⟨x_1, x_1_e, hi_2, H⟩ := rd_e H
  refine z_iald (M := M_X2_turnAt) dX2_turnAt_5 ly_240 rfl rfl rfl hi_2 x_1_e ?_
  refine z_i2l (M := M_X2_turnAt) dX2_turnAt_6 ?_
  refine z_aload_n (M := M_X2_turnAt) dX2_turnAt_7 rfl ?_
  refine z_getR (M := M_X2_turnAt) (ci := 5) (C := RX2) (T := TX2) (Nf := 17) (ty := tyX2) cl5 dX2_turnAt_8 ly_238 2 (by decide) t_487 rfl ?_
  refine z_iload_n (M := M_X2_turnAt) dX2_turnAt_11 rfl ?_
  obtain ⟨x_3, x_3_e, hi_4, H⟩ := rd_e H
  refine z_iald (M := M_X2_turnAt) dX2_turnAt_12 ly_241 rfl rfl rfl hi_4 x_3_e ?_
  refine z_i2l (M := M_X2_turnAt) dX2_turnAt_13 ?_
  refine z_aload_n (M := M_X2_turnAt) dX2_turnAt_14 rfl ?_
  refine z_getR (M := M_X2_turnAt) (ci := 5) (C := RX2) (T := TX2) (Nf := 17) (ty := tyX2) cl5 dX2_turnAt_15 ly_238 1 (by decide) t_486 rfl ?_
  refine z_iload_n (M := M_X2_turnAt) dX2_turnAt_18 rfl ?_
  obtain ⟨x_5, x_5_e, hi_6, H⟩ := rd_e H
  refine z_iald (M := M_X2_turnAt) dX2_turnAt_19 ly_240 rfl rfl rfl hi_6 x_5_e ?_
  refine z_i2l (M := M_X2_turnAt) dX2_turnAt_20 ?_
  refine z_aload_n (M := M_X2_turnAt) dX2_turnAt_21 rfl ?_
  refine z_getR (M := M_X2_turnAt) (ci := 5) (C := RX2) (T := TX2) (Nf := 17) (ty := tyX2) cl5 dX2_turnAt_22 ly_238 2 (by decide) t_487 rfl ?_
  refine z_iload_n (M := M_X2_turnAt) dX2_turnAt_25 rfl ?_
  obtain ⟨x_7, x_7_e, hi_8, H⟩ := rd_e H
  refine z_iald (M := M_X2_turnAt) dX2_turnAt_26 ly_241 rfl rfl rfl hi_8 x_7_e ?_
  refine z_i2l (M := M_X2_turnAt) dX2_turnAt_27 ?_
  refine z_aload_n (M := M_X2_turnAt) dX2_turnAt_28 rfl ?_
  refine z_getR (M := M_X2_turnAt) (ci := 5) (C := RX2) (T := TX2) (Nf := 17) (ty := tyX2) cl5 dX2_turnAt_29 ly_238 1 (by decide) t_486 rfl ?_
  refine z_iload_n (M := M_X2_turnAt) dX2_turnAt_32 rfl ?_
  obtain ⟨x_9, x_9_e, hi_10, H⟩ := rd_e H
  refine z_iald (M := M_X2_turnAt) dX2_turnAt_33 ly_240 rfl rfl rfl hi_10 x_9_e ?_
  refine z_i2l (M := M_X2_turnAt) dX2_turnAt_34 ?_
  refine z_aload_n (M := M_X2_turnAt) dX2_turnAt_35 rfl ?_
  refine z_getR (M := M_X2_turnAt) (ci := 5) (C := RX2) (T := TX2) (Nf := 17) (ty := tyX2) cl5 dX2_turnAt_36 ly_238 2 (by decide) t_487 rfl ?_
  refine z_iload_n (M := M_X2_turnAt) dX2_turnAt_39 rfl ?_
  obtain ⟨x_11, x_11_e, hi_12, H⟩ := rd_e H
  refine z_iald (M := M_X2_turnAt) dX2_turnAt_40 ly_241 rfl rfl rfl hi_12 x_11_e ?_
  refine z_i2l (M := M_X2_turnAt) dX2_turnAt_41 ?_
  refine z_callSN (M := M_X2_turnAt) (M' := M_X11_turnOf) (as := [vl (w32 x_1), vl (w32 x_3), vl (w32 x_5), vl (w32 x_7), vl (w32 x_9), vl (w32 x_11)]) (rest := []) rfl rfl dX2_turnAt_42 m_X11_turnOf n_2117 t_1265 (c_X11_turnOf hl  rfl) rfl rfl (Nat.le_of_ble_eq_true rfl) (Nat.le_of_ble_eq_true rfl) (Nat.le_of_ble_eq_true rfl) (Nat.le_of_ble_eq_true rfl) ?_
  refine z_st (st' := [vi (fQ_turnOf (w32 x_1) (w32 x_3) (w32 x_5) (w32 x_7) (w32 x_9) (w32 x_11))]) rfl ?_
  cases H
  exact z_iret (M := M_X2_turnAt) dX2_turnAt_45 rfl (Nat.le_of_ble_eq_true rfl) (Nat.le_of_ble_eq_true rfl) ⟨rfl, rfl⟩
theorem c_X2_cornersBefore (hl : l.stackTraces = false) {σ : SG} {place_0 : Int} {corners_0 : Int} {floor_0 : Int} {r : Int}  (H : fP_cornersBefore σ place_0 corners_0 floor_0 = some r) : en_S l E M_X2_cornersBefore 4 0 0 [vr 238, vi place_0, vi corners_0, vi floor_0] σ (pS (some (vi r)) σ) := by
  unfold fP_cornersBefore at H
  refine z_mk (lv := [some (vr 238), some (vi place_0), some (vi corners_0), some (vi floor_0), none]) m_X2_cornersBefore rfl hl (Nat.le_of_ble_eq_true rfl) rfl ?_
  refine z_iload_n (M := M_X2_cornersBefore) dX2_cornersBefore_0 rfl ?_
  refine z_istore (M := M_X2_cornersBefore) (lv' := [some (vr 238), some (vi place_0), some (vi corners_0), some (vi floor_0), some (vi corners_0)]) dX2_cornersBefore_1 (Nat.le_of_ble_eq_true rfl) rfl rfl ?_
  obtain ⟨rl_5, hw_2, hk_3⟩ := bd_e H
  have J_33 : ∀ size_32, rl_5 = size_32 → YY l E M_X2_cornersBefore 4 0 0 (pS (some (vi r)) σ) 41 [some (vr 238), some (vi place_0), some (vi corners_0), some (vi floor_0), some (vi size_32)] [] σ 0 0 := by
    intro size_32 e
    have H := hk_3
    rw [e] at H
    refine z_iload (M := M_X2_cornersBefore) dX2_cornersBefore_41 rfl ?_
    cases H
    exact z_iret (M := M_X2_cornersBefore) dX2_cornersBefore_43 rfl (Nat.le_of_ble_eq_true rfl) (Nat.le_of_ble_eq_true rfl) ⟨rfl, rfl⟩
  refine whl_go hw_2 (fun size_1 => YY l E M_X2_cornersBefore 4 0 0 (pS (some (vi r)) σ) 3 [some (vr 238), some (vi place_0), some (vi corners_0), some (vi floor_0), some (vi size_1)] [] σ 0 0) ?_
  rintro size_1 o_6 H K_7 K_8
  refine z_iload (M := M_X2_cornersBefore) dX2_cornersBefore_3 rfl ?_
  refine z_iload_n (M := M_X2_cornersBefore) dX2_cornersBefore_5 rfl ?_
  rcases if_e H with ⟨h_21, H⟩ | ⟨h_21, H⟩
  · refine z_icmp_lt_f (M := M_X2_cornersBefore) (tgt := 41) dX2_cornersBefore_6 (by decide) rfl rfl h_21 ?_
    refine z_aload_n (M := M_X2_cornersBefore) dX2_cornersBefore_9 rfl ?_
    refine z_aload_n (M := M_X2_cornersBefore) dX2_cornersBefore_10 rfl ?_
    refine z_getR (M := M_X2_cornersBefore) (ci := 5) (C := RX2) (T := TX2) (Nf := 17) (ty := tyX2) cl5 dX2_cornersBefore_11 ly_238 6 (by decide) t_491 rfl ?_
    refine z_iload (M := M_X2_cornersBefore) dX2_cornersBefore_14 rfl ?_
    refine z_iconst (M := M_X2_cornersBefore) dX2_cornersBefore_16 ?_
    refine z_isub (M := M_X2_cornersBefore) dX2_cornersBefore_17 ?_
    obtain ⟨x_22, x_22_e, hi_23, H⟩ := rd_e H
    refine z_iald (M := M_X2_cornersBefore) dX2_cornersBefore_18 ly_244 rfl rfl rfl hi_23 x_22_e ?_
    refine z_aload_n (M := M_X2_cornersBefore) dX2_cornersBefore_19 rfl ?_
    refine z_getR (M := M_X2_cornersBefore) (ci := 5) (C := RX2) (T := TX2) (Nf := 17) (ty := tyX2) cl5 dX2_cornersBefore_20 ly_238 6 (by decide) t_491 rfl ?_
    refine z_iload (M := M_X2_cornersBefore) dX2_cornersBefore_23 rfl ?_
    refine z_iconst (M := M_X2_cornersBefore) dX2_cornersBefore_25 ?_
    refine z_isub (M := M_X2_cornersBefore) dX2_cornersBefore_26 ?_
    obtain ⟨x_24, x_24_e, hi_25, H⟩ := rd_e H
    refine z_iald (M := M_X2_cornersBefore) dX2_cornersBefore_27 ly_244 rfl rfl rfl hi_25 x_24_e ?_
    refine z_iload_n (M := M_X2_cornersBefore) dX2_cornersBefore_28 rfl ?_
    obtain ⟨x_27, hc_26, H⟩ := bd_e H
    refine z_callV (M := M_X2_cornersBefore) (M' := M_X2_turnAt) (as := [vi x_22, vi x_24, vi place_0]) (rest := []) rfl rfl dX2_cornersBefore_29 m_X2_turnAt t_2113 t_2115 s_132 (c_X2_turnAt hl  hc_26) rfl rfl ly_238 rfl (Nat.le_of_ble_eq_true rfl) (Nat.le_of_ble_eq_true rfl) (Nat.le_of_ble_eq_true rfl) (Nat.le_of_ble_eq_true rfl) ?_
    refine z_st (st' := [vi x_27]) rfl ?_
    rcases if_e H with ⟨h_28, H⟩ | ⟨h_28, H⟩
    · refine z_if_gt_f (M := M_X2_cornersBefore) (tgt := 41) dX2_cornersBefore_32 (by decide) rfl h_28 ?_
      refine z_iinc (M := M_X2_cornersBefore) (lv' := [some (vr 238), some (vi place_0), some (vi corners_0), some (vi floor_0), some (vi (size_1 + (-1)))]) dX2_cornersBefore_35 rfl (Nat.le_of_ble_eq_true rfl) rfl rfl ?_
      refine z_goto (M := M_X2_cornersBefore) (tgt := 3) dX2_cornersBefore_38 (by decide) ?_
      exact K_7 _ (Option.some.inj H).symm
    · refine z_if_gt_t (M := M_X2_cornersBefore) (tgt := 41) dX2_cornersBefore_32 (by decide) rfl (Int.not_le.mp h_28) ?_
      exact J_33 _ (K_8 _ (Option.some.inj H).symm).symm
  · refine z_icmp_lt_t (M := M_X2_cornersBefore) (tgt := 41) dX2_cornersBefore_6 (by decide) rfl rfl (Int.not_le.mp h_21) ?_
    exact J_33 _ (K_8 _ (Option.some.inj H).symm).symm
theorem c_X2_findCorners (hl : l.stackTraces = false) {σ : SG} {r : Int} {σ' : SG}  (H : fP_findCorners σ = some (r, σ')) : en_S l E M_X2_findCorners 5 0 0 [vr 238] σ (pS (some (vi r)) σ') := by
  unfold fP_findCorners at H
  refine z_mk (lv := [some (vr 238), none, none, none]) m_X2_findCorners rfl hl (Nat.le_of_ble_eq_true rfl) rfl ?_
  refine z_iconst (M := M_X2_findCorners) dX2_findCorners_0 ?_
  refine z_istore_n (M := M_X2_findCorners) (lv' := [some (vr 238), some (vi 0), none, none]) dX2_findCorners_1 (Nat.le_of_ble_eq_true rfl) rfl rfl ?_
  refine z_iconst (M := M_X2_findCorners) dX2_findCorners_2 ?_
  refine z_istore_n (M := M_X2_findCorners) (lv' := [some (vr 238), some (vi 0), some (vi 0), none]) dX2_findCorners_3 (Nat.le_of_ble_eq_true rfl) rfl rfl ?_
  obtain ⟨rl_7, hw_4, hk_5⟩ := bd_e H
  have J_44 : ∀ size_18 i_19 σ_20, rl_7 = (size_18, i_19, σ_20) → YY l E M_X2_findCorners 5 0 0 (pS (some (vi r)) σ') 36 [some (vr 238), some (vi size_18), some (vi i_19), none] [] σ_20 0 0 := by
    intro size_18 i_19 σ_20 e
    have H := hk_5
    rw [e] at H
    refine z_iload_n (M := M_X2_findCorners) dX2_findCorners_36 rfl ?_
    refine z_iconst (M := M_X2_findCorners) dX2_findCorners_37 ?_
    refine z_iadd (M := M_X2_findCorners) dX2_findCorners_38 ?_
    refine z_istore_n (M := M_X2_findCorners) (lv' := [some (vr 238), some (vi size_18), some (vi (size_18 + 1)), none]) dX2_findCorners_39 (Nat.le_of_ble_eq_true rfl) rfl rfl ?_
    refine z_aload_n (M := M_X2_findCorners) dX2_findCorners_40 rfl ?_
    refine z_getI (M := M_X2_findCorners) (ci := 5) (C := RX2) (T := TX2) (Nf := 17) (ty := tyX2) cl5 dX2_findCorners_41 ly_238 3 (by decide) t_488 rfl rfl ?_
    refine z_iconst (M := M_X2_findCorners) dX2_findCorners_44 ?_
    refine z_isub (M := M_X2_findCorners) dX2_findCorners_45 ?_
    refine z_istore_n (M := M_X2_findCorners) (lv' := [some (vr 238), some (vi size_18), some (vi (size_18 + 1)), some (vi ((σ_20 kP_places 0) - 2))]) dX2_findCorners_46 (Nat.le_of_ble_eq_true rfl) rfl rfl ?_
    obtain ⟨rl_27, hw_24, hk_25⟩ := bd_e H
    have J_43 : ∀ size_38 i_39 σ_40, rl_27 = (size_38, i_39, σ_40) → YY l E M_X2_findCorners 5 0 0 (pS (some (vi r)) σ') 75 [some (vr 238), some (vi size_38), some (vi (size_18 + 1)), some (vi i_39)] [] σ_40 0 0 := by
      intro size_38 i_39 σ_40 e
      have H := hk_25
      rw [e] at H
      have J_41 : YY l E M_X2_findCorners 5 0 0 (pS (some (vi r)) σ') 90 [some (vr 238), some (vi size_38), some (vi (size_18 + 1)), some (vi i_39)] [vi (if 1 < (w32 (σ_40 kP_places 0)) then (size_38 - 1) else size_38)] σ_40 0 0 := by
        cases H
        exact z_iret (M := M_X2_findCorners) dX2_findCorners_90 rfl (Nat.le_of_ble_eq_true rfl) (Nat.le_of_ble_eq_true rfl) ⟨rfl, rfl⟩
      refine z_aload_n (M := M_X2_findCorners) dX2_findCorners_75 rfl ?_
      refine z_getI (M := M_X2_findCorners) (ci := 5) (C := RX2) (T := TX2) (Nf := 17) (ty := tyX2) cl5 dX2_findCorners_76 ly_238 3 (by decide) t_488 rfl rfl ?_
      refine z_iconst (M := M_X2_findCorners) dX2_findCorners_79 ?_
      by_cases h_42 : 1 < (w32 (σ_40 kP_places 0))
      · refine z_icmp_le_f (M := M_X2_findCorners) (tgt := 89) dX2_findCorners_80 (by decide) rfl (by decide +kernel) h_42 ?_
        refine z_iload_n (M := M_X2_findCorners) dX2_findCorners_83 rfl ?_
        refine z_iconst (M := M_X2_findCorners) dX2_findCorners_84 ?_
        refine z_isub (M := M_X2_findCorners) dX2_findCorners_85 ?_
        refine z_goto (M := M_X2_findCorners) (tgt := 90) dX2_findCorners_86 (by decide) ?_
        exact z_st (by rw [if_pos (c := 1 < (w32 (σ_40 kP_places 0))) h_42]) J_41
      · refine z_icmp_le_t (M := M_X2_findCorners) (tgt := 89) dX2_findCorners_80 (by decide) rfl (by decide +kernel) (Int.not_lt.mp h_42) ?_
        refine z_iload_n (M := M_X2_findCorners) dX2_findCorners_89 rfl ?_
        exact z_st (by rw [if_neg (c := 1 < (w32 (σ_40 kP_places 0))) h_42]) J_41
    refine whl_go hw_24 (fun (size_21, i_22, σ_23) => YY l E M_X2_findCorners 5 0 0 (pS (some (vi r)) σ') 47 [some (vr 238), some (vi size_21), some (vi (size_18 + 1)), some (vi i_22)] [] σ_23 0 0) ?_
    rintro ⟨size_21, i_22, σ_23⟩ o_28 H K_29 K_30
    refine z_iload_n (M := M_X2_findCorners) dX2_findCorners_47 rfl ?_
    rcases if_e H with ⟨h_31, H⟩ | ⟨h_31, H⟩
    · refine z_if_lt_f (M := M_X2_findCorners) (tgt := 75) dX2_findCorners_48 (by decide) rfl h_31 ?_
      refine z_aload_n (M := M_X2_findCorners) dX2_findCorners_51 rfl ?_
      refine z_iload_n (M := M_X2_findCorners) dX2_findCorners_52 rfl ?_
      refine z_iload_n (M := M_X2_findCorners) dX2_findCorners_53 rfl ?_
      refine z_iload_n (M := M_X2_findCorners) dX2_findCorners_54 rfl ?_
      obtain ⟨x_33, hc_32, H⟩ := bd_e H
      refine z_callV (M := M_X2_findCorners) (M' := M_X2_cornersBefore) (as := [vi i_22, vi size_21, vi (size_18 + 1)]) (rest := []) rfl rfl dX2_findCorners_55 m_X2_cornersBefore t_2109 t_2111 s_131 (c_X2_cornersBefore hl  hc_32) rfl rfl ly_238 rfl (Nat.le_of_ble_eq_true rfl) (Nat.le_of_ble_eq_true rfl) (Nat.le_of_ble_eq_true rfl) (Nat.le_of_ble_eq_true rfl) ?_
      refine z_st (st' := [vi x_33]) rfl ?_
      refine z_istore_n (M := M_X2_findCorners) (lv' := [some (vr 238), some (vi x_33), some (vi (size_18 + 1)), some (vi i_22)]) dX2_findCorners_58 (Nat.le_of_ble_eq_true rfl) rfl rfl ?_
      refine z_aload_n (M := M_X2_findCorners) dX2_findCorners_59 rfl ?_
      refine z_getR (M := M_X2_findCorners) (ci := 5) (C := RX2) (T := TX2) (Nf := 17) (ty := tyX2) cl5 dX2_findCorners_60 ly_238 6 (by decide) t_491 rfl ?_
      refine z_iload_n (M := M_X2_findCorners) dX2_findCorners_63 rfl ?_
      refine z_iload_n (M := M_X2_findCorners) dX2_findCorners_64 rfl ?_
      obtain ⟨σ_34, σ_34_e, hi_35, H⟩ := wa_e H
      refine z_iast (M := M_X2_findCorners) dX2_findCorners_65 ly_244 rfl rfl rfl hi_35 σ_34_e ?_
      refine z_iinc (M := M_X2_findCorners) (lv' := [some (vr 238), some (vi (x_33 + 1)), some (vi (size_18 + 1)), some (vi i_22)]) dX2_findCorners_66 rfl (Nat.le_of_ble_eq_true rfl) rfl rfl ?_
      refine z_iinc (M := M_X2_findCorners) (lv' := [some (vr 238), some (vi (x_33 + 1)), some (vi (size_18 + 1)), some (vi (i_22 + (-1)))]) dX2_findCorners_69 rfl (Nat.le_of_ble_eq_true rfl) rfl rfl ?_
      refine z_goto (M := M_X2_findCorners) (tgt := 47) dX2_findCorners_72 (by decide) ?_
      exact K_29 _ (Option.some.inj H).symm
    · refine z_if_lt_t (M := M_X2_findCorners) (tgt := 75) dX2_findCorners_48 (by decide) rfl (Int.not_le.mp h_31) ?_
      exact J_43 _ _ _ (K_30 _ (Option.some.inj H).symm).symm
  refine whl_go hw_4 (fun (size_1, i_2, σ_3) => YY l E M_X2_findCorners 5 0 0 (pS (some (vi r)) σ') 4 [some (vr 238), some (vi size_1), some (vi i_2), none] [] σ_3 0 0) ?_
  rintro ⟨size_1, i_2, σ_3⟩ o_8 H K_9 K_10
  refine z_iload_n (M := M_X2_findCorners) dX2_findCorners_4 rfl ?_
  refine z_aload_n (M := M_X2_findCorners) dX2_findCorners_5 rfl ?_
  refine z_getI (M := M_X2_findCorners) (ci := 5) (C := RX2) (T := TX2) (Nf := 17) (ty := tyX2) cl5 dX2_findCorners_6 ly_238 3 (by decide) t_488 rfl rfl ?_
  rcases if_e H with ⟨h_11, H⟩ | ⟨h_11, H⟩
  · refine z_icmp_ge_f (M := M_X2_findCorners) (tgt := 36) dX2_findCorners_9 (by decide) rfl rfl h_11 ?_
    refine z_aload_n (M := M_X2_findCorners) dX2_findCorners_12 rfl ?_
    refine z_iload_n (M := M_X2_findCorners) dX2_findCorners_13 rfl ?_
    refine z_iload_n (M := M_X2_findCorners) dX2_findCorners_14 rfl ?_
    refine z_iconst (M := M_X2_findCorners) dX2_findCorners_15 ?_
    obtain ⟨x_13, hc_12, H⟩ := bd_e H
    refine z_callV (M := M_X2_findCorners) (M' := M_X2_cornersBefore) (as := [vi i_2, vi size_1, vi 2]) (rest := []) rfl rfl dX2_findCorners_16 m_X2_cornersBefore t_2109 t_2111 s_131 (c_X2_cornersBefore hl  hc_12) rfl rfl ly_238 rfl (Nat.le_of_ble_eq_true rfl) (Nat.le_of_ble_eq_true rfl) (Nat.le_of_ble_eq_true rfl) (Nat.le_of_ble_eq_true rfl) ?_
    refine z_st (st' := [vi x_13]) rfl ?_
    refine z_istore_n (M := M_X2_findCorners) (lv' := [some (vr 238), some (vi x_13), some (vi i_2), none]) dX2_findCorners_19 (Nat.le_of_ble_eq_true rfl) rfl rfl ?_
    refine z_aload_n (M := M_X2_findCorners) dX2_findCorners_20 rfl ?_
    refine z_getR (M := M_X2_findCorners) (ci := 5) (C := RX2) (T := TX2) (Nf := 17) (ty := tyX2) cl5 dX2_findCorners_21 ly_238 6 (by decide) t_491 rfl ?_
    refine z_iload_n (M := M_X2_findCorners) dX2_findCorners_24 rfl ?_
    refine z_iload_n (M := M_X2_findCorners) dX2_findCorners_25 rfl ?_
    obtain ⟨σ_14, σ_14_e, hi_15, H⟩ := wa_e H
    refine z_iast (M := M_X2_findCorners) dX2_findCorners_26 ly_244 rfl rfl rfl hi_15 σ_14_e ?_
    refine z_iinc (M := M_X2_findCorners) (lv' := [some (vr 238), some (vi (x_13 + 1)), some (vi i_2), none]) dX2_findCorners_27 rfl (Nat.le_of_ble_eq_true rfl) rfl rfl ?_
    refine z_iinc (M := M_X2_findCorners) (lv' := [some (vr 238), some (vi (x_13 + 1)), some (vi (i_2 + 1)), none]) dX2_findCorners_30 rfl (Nat.le_of_ble_eq_true rfl) rfl rfl ?_
    refine z_goto (M := M_X2_findCorners) (tgt := 4) dX2_findCorners_33 (by decide) ?_
    exact K_9 _ (Option.some.inj H).symm
  · refine z_icmp_ge_t (M := M_X2_findCorners) (tgt := 36) dX2_findCorners_9 (by decide) rfl rfl (Int.not_lt.mp h_11) ?_
    exact J_44 _ _ _ (K_10 _ (Option.some.inj H).symm).symm
theorem c_X2_span (hl : l.stackTraces = false) {σ : SG} {into_0 : Nat} {r : Int} {σ' : SG} (h_into : isS into_0) (H : fP_span σ into_0 = some (r, σ')) : en_S l E M_X2_span 6 0 0 [vr 238, vr into_0] σ (pS (some (vi r)) σ') := by
  unfold fP_span at H
  refine z_mk (lv := [some (vr 238), some (vr into_0), none, none]) m_X2_span rfl hl (Nat.le_of_ble_eq_true rfl) rfl ?_
  refine z_aload_n (M := M_X2_span) dX2_span_0 rfl ?_
  obtain ⟨⟨x_3, σ_2⟩, hc_1, H⟩ := bd_e H
  refine z_callV (M := M_X2_span) (M' := M_X2_findCorners) (as := []) (rest := []) rfl rfl dX2_span_1 m_X2_findCorners t_2105 t_2107 s_130 (c_X2_findCorners hl  hc_1) rfl rfl ly_238 rfl (Nat.le_of_ble_eq_true rfl) (Nat.le_of_ble_eq_true rfl) (Nat.le_of_ble_eq_true rfl) (Nat.le_of_ble_eq_true rfl) ?_
  refine z_st (st' := [vi x_3]) rfl ?_
  refine z_istore_n (M := M_X2_span) (lv' := [some (vr 238), some (vr into_0), some (vi x_3), none]) dX2_span_4 (Nat.le_of_ble_eq_true rfl) rfl rfl ?_
  refine z_aload_n (M := M_X2_span) dX2_span_5 rfl ?_
  obtain ⟨σ_5, hc_4, H⟩ := bd_e H
  refine z_callV (M := M_X2_span) (M' := M_X6_clear) (as := []) (rest := []) rfl rfl dX2_span_6 m_X6_clear t_2118 t_768 t_769 (c_X6_clear hl h_into hc_4) rfl rfl (ly_S h_into) rfl (Nat.le_of_ble_eq_true rfl) (Nat.le_of_ble_eq_true rfl) (Nat.le_of_ble_eq_true rfl) (Nat.le_of_ble_eq_true rfl) ?_
  refine z_st (st' := []) rfl ?_
  obtain ⟨v_9, he_6, hk_7⟩ := bd_e H
  have J_83 : ∀ σ_36, v_9 = σ_36 → YY l E M_X2_span 6 0 0 (pS (some (vi r)) σ') 63 [some (vr 238), some (vr into_0), some (vi x_3), none] [] σ_36 0 0 := by
    intro σ_36 e
    have H := hk_7
    rw [e] at H
    refine z_iconst (M := M_X2_span) dX2_span_63 ?_
    refine z_istore_n (M := M_X2_span) (lv' := [some (vr 238), some (vr into_0), some (vi x_3), some (vi 0)]) dX2_span_64 (Nat.le_of_ble_eq_true rfl) rfl rfl ?_
    obtain ⟨rl_42, hw_39, hk_40⟩ := bd_e H
    have J_82 : ∀ k_60 σ_61, rl_42 = (k_60, σ_61) → YY l E M_X2_span 6 0 0 (pS (some (vi r)) σ') 103 [some (vr 238), some (vr into_0), some (vi x_3), some (vi k_60)] [] σ_61 0 0 := by
      intro k_60 σ_61 e
      have H := hk_40
      rw [e] at H
      obtain ⟨v_65, he_62, hk_63⟩ := bd_e H
      have J_81 : ∀ σ_80, v_65 = σ_80 → YY l E M_X2_span 6 0 0 (pS (some (vi r)) σ') 135 [some (vr 238), some (vr into_0), some (vi x_3), none] [] σ_80 0 0 := by
        intro σ_80 e
        have H := hk_63
        rw [e] at H
        refine z_iload_n (M := M_X2_span) dX2_span_135 rfl ?_
        cases H
        exact z_iret (M := M_X2_span) dX2_span_136 rfl (Nat.le_of_ble_eq_true rfl) (Nat.le_of_ble_eq_true rfl) ⟨rfl, rfl⟩
      have H := he_62
      refine z_iload_n (M := M_X2_span) dX2_span_103 rfl ?_
      refine z_iconst (M := M_X2_span) dX2_span_104 ?_
      rcases if_e H with ⟨h_66, H⟩ | ⟨h_66, H⟩
      · refine z_icmp_le_f (M := M_X2_span) (tgt := 135) dX2_span_105 (by decide) rfl (by decide +kernel) h_66 ?_
        refine z_aload_n (M := M_X2_span) dX2_span_108 rfl ?_
        refine z_aload_n (M := M_X2_span) dX2_span_109 rfl ?_
        refine z_getR (M := M_X2_span) (ci := 5) (C := RX2) (T := TX2) (Nf := 17) (ty := tyX2) cl5 dX2_span_110 ly_238 1 (by decide) t_486 rfl ?_
        refine z_aload_n (M := M_X2_span) dX2_span_113 rfl ?_
        refine z_getR (M := M_X2_span) (ci := 5) (C := RX2) (T := TX2) (Nf := 17) (ty := tyX2) cl5 dX2_span_114 ly_238 6 (by decide) t_491 rfl ?_
        refine z_iconst (M := M_X2_span) dX2_span_117 ?_
        obtain ⟨x_67, x_67_e, hi_68, H⟩ := rd_e H
        refine z_iald (M := M_X2_span) dX2_span_118 ly_244 rfl (by decide +kernel) rfl hi_68 x_67_e ?_
        obtain ⟨x_69, x_69_e, hi_70, H⟩ := rd_e H
        refine z_iald (M := M_X2_span) dX2_span_119 ly_240 rfl rfl rfl hi_70 x_69_e ?_
        refine z_aload_n (M := M_X2_span) dX2_span_120 rfl ?_
        refine z_getR (M := M_X2_span) (ci := 5) (C := RX2) (T := TX2) (Nf := 17) (ty := tyX2) cl5 dX2_span_121 ly_238 2 (by decide) t_487 rfl ?_
        refine z_aload_n (M := M_X2_span) dX2_span_124 rfl ?_
        refine z_getR (M := M_X2_span) (ci := 5) (C := RX2) (T := TX2) (Nf := 17) (ty := tyX2) cl5 dX2_span_125 ly_238 6 (by decide) t_491 rfl ?_
        refine z_iconst (M := M_X2_span) dX2_span_128 ?_
        obtain ⟨x_71, x_71_e, hi_72, H⟩ := rd_e H
        refine z_iald (M := M_X2_span) dX2_span_129 ly_244 rfl (by decide +kernel) rfl hi_72 x_71_e ?_
        obtain ⟨x_73, x_73_e, hi_74, H⟩ := rd_e H
        refine z_iald (M := M_X2_span) dX2_span_130 ly_241 rfl rfl rfl hi_74 x_73_e ?_
        obtain ⟨⟨x_77, σ_76⟩, hc_75, H⟩ := bd_e H
        refine z_callV (M := M_X2_span) (M' := M_X6_addPoint) (as := [vi x_69, vi x_73]) (rest := []) rfl rfl dX2_span_131 m_X6_addPoint t_2121 t_938 t_939 (c_X6_addPoint hl h_into hc_75) rfl rfl (ly_S h_into) rfl (Nat.le_of_ble_eq_true rfl) (Nat.le_of_ble_eq_true rfl) (Nat.le_of_ble_eq_true rfl) (Nat.le_of_ble_eq_true rfl) ?_
        refine z_st (st' := [zv x_77]) rfl ?_
        refine z_pop (M := M_X2_span) dX2_span_134 rfl ?_
        refine z_le (lv' := [some (vr 238), some (vr into_0), some (vi x_3), none]) ⟨Or.inr rfl, Or.inr rfl, Or.inr rfl, Or.inl rfl, trivial⟩ ?_
        exact J_81 _ (Option.some.inj H).symm
      · refine z_icmp_le_t (M := M_X2_span) (tgt := 135) dX2_span_105 (by decide) rfl (by decide +kernel) (Int.not_lt.mp h_66) ?_
        refine z_le (lv' := [some (vr 238), some (vr into_0), some (vi x_3), none]) ⟨Or.inr rfl, Or.inr rfl, Or.inr rfl, Or.inl rfl, trivial⟩ ?_
        exact J_81 _ (Option.some.inj H).symm
    refine whl_go hw_39 (fun (k_37, σ_38) => YY l E M_X2_span 6 0 0 (pS (some (vi r)) σ') 65 [some (vr 238), some (vr into_0), some (vi x_3), some (vi k_37)] [] σ_38 0 0) ?_
    rintro ⟨k_37, σ_38⟩ o_43 H K_44 K_45
    refine z_iload_n (M := M_X2_span) dX2_span_65 rfl ?_
    refine z_iload_n (M := M_X2_span) dX2_span_66 rfl ?_
    rcases if_e H with ⟨h_46, H⟩ | ⟨h_46, H⟩
    · refine z_icmp_ge_f (M := M_X2_span) (tgt := 103) dX2_span_67 (by decide) rfl rfl h_46 ?_
      refine z_aload_n (M := M_X2_span) dX2_span_70 rfl ?_
      refine z_aload_n (M := M_X2_span) dX2_span_71 rfl ?_
      refine z_getR (M := M_X2_span) (ci := 5) (C := RX2) (T := TX2) (Nf := 17) (ty := tyX2) cl5 dX2_span_72 ly_238 1 (by decide) t_486 rfl ?_
      refine z_aload_n (M := M_X2_span) dX2_span_75 rfl ?_
      refine z_getR (M := M_X2_span) (ci := 5) (C := RX2) (T := TX2) (Nf := 17) (ty := tyX2) cl5 dX2_span_76 ly_238 6 (by decide) t_491 rfl ?_
      refine z_iload_n (M := M_X2_span) dX2_span_79 rfl ?_
      obtain ⟨x_47, x_47_e, hi_48, H⟩ := rd_e H
      refine z_iald (M := M_X2_span) dX2_span_80 ly_244 rfl rfl rfl hi_48 x_47_e ?_
      obtain ⟨x_49, x_49_e, hi_50, H⟩ := rd_e H
      refine z_iald (M := M_X2_span) dX2_span_81 ly_240 rfl rfl rfl hi_50 x_49_e ?_
      refine z_aload_n (M := M_X2_span) dX2_span_82 rfl ?_
      refine z_getR (M := M_X2_span) (ci := 5) (C := RX2) (T := TX2) (Nf := 17) (ty := tyX2) cl5 dX2_span_83 ly_238 2 (by decide) t_487 rfl ?_
      refine z_aload_n (M := M_X2_span) dX2_span_86 rfl ?_
      refine z_getR (M := M_X2_span) (ci := 5) (C := RX2) (T := TX2) (Nf := 17) (ty := tyX2) cl5 dX2_span_87 ly_238 6 (by decide) t_491 rfl ?_
      refine z_iload_n (M := M_X2_span) dX2_span_90 rfl ?_
      obtain ⟨x_51, x_51_e, hi_52, H⟩ := rd_e H
      refine z_iald (M := M_X2_span) dX2_span_91 ly_244 rfl rfl rfl hi_52 x_51_e ?_
      obtain ⟨x_53, x_53_e, hi_54, H⟩ := rd_e H
      refine z_iald (M := M_X2_span) dX2_span_92 ly_241 rfl rfl rfl hi_54 x_53_e ?_
      obtain ⟨⟨x_57, σ_56⟩, hc_55, H⟩ := bd_e H
      refine z_callV (M := M_X2_span) (M' := M_X6_addPoint) (as := [vi x_49, vi x_53]) (rest := []) rfl rfl dX2_span_93 m_X6_addPoint t_2121 t_938 t_939 (c_X6_addPoint hl h_into hc_55) rfl rfl (ly_S h_into) rfl (Nat.le_of_ble_eq_true rfl) (Nat.le_of_ble_eq_true rfl) (Nat.le_of_ble_eq_true rfl) (Nat.le_of_ble_eq_true rfl) ?_
      refine z_st (st' := [zv x_57]) rfl ?_
      refine z_pop (M := M_X2_span) dX2_span_96 rfl ?_
      refine z_iinc (M := M_X2_span) (lv' := [some (vr 238), some (vr into_0), some (vi x_3), some (vi (k_37 + 1))]) dX2_span_97 rfl (Nat.le_of_ble_eq_true rfl) rfl rfl ?_
      refine z_goto (M := M_X2_span) (tgt := 65) dX2_span_100 (by decide) ?_
      exact K_44 _ (Option.some.inj H).symm
    · refine z_icmp_ge_t (M := M_X2_span) (tgt := 103) dX2_span_67 (by decide) rfl rfl (Int.not_lt.mp h_46) ?_
      exact J_82 _ _ (K_45 _ (Option.some.inj H).symm).symm
  have H := he_6
  refine z_iload_n (M := M_X2_span) dX2_span_9 rfl ?_
  rcases if_e H with ⟨h_10, H⟩ | ⟨h_10, H⟩
  · refine z_if_ne_f (M := M_X2_span) (tgt := 24) dX2_span_10 (by decide) rfl h_10 ?_
    refine z_aload_n (M := M_X2_span) dX2_span_13 rfl ?_
    refine z_bipush (M := M_X2_span) dX2_span_14 (by decide +kernel) ?_
    refine z_iconst (M := M_X2_span) dX2_span_16 ?_
    obtain ⟨⟨x_13, σ_12⟩, hc_11, H⟩ := bd_e H
    refine z_callV (M := M_X2_span) (M' := M_X6_addShape) (as := [vi 7, vi 0]) (rest := []) rfl rfl dX2_span_17 m_X6_addShape t_2119 t_872 t_873 (c_X6_addShape hl h_into hc_11) rfl rfl (ly_S h_into) rfl (Nat.le_of_ble_eq_true rfl) (Nat.le_of_ble_eq_true rfl) (Nat.le_of_ble_eq_true rfl) (Nat.le_of_ble_eq_true rfl) ?_
    refine z_st (st' := [zv x_13]) rfl ?_
    refine z_pop (M := M_X2_span) dX2_span_20 rfl ?_
    refine z_goto (M := M_X2_span) (tgt := 63) dX2_span_21 (by decide) ?_
    exact J_83 _ (Option.some.inj H).symm
  · refine z_if_ne_t (M := M_X2_span) (tgt := 24) dX2_span_10 (by decide) rfl h_10 ?_
    obtain ⟨v_18, he_15, hk_16⟩ := bd_e H
    have J_35 : ∀ σ_33, v_18 = σ_33 → YY l E M_X2_span 6 0 0 (pS (some (vi r)) σ') 63 [some (vr 238), some (vr into_0), some (vi x_3), none] [] σ_33 0 0 := by
      intro σ_33 e
      have H := hk_16
      rw [e] at H
      exact J_83 _ (Option.some.inj H).symm
    have H := he_15
    refine z_iload_n (M := M_X2_span) dX2_span_24 rfl ?_
    refine z_iconst (M := M_X2_span) dX2_span_25 ?_
    rcases if_e H with ⟨h_19, H⟩ | ⟨h_19, H⟩
    · refine z_icmp_ge_f (M := M_X2_span) (tgt := 48) dX2_span_26 (by decide) rfl (by decide +kernel) h_19 ?_
      refine z_aload_n (M := M_X2_span) dX2_span_29 rfl ?_
      have J_20 : YY l E M_X2_span 6 0 0 (pS (some (vi r)) σ') 40 [some (vr 238), some (vr into_0), some (vi x_3), none] [vi (if (w32 x_3) = 1 then 1 else 2), vr into_0] σ_5 0 0 := by
        refine z_iload_n (M := M_X2_span) dX2_span_40 rfl ?_
        obtain ⟨⟨x_23, σ_22⟩, hc_21, H⟩ := bd_e H
        refine z_callV (M := M_X2_span) (M' := M_X6_addShape) (as := [vi (if (w32 x_3) = 1 then 1 else 2), vi x_3]) (rest := []) rfl rfl dX2_span_41 m_X6_addShape t_2119 t_872 t_873 (c_X6_addShape hl h_into hc_21) rfl rfl (ly_S h_into) rfl (Nat.le_of_ble_eq_true rfl) (Nat.le_of_ble_eq_true rfl) (Nat.le_of_ble_eq_true rfl) (Nat.le_of_ble_eq_true rfl) ?_
        refine z_st (st' := [zv x_23]) rfl ?_
        refine z_pop (M := M_X2_span) dX2_span_44 rfl ?_
        refine z_goto (M := M_X2_span) (tgt := 63) dX2_span_45 (by decide) ?_
        exact J_35 _ (Option.some.inj H).symm
      refine z_iload_n (M := M_X2_span) dX2_span_30 rfl ?_
      refine z_iconst (M := M_X2_span) dX2_span_31 ?_
      by_cases h_25 : (w32 x_3) = 1
      · refine z_icmp_ne_f (M := M_X2_span) (tgt := 39) dX2_span_32 (by decide) rfl (by decide +kernel) h_25 ?_
        refine z_iconst (M := M_X2_span) dX2_span_35 ?_
        refine z_goto (M := M_X2_span) (tgt := 40) dX2_span_36 (by decide) ?_
        exact z_st (by rw [if_pos (c := (w32 x_3) = 1) h_25]) J_20
      · refine z_icmp_ne_t (M := M_X2_span) (tgt := 39) dX2_span_32 (by decide) rfl (by decide +kernel) h_25 ?_
        refine z_iconst (M := M_X2_span) dX2_span_39 ?_
        exact z_st (by rw [if_neg (c := (w32 x_3) = 1) h_25]) J_20
    · refine z_icmp_ge_t (M := M_X2_span) (tgt := 48) dX2_span_26 (by decide) rfl (by decide +kernel) (Int.not_lt.mp h_19) ?_
      refine z_aload_n (M := M_X2_span) dX2_span_48 rfl ?_
      refine z_iconst (M := M_X2_span) dX2_span_49 ?_
      refine z_iconst (M := M_X2_span) dX2_span_50 ?_
      obtain ⟨⟨x_28, σ_27⟩, hc_26, H⟩ := bd_e H
      refine z_callV (M := M_X2_span) (M' := M_X6_addShape) (as := [vi 3, vi 1]) (rest := []) rfl rfl dX2_span_51 m_X6_addShape t_2119 t_872 t_873 (c_X6_addShape hl h_into hc_26) rfl rfl (ly_S h_into) rfl (Nat.le_of_ble_eq_true rfl) (Nat.le_of_ble_eq_true rfl) (Nat.le_of_ble_eq_true rfl) (Nat.le_of_ble_eq_true rfl) ?_
      refine z_st (st' := [zv x_28]) rfl ?_
      refine z_pop (M := M_X2_span) dX2_span_54 rfl ?_
      refine z_aload_n (M := M_X2_span) dX2_span_55 rfl ?_
      refine z_iload_n (M := M_X2_span) dX2_span_56 rfl ?_
      refine z_iconst (M := M_X2_span) dX2_span_57 ?_
      refine z_iadd (M := M_X2_span) dX2_span_58 ?_
      obtain ⟨⟨x_31, σ_30⟩, hc_29, H⟩ := bd_e H
      refine z_callV (M := M_X2_span) (M' := M_X6_addRing) (as := [vi (x_3 + 1)]) (rest := []) rfl rfl dX2_span_59 m_X6_addRing t_2120 t_893 t_894 (c_X6_addRing hl h_into hc_29) rfl rfl (ly_S h_into) rfl (Nat.le_of_ble_eq_true rfl) (Nat.le_of_ble_eq_true rfl) (Nat.le_of_ble_eq_true rfl) (Nat.le_of_ble_eq_true rfl) ?_
      refine z_st (st' := [zv x_31]) rfl ?_
      refine z_pop (M := M_X2_span) dX2_span_62 rfl ?_
      exact J_35 _ (Option.some.inj H).symm
theorem c_X11_hull (hl : l.stackTraces = false) {σ : SG} {slot_0 : Int} {to_0 : Int} {r : Int ⊕ Nat} {σ' : SG}  (H : fQ_hull σ slot_0 to_0 = some (r, σ')) : en_S l E M_X11_hull 7 4 24 [vr 32, vi slot_0, vi to_0] σ (pT (riT r) σ') := by
  unfold fQ_hull at H
  refine z_mk (lv := [some (vr 32), some (vi slot_0), some (vi to_0), none, none]) m_X11_hull rfl hl (Nat.le_of_ble_eq_true rfl) rfl ?_
  refine z_aload_n (M := M_X11_hull) dX11_hull_0 rfl ?_
  refine z_iload_n (M := M_X11_hull) dX11_hull_1 rfl ?_
  obtain ⟨z_27, σ_2, hc_1, K_4, K_5⟩ := bt_e H
  rcases z_27 with x_3 | z_27
  · have H := K_4 _ rfl
    refine z_callV (M := M_X11_hull) (M' := M_X11_slotNumbered) (as := [vi slot_0]) (rest := []) rfl rfl dX11_hull_2 m_X11_slotNumbered t_744 t_746 s_2 (v := some (vr x_3)) (c_X11_slotNumbered hl  hc_1) rfl rfl ly_32 rfl (Nat.le_of_ble_eq_true rfl) (Nat.le_of_ble_eq_true rfl) (Nat.le_of_ble_eq_true rfl) (Nat.le_of_ble_eq_true rfl) ?_
    refine z_st (st' := [vr x_3]) rfl ?_
    obtain ⟨hs_6, H⟩ := ck_e H
    refine z_astore_n (M := M_X11_hull) (lv' := [some (vr 32), some (vi slot_0), some (vi to_0), some (vr x_3), none]) dX11_hull_5 (Nat.le_of_ble_eq_true rfl) rfl rfl ?_
    refine z_aload_n (M := M_X11_hull) dX11_hull_6 rfl ?_
    refine z_iload_n (M := M_X11_hull) dX11_hull_7 rfl ?_
    obtain ⟨z_26, σ_8, hc_7, K_10, K_11⟩ := bt_e H
    rcases z_26 with x_9 | z_26
    · have H := K_10 _ rfl
      refine z_callV (M := M_X11_hull) (M' := M_X11_slotNumbered) (as := [vi to_0]) (rest := []) rfl rfl dX11_hull_8 m_X11_slotNumbered t_744 t_746 s_2 (v := some (vr x_9)) (c_X11_slotNumbered hl  hc_7) rfl rfl ly_32 rfl (Nat.le_of_ble_eq_true rfl) (Nat.le_of_ble_eq_true rfl) (Nat.le_of_ble_eq_true rfl) (Nat.le_of_ble_eq_true rfl) ?_
      refine z_st (st' := [vr x_9]) rfl ?_
      obtain ⟨hs_12, H⟩ := ck_e H
      refine z_astore (M := M_X11_hull) (lv' := [some (vr 32), some (vi slot_0), some (vi to_0), some (vr x_3), some (vr x_9)]) dX11_hull_11 (Nat.le_of_ble_eq_true rfl) rfl rfl ?_
      refine z_aload_n (M := M_X11_hull) dX11_hull_13 rfl ?_
      obtain ⟨z_25, σ_14, hc_13, K_16, K_17⟩ := bt_e H
      rcases z_25 with x_15 | z_25
      · have H := K_16 _ rfl
        refine z_callS (M := M_X11_hull) (M' := M_X11_mustBeThere) (as := [vr x_3]) (rest := []) rfl rfl dX11_hull_14 m_X11_mustBeThere t_1047 t_1048 (v := none) (c_X11_mustBeThere hl hs_6 hc_13) rfl rfl (Nat.le_of_ble_eq_true rfl) (Nat.le_of_ble_eq_true rfl) (Nat.le_of_ble_eq_true rfl) (Nat.le_of_ble_eq_true rfl) ?_
        refine z_st (st' := []) rfl ?_
        refine z_aload_n (M := M_X11_hull) dX11_hull_17 rfl ?_
        refine z_getR (M := M_X11_hull) (ci := 14) (C := RX11) (T := TX11) (Nf := 19) (ty := tyX11) cl14 dX11_hull_18 ly_32 13 (by decide) t_576 rfl ?_
        refine z_aload_n (M := M_X11_hull) dX11_hull_21 rfl ?_
        obtain ⟨⟨x_20, σ_19⟩, hc_18, H⟩ := bd_e H
        refine z_callV (M := M_X11_hull) (M' := M_X2_gather) (as := [vr x_3]) (rest := []) rfl rfl dX11_hull_22 m_X2_gather t_2083 t_2084 t_2085 (c_X2_gather hl hs_6 hc_18) rfl rfl ly_238 rfl (Nat.le_of_ble_eq_true rfl) (Nat.le_of_ble_eq_true rfl) (Nat.le_of_ble_eq_true rfl) (Nat.le_of_ble_eq_true rfl) ?_
        refine z_st (st' := [zv x_20]) rfl ?_
        rcases if_e H with ⟨h_21, H⟩ | ⟨h_21, H⟩
        · refine z_zne_t (M := M_X11_hull) (tgt := 36) dX11_hull_25 (by decide) h_21 ?_
          refine z_aload_n (M := M_X11_hull) dX11_hull_36 rfl ?_
          refine z_getR (M := M_X11_hull) (ci := 14) (C := RX11) (T := TX11) (Nf := 19) (ty := tyX11) cl14 dX11_hull_37 ly_32 13 (by decide) t_576 rfl ?_
          refine z_aload (M := M_X11_hull) dX11_hull_40 rfl ?_
          obtain ⟨⟨x_24, σ_23⟩, hc_22, H⟩ := bd_e H
          refine z_callV (M := M_X11_hull) (M' := M_X2_span) (as := [vr x_9]) (rest := []) rfl rfl dX11_hull_42 m_X2_span t_2101 t_2102 t_2103 (c_X2_span hl hs_12 hc_22) rfl rfl ly_238 rfl (Nat.le_of_ble_eq_true rfl) (Nat.le_of_ble_eq_true rfl) (Nat.le_of_ble_eq_true rfl) (Nat.le_of_ble_eq_true rfl) ?_
          refine z_st (st' := [vi x_24]) rfl ?_
          cases H
          exact z_iret (M := M_X11_hull) dX11_hull_45 rfl (Nat.le_of_ble_eq_true rfl) (Nat.le_of_ble_eq_true rfl) ⟨rfl, rfl⟩
        · refine z_zne_f (M := M_X11_hull) (tgt := 36) dX11_hull_25 (by decide) h_21 ?_
          cases H
          exact z_throw (M := M_X11_hull) (names := en_nm) rfl dX11_hull_28 dX11_hull_31 dX11_hull_32 dX11_hull_35 (by decide +kernel) en_nm_ok (Or.inl t_1857) (Or.inl t_34) at_X11_UnsupportedOperationException_234 (Nat.le_of_ble_eq_true rfl) (Nat.le_of_ble_eq_true rfl) (Nat.le_of_ble_eq_true rfl) (Nat.le_of_ble_eq_true rfl) ⟨rfl, rfl⟩
      · have H := K_17 _ rfl
        cases H
        exact z_callSX (M := M_X11_hull) (M' := M_X11_mustBeThere) (as := [vr x_3]) (rest := []) rfl rfl dX11_hull_14 m_X11_mustBeThere t_1047 t_1048 (e := z_25) (c_X11_mustBeThere hl hs_6 hc_13) rfl rfl (Nat.le_of_ble_eq_true rfl) (Nat.le_of_ble_eq_true rfl) (Nat.le_of_ble_eq_true rfl) (Nat.le_of_ble_eq_true rfl) ⟨rfl, rfl⟩
    · have H := K_11 _ rfl
      cases H
      exact z_callVX (M := M_X11_hull) (M' := M_X11_slotNumbered) (as := [vi to_0]) (rest := []) rfl rfl dX11_hull_8 m_X11_slotNumbered t_744 t_746 s_2 (e := z_26) (c_X11_slotNumbered hl  hc_7) rfl rfl ly_32 rfl (Nat.le_of_ble_eq_true rfl) (Nat.le_of_ble_eq_true rfl) (Nat.le_of_ble_eq_true rfl) (Nat.le_of_ble_eq_true rfl) ⟨rfl, rfl⟩
  · have H := K_5 _ rfl
    cases H
    exact z_callVX (M := M_X11_hull) (M' := M_X11_slotNumbered) (as := [vi slot_0]) (rest := []) rfl rfl dX11_hull_2 m_X11_slotNumbered t_744 t_746 s_2 (e := z_27) (c_X11_slotNumbered hl  hc_1) rfl rfl ly_32 rfl (Nat.le_of_ble_eq_true rfl) (Nat.le_of_ble_eq_true rfl) (Nat.le_of_ble_eq_true rfl) (Nat.le_of_ble_eq_true rfl) ⟨rfl, rfl⟩
end LFAG
