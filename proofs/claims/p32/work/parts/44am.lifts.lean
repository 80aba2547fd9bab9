section LFAM
variable {l : Launch} {E : EE}
theorem c_X2_findRound (hl : l.stackTraces = false) {σ : SG} {from_0 : Int} {to_0 : Int} {r : Bool} {σ' : SG}  (H : fP_findRound σ from_0 to_0 = some (r, σ')) : en_S l E M_X2_findRound 5 0 0 [vr 238, vi from_0, vi to_0] σ (pS (some (zv r)) σ') := by
  unfold fP_findRound at H
  refine z_mk (lv := [some (vr 238), some (vi from_0), some (vi to_0), none, none]) m_X2_findRound rfl hl (Nat.le_of_ble_eq_true rfl) rfl ?_
  refine z_aload_n (M := M_X2_findRound) dX2_findRound_0 rfl ?_
  refine z_getR (M := M_X2_findRound) (ci := 5) (C := RX2) (T := TX2) (Nf := 17) (ty := tyX2) cl5 dX2_findRound_1 ly_238 11 (by decide) t_496 rfl ?_
  refine z_iconst (M := M_X2_findRound) dX2_findRound_4 ?_
  refine z_iload_n (M := M_X2_findRound) dX2_findRound_5 rfl ?_
  obtain ⟨σ_1, σ_1_e, hi_2, H⟩ := wa_e H
  refine z_iast (M := M_X2_findRound) dX2_findRound_6 ly_248 rfl (by decide +kernel) rfl hi_2 σ_1_e ?_
  refine z_aload_n (M := M_X2_findRound) dX2_findRound_7 rfl ?_
  refine z_getR (M := M_X2_findRound) (ci := 5) (C := RX2) (T := TX2) (Nf := 17) (ty := tyX2) cl5 dX2_findRound_8 ly_238 11 (by decide) t_496 rfl ?_
  refine z_iconst (M := M_X2_findRound) dX2_findRound_11 ?_
  refine z_iload_n (M := M_X2_findRound) dX2_findRound_12 rfl ?_
  obtain ⟨σ_3, σ_3_e, hi_4, H⟩ := wa_e H
  refine z_iast (M := M_X2_findRound) dX2_findRound_13 ly_248 rfl (by decide +kernel) rfl hi_4 σ_3_e ?_
  refine z_aload_n (M := M_X2_findRound) dX2_findRound_14 rfl ?_
  refine z_iconst (M := M_X2_findRound) dX2_findRound_15 ?_
  obtain ⟨σ_5, σ_5_e, H⟩ := wf_e H
  refine z_putI (M := M_X2_findRound) (ci := 5) (C := RX2) (T := TX2) (Nf := 17) (ty := tyX2) cl5 dX2_findRound_16 ly_238 12 (by decide) t_497 rfl rfl rfl rfl σ_5_e ?_
  refine z_iconst (M := M_X2_findRound) dX2_findRound_19 ?_
  refine z_istore_n (M := M_X2_findRound) (lv' := [some (vr 238), some (vi from_0), some (vi to_0), some (vi 0), none]) dX2_findRound_20 (Nat.le_of_ble_eq_true rfl) rfl rfl ?_
  obtain ⟨rl_11, hw_8, hk_9⟩ := bd_e H
  have J_69 : ∀ i_65 σ_66, rl_11 = (i_65, σ_66) → YY l E M_X2_findRound 5 0 0 (pS (some (zv r)) σ') 105 [some (vr 238), some (vi from_0), some (vi to_0), some (vi i_65), none] [] σ_66 0 0 := by
    intro i_65 σ_66 e
    have H := hk_9
    rw [e] at H
    have J_67 : YY l E M_X2_findRound 5 0 0 (pS (some (zv r)) σ') 118 [some (vr 238), some (vi from_0), some (vi to_0), some (vi i_65), none] [zv (decide (2 < (w32 (σ_66 kP_roundSize 0))))] σ_66 0 0 := by
      cases H
      exact z_zret (M := M_X2_findRound) dX2_findRound_118 rfl (Nat.le_of_ble_eq_true rfl) (Nat.le_of_ble_eq_true rfl) ⟨rfl, rfl⟩
    refine z_aload_n (M := M_X2_findRound) dX2_findRound_105 rfl ?_
    refine z_getI (M := M_X2_findRound) (ci := 5) (C := RX2) (T := TX2) (Nf := 17) (ty := tyX2) cl5 dX2_findRound_106 ly_238 12 (by decide) t_497 rfl rfl ?_
    refine z_iconst (M := M_X2_findRound) dX2_findRound_109 ?_
    by_cases h_68 : 2 < (w32 (σ_66 kP_roundSize 0))
    · refine z_icmp_le_f (M := M_X2_findRound) (tgt := 117) dX2_findRound_110 (by decide) rfl (by decide +kernel) h_68 ?_
      refine z_iconst (M := M_X2_findRound) dX2_findRound_113 ?_
      refine z_goto (M := M_X2_findRound) (tgt := 118) dX2_findRound_114 (by decide) ?_
      exact z_st (by rw [zv_t (p := 2 < (w32 (σ_66 kP_roundSize 0))) h_68]) J_67
    · refine z_icmp_le_t (M := M_X2_findRound) (tgt := 117) dX2_findRound_110 (by decide) rfl (by decide +kernel) (Int.not_lt.mp h_68) ?_
      refine z_iconst (M := M_X2_findRound) dX2_findRound_117 ?_
      exact z_st (by rw [zv_f (p := 2 < (w32 (σ_66 kP_roundSize 0))) h_68]) J_67
  refine whl_go hw_8 (fun (i_6, σ_7) => YY l E M_X2_findRound 5 0 0 (pS (some (zv r)) σ') 21 [some (vr 238), some (vi from_0), some (vi to_0), some (vi i_6), none] [] σ_7 0 0) ?_
  rintro ⟨i_6, σ_7⟩ o_12 H K_13 K_14
  refine z_iload_n (M := M_X2_findRound) dX2_findRound_21 rfl ?_
  refine z_aload_n (M := M_X2_findRound) dX2_findRound_22 rfl ?_
  refine z_getI (M := M_X2_findRound) (ci := 5) (C := RX2) (T := TX2) (Nf := 17) (ty := tyX2) cl5 dX2_findRound_23 ly_238 3 (by decide) t_488 rfl rfl ?_
  rcases if_e H with ⟨h_15, H⟩ | ⟨h_15, H⟩
  · refine z_icmp_ge_f (M := M_X2_findRound) (tgt := 105) dX2_findRound_26 (by decide) rfl rfl h_15 ?_
    refine z_aload_n (M := M_X2_findRound) dX2_findRound_29 rfl ?_
    refine z_iload_n (M := M_X2_findRound) dX2_findRound_30 rfl ?_
    refine z_iload_n (M := M_X2_findRound) dX2_findRound_31 rfl ?_
    refine z_iload_n (M := M_X2_findRound) dX2_findRound_32 rfl ?_
    obtain ⟨x_17, hc_16, H⟩ := bd_e H
    refine z_callV (M := M_X2_findRound) (M' := M_X2_turnAt) (as := [vi from_0, vi to_0, vi i_6]) (rest := []) rfl rfl dX2_findRound_33 m_X2_turnAt t_2113 t_2115 s_132 (c_X2_turnAt hl  hc_16) rfl rfl ly_238 rfl (Nat.le_of_ble_eq_true rfl) (Nat.le_of_ble_eq_true rfl) (Nat.le_of_ble_eq_true rfl) (Nat.le_of_ble_eq_true rfl) ?_
    refine z_st (st' := [vi x_17]) rfl ?_
    rcases if_e H with ⟨h_18, H⟩ | ⟨h_18, H⟩
    · refine z_if_gt_f (M := M_X2_findRound) (tgt := 42) dX2_findRound_36 (by decide) rfl h_18 ?_
      refine z_goto (M := M_X2_findRound) (tgt := 99) dX2_findRound_39 (by decide) ?_
      refine z_iinc (M := M_X2_findRound) (lv' := [some (vr 238), some (vi from_0), some (vi to_0), some (vi (i_6 + 1)), none]) dX2_findRound_99 rfl (Nat.le_of_ble_eq_true rfl) rfl rfl ?_
      refine z_goto (M := M_X2_findRound) (tgt := 21) dX2_findRound_102 (by decide) ?_
      exact K_13 _ (Option.some.inj H).symm
    · refine z_if_gt_t (M := M_X2_findRound) (tgt := 42) dX2_findRound_36 (by decide) rfl (Int.not_le.mp h_18) ?_
      obtain ⟨v_60, he_61, hk_62⟩ := bd_e H
      have J_63 : ∀ x_31, v_60 = x_31 → YY l E M_X2_findRound 5 0 0 (pS (some (zv r)) σ') 67 [some (vr 238), some (vi from_0), some (vi to_0), some (vi i_6), none] [vi x_31] σ_7 0 0 := by
        intro x_31 e
        have H := hk_62
        rw [e] at H
        refine z_istore (M := M_X2_findRound) (lv' := [some (vr 238), some (vi from_0), some (vi to_0), some (vi i_6), some (vi x_31)]) dX2_findRound_67 (Nat.le_of_ble_eq_true rfl) rfl rfl ?_
        obtain ⟨v_35, he_32, hk_33⟩ := bd_e H
        have J_59 : ∀ σ_40, v_35 = σ_40 → YY l E M_X2_findRound 5 0 0 (pS (some (zv r)) σ') 79 [some (vr 238), some (vi from_0), some (vi to_0), some (vi i_6), some (vi x_31)] [] σ_40 0 0 := by
          intro σ_40 e
          have H := hk_33
          rw [e] at H
          obtain ⟨v_44, he_41, hk_42⟩ := bd_e H
          have J_58 : ∀ σ_56, v_44 = σ_56 → YY l E M_X2_findRound 5 0 0 (pS (some (zv r)) σ') 99 [some (vr 238), some (vi from_0), some (vi to_0), some (vi i_6), some (vi x_31)] [] σ_56 0 0 := by
            intro σ_56 e
            have H := hk_42
            rw [e] at H
            refine z_iinc (M := M_X2_findRound) (lv' := [some (vr 238), some (vi from_0), some (vi to_0), some (vi (i_6 + 1)), some (vi x_31)]) dX2_findRound_99 rfl (Nat.le_of_ble_eq_true rfl) rfl rfl ?_
            refine z_goto (M := M_X2_findRound) (tgt := 21) dX2_findRound_102 (by decide) ?_
            refine z_le (lv' := [some (vr 238), some (vi from_0), some (vi to_0), some (vi (i_6 + 1)), none]) ⟨Or.inr rfl, Or.inr rfl, Or.inr rfl, Or.inr rfl, Or.inl rfl, trivial⟩ ?_
            exact K_13 _ (Option.some.inj H).symm
          have H := he_41
          rcases if_e H with ⟨h_49, H⟩ | ⟨h_49, H⟩
          · have J_50 : YY l E M_X2_findRound 5 0 0 (pS (some (zv r)) σ') 94 [some (vr 238), some (vi from_0), some (vi to_0), some (vi i_6), some (vi x_31)] [] σ_40 0 0 := by
              refine z_aload_n (M := M_X2_findRound) dX2_findRound_94 rfl ?_
              refine z_iload_n (M := M_X2_findRound) dX2_findRound_95 rfl ?_
              obtain ⟨σ_46, hc_45, H⟩ := bd_e H
              refine z_callV (M := M_X2_findRound) (M' := M_X2_insertInRound) (as := [vi i_6]) (rest := []) rfl rfl dX2_findRound_96 m_X2_insertInRound t_2162 t_2164 s_139 (c_X2_insertInRound hl  hc_45) rfl rfl ly_238 rfl (Nat.le_of_ble_eq_true rfl) (Nat.le_of_ble_eq_true rfl) (Nat.le_of_ble_eq_true rfl) (Nat.le_of_ble_eq_true rfl) ?_
              refine z_st (st' := []) rfl ?_
              exact J_58 _ (Option.some.inj H).symm
            refine z_iload (M := M_X2_findRound) dX2_findRound_79 rfl ?_
            by_cases h_52 : 0 ≤ (w32 x_31)
            · refine z_if_lt_f (M := M_X2_findRound) (tgt := 99) dX2_findRound_81 (by decide) rfl h_52 ?_
              refine z_aload_n (M := M_X2_findRound) dX2_findRound_84 rfl ?_
              refine z_getI (M := M_X2_findRound) (ci := 5) (C := RX2) (T := TX2) (Nf := 17) (ty := tyX2) cl5 dX2_findRound_85 ly_238 12 (by decide) t_497 rfl rfl ?_
              refine z_sipush (M := M_X2_findRound) dX2_findRound_88 (by decide +kernel) ?_
              by_cases h_53 : (w32 (σ_40 kP_roundSize 0)) < 514
              · refine z_icmp_ge_f (M := M_X2_findRound) (tgt := 99) dX2_findRound_91 (by decide) rfl (by decide +kernel) h_53 ?_
                exact J_50
              · refine z_icmp_ge_t (M := M_X2_findRound) (tgt := 99) dX2_findRound_91 (by decide) rfl (by decide +kernel) (Int.not_lt.mp h_53) ?_
                exact absurd h_49 (fun q => h_53 q.2)
            · refine z_if_lt_t (M := M_X2_findRound) (tgt := 99) dX2_findRound_81 (by decide) rfl (Int.not_le.mp h_52) ?_
              exact absurd h_49 (fun q => h_52 q.1)
          · have J_51 : YY l E M_X2_findRound 5 0 0 (pS (some (zv r)) σ') 99 [some (vr 238), some (vi from_0), some (vi to_0), some (vi i_6), some (vi x_31)] [] σ_40 0 0 := by
              exact J_58 _ (Option.some.inj H).symm
            refine z_iload (M := M_X2_findRound) dX2_findRound_79 rfl ?_
            by_cases h_54 : 0 ≤ (w32 x_31)
            · refine z_if_lt_f (M := M_X2_findRound) (tgt := 99) dX2_findRound_81 (by decide) rfl h_54 ?_
              refine z_aload_n (M := M_X2_findRound) dX2_findRound_84 rfl ?_
              refine z_getI (M := M_X2_findRound) (ci := 5) (C := RX2) (T := TX2) (Nf := 17) (ty := tyX2) cl5 dX2_findRound_85 ly_238 12 (by decide) t_497 rfl rfl ?_
              refine z_sipush (M := M_X2_findRound) dX2_findRound_88 (by decide +kernel) ?_
              by_cases h_55 : (w32 (σ_40 kP_roundSize 0)) < 514
              · refine z_icmp_ge_f (M := M_X2_findRound) (tgt := 99) dX2_findRound_91 (by decide) rfl (by decide +kernel) h_55 ?_
                exact absurd ⟨h_54, h_55⟩ h_49
              · refine z_icmp_ge_t (M := M_X2_findRound) (tgt := 99) dX2_findRound_91 (by decide) rfl (by decide +kernel) (Int.not_lt.mp h_55) ?_
                exact J_51
            · refine z_if_lt_t (M := M_X2_findRound) (tgt := 99) dX2_findRound_81 (by decide) rfl (Int.not_le.mp h_54) ?_
              exact J_51
        have H := he_32
        refine z_iload (M := M_X2_findRound) dX2_findRound_69 rfl ?_
        rcases if_e H with ⟨h_36, H⟩ | ⟨h_36, H⟩
        · refine z_if_le_f (M := M_X2_findRound) (tgt := 79) dX2_findRound_71 (by decide) rfl h_36 ?_
          refine z_aload_n (M := M_X2_findRound) dX2_findRound_74 rfl ?_
          refine z_iconst (M := M_X2_findRound) dX2_findRound_75 ?_
          obtain ⟨σ_37, σ_37_e, H⟩ := wf_e H
          refine z_putI (M := M_X2_findRound) (ci := 5) (C := RX2) (T := TX2) (Nf := 17) (ty := tyX2) cl5 dX2_findRound_76 ly_238 12 (by decide) t_497 rfl rfl rfl rfl σ_37_e ?_
          exact J_59 _ (Option.some.inj H).symm
        · refine z_if_le_t (M := M_X2_findRound) (tgt := 79) dX2_findRound_71 (by decide) rfl (Int.not_lt.mp h_36) ?_
          exact J_59 _ (Option.some.inj H).symm
      have H := he_61
      refine z_aload_n (M := M_X2_findRound) dX2_findRound_42 rfl ?_
      refine z_getI (M := M_X2_findRound) (ci := 5) (C := RX2) (T := TX2) (Nf := 17) (ty := tyX2) cl5 dX2_findRound_43 ly_238 12 (by decide) t_497 rfl rfl ?_
      refine z_iconst (M := M_X2_findRound) dX2_findRound_46 ?_
      rcases if_e H with ⟨h_24, H⟩ | ⟨h_24, H⟩
      · refine z_icmp_ne_f (M := M_X2_findRound) (tgt := 54) dX2_findRound_47 (by decide) rfl (by decide +kernel) h_24 ?_
        refine z_iconst (M := M_X2_findRound) dX2_findRound_50 ?_
        refine z_goto (M := M_X2_findRound) (tgt := 67) dX2_findRound_51 (by decide) ?_
        exact J_63 _ (Option.some.inj H).symm
      · refine z_icmp_ne_t (M := M_X2_findRound) (tgt := 54) dX2_findRound_47 (by decide) rfl (by decide +kernel) h_24 ?_
        refine z_aload_n (M := M_X2_findRound) dX2_findRound_54 rfl ?_
        refine z_iload_n (M := M_X2_findRound) dX2_findRound_55 rfl ?_
        refine z_iload_n (M := M_X2_findRound) dX2_findRound_56 rfl ?_
        refine z_aload_n (M := M_X2_findRound) dX2_findRound_57 rfl ?_
        refine z_getR (M := M_X2_findRound) (ci := 5) (C := RX2) (T := TX2) (Nf := 17) (ty := tyX2) cl5 dX2_findRound_58 ly_238 11 (by decide) t_496 rfl ?_
        refine z_iconst (M := M_X2_findRound) dX2_findRound_61 ?_
        obtain ⟨x_26, x_26_e, hi_27, H⟩ := rd_e H
        refine z_iald (M := M_X2_findRound) dX2_findRound_62 ly_248 rfl (by decide +kernel) rfl hi_27 x_26_e ?_
        refine z_iload_n (M := M_X2_findRound) dX2_findRound_63 rfl ?_
        obtain ⟨x_29, hc_28, H⟩ := bd_e H
        refine z_callV (M := M_X2_findRound) (M' := M_X2_circleSign) (as := [vi from_0, vi to_0, vi x_26, vi i_6]) (rest := []) rfl rfl dX2_findRound_64 m_X2_circleSign t_2157 t_2159 s_138 (c_X2_circleSign hl  hc_28) rfl rfl ly_238 rfl (Nat.le_of_ble_eq_true rfl) (Nat.le_of_ble_eq_true rfl) (Nat.le_of_ble_eq_true rfl) (Nat.le_of_ble_eq_true rfl) ?_
        refine z_st (st' := [vi x_29]) rfl ?_
        exact J_63 _ (Option.some.inj H).symm
  · refine z_icmp_ge_t (M := M_X2_findRound) (tgt := 105) dX2_findRound_26 (by decide) rfl rfl (Int.not_lt.mp h_15) ?_
    exact J_69 _ _ (K_14 _ (Option.some.inj H).symm).symm
theorem c_X2_firstNeighbour (hl : l.stackTraces = false) {σ : SG} {r : Int}  (H : fP_firstNeighbour σ = some r) : en_S l E M_X2_firstNeighbour 4 0 0 [vr 238] σ (pS (some (vi r)) σ) := by
  unfold fP_firstNeighbour at H
  refine z_mk (lv := [some (vr 238), none, none]) m_X2_firstNeighbour rfl hl (Nat.le_of_ble_eq_true rfl) rfl ?_
  refine z_iconst (M := M_X2_firstNeighbour) dX2_firstNeighbour_0 ?_
  refine z_istore_n (M := M_X2_firstNeighbour) (lv' := [some (vr 238), some (vi 1), none]) dX2_firstNeighbour_1 (Nat.le_of_ble_eq_true rfl) rfl rfl ?_
  refine z_iconst (M := M_X2_firstNeighbour) dX2_firstNeighbour_2 ?_
  refine z_istore_n (M := M_X2_firstNeighbour) (lv' := [some (vr 238), some (vi 1), some (vi 2)]) dX2_firstNeighbour_3 (Nat.le_of_ble_eq_true rfl) rfl rfl ?_
  obtain ⟨rl_6, hw_3, hk_4⟩ := bd_e H
  have J_26 : ∀ best_24 i_25, rl_6 = (best_24, i_25) → YY l E M_X2_firstNeighbour 4 0 0 (pS (some (vi r)) σ) 30 [some (vr 238), some (vi best_24), some (vi i_25)] [] σ 0 0 := by
    intro best_24 i_25 e
    have H := hk_4
    rw [e] at H
    refine z_iload_n (M := M_X2_firstNeighbour) dX2_firstNeighbour_30 rfl ?_
    cases H
    exact z_iret (M := M_X2_firstNeighbour) dX2_firstNeighbour_31 rfl (Nat.le_of_ble_eq_true rfl) (Nat.le_of_ble_eq_true rfl) ⟨rfl, rfl⟩
  refine whl_go hw_3 (fun (best_1, i_2) => YY l E M_X2_firstNeighbour 4 0 0 (pS (some (vi r)) σ) 4 [some (vr 238), some (vi best_1), some (vi i_2)] [] σ 0 0) ?_
  rintro ⟨best_1, i_2⟩ o_7 H K_8 K_9
  refine z_iload_n (M := M_X2_firstNeighbour) dX2_firstNeighbour_4 rfl ?_
  refine z_aload_n (M := M_X2_firstNeighbour) dX2_firstNeighbour_5 rfl ?_
  refine z_getI (M := M_X2_firstNeighbour) (ci := 5) (C := RX2) (T := TX2) (Nf := 17) (ty := tyX2) cl5 dX2_firstNeighbour_6 ly_238 3 (by decide) t_488 rfl rfl ?_
  rcases if_e H with ⟨h_10, H⟩ | ⟨h_10, H⟩
  · refine z_icmp_ge_f (M := M_X2_firstNeighbour) (tgt := 30) dX2_firstNeighbour_9 (by decide) rfl rfl h_10 ?_
    obtain ⟨v_14, he_11, hk_12⟩ := bd_e H
    have J_22 : ∀ best_20, v_14 = best_20 → YY l E M_X2_firstNeighbour 4 0 0 (pS (some (vi r)) σ) 24 [some (vr 238), some (vi best_20), some (vi i_2)] [] σ 0 0 := by
      intro best_20 e
      have H := hk_12
      rw [e] at H
      refine z_iinc (M := M_X2_firstNeighbour) (lv' := [some (vr 238), some (vi best_20), some (vi (i_2 + 1))]) dX2_firstNeighbour_24 rfl (Nat.le_of_ble_eq_true rfl) rfl rfl ?_
      refine z_goto (M := M_X2_firstNeighbour) (tgt := 4) dX2_firstNeighbour_27 (by decide) ?_
      exact K_8 _ (Option.some.inj H).symm
    have H := he_11
    refine z_aload_n (M := M_X2_firstNeighbour) dX2_firstNeighbour_12 rfl ?_
    refine z_iconst (M := M_X2_firstNeighbour) dX2_firstNeighbour_13 ?_
    refine z_iload_n (M := M_X2_firstNeighbour) dX2_firstNeighbour_14 rfl ?_
    refine z_iload_n (M := M_X2_firstNeighbour) dX2_firstNeighbour_15 rfl ?_
    obtain ⟨x_16, hc_15, H⟩ := bd_e H
    refine z_callV (M := M_X2_firstNeighbour) (M' := M_X2_turnAt) (as := [vi 0, vi best_1, vi i_2]) (rest := []) rfl rfl dX2_firstNeighbour_16 m_X2_turnAt t_2113 t_2115 s_132 (c_X2_turnAt hl  hc_15) rfl rfl ly_238 rfl (Nat.le_of_ble_eq_true rfl) (Nat.le_of_ble_eq_true rfl) (Nat.le_of_ble_eq_true rfl) (Nat.le_of_ble_eq_true rfl) ?_
    refine z_st (st' := [vi x_16]) rfl ?_
    rcases if_e H with ⟨h_17, H⟩ | ⟨h_17, H⟩
    · refine z_if_ge_f (M := M_X2_firstNeighbour) (tgt := 24) dX2_firstNeighbour_19 (by decide) rfl h_17 ?_
      refine z_iload_n (M := M_X2_firstNeighbour) dX2_firstNeighbour_22 rfl ?_
      refine z_istore_n (M := M_X2_firstNeighbour) (lv' := [some (vr 238), some (vi i_2), some (vi i_2)]) dX2_firstNeighbour_23 (Nat.le_of_ble_eq_true rfl) rfl rfl ?_
      exact J_22 _ (Option.some.inj H).symm
    · refine z_if_ge_t (M := M_X2_firstNeighbour) (tgt := 24) dX2_firstNeighbour_19 (by decide) rfl (Int.not_lt.mp h_17) ?_
      exact J_22 _ (Option.some.inj H).symm
  · refine z_icmp_ge_t (M := M_X2_firstNeighbour) (tgt := 30) dX2_firstNeighbour_9 (by decide) rfl rfl (Int.not_lt.mp h_10) ?_
    exact J_26 _ _ (K_9 _ (Option.some.inj H).symm).symm
theorem c_X2_isTold (hl : l.stackTraces = false) {σ : SG} {from_0 : Int} {to_0 : Int} {r : Bool}  (H : fP_isTold σ from_0 to_0 = some r) : en_S l E M_X2_isTold 1 0 0 [vr 238, vi from_0, vi to_0] σ (pS (some (zv r)) σ) := by
  unfold fP_isTold at H
  refine z_mk (lv := [some (vr 238), some (vi from_0), some (vi to_0), none]) m_X2_isTold rfl hl (Nat.le_of_ble_eq_true rfl) rfl ?_
  refine z_iload_n (M := M_X2_isTold) dX2_isTold_0 rfl ?_
  refine z_aload_n (M := M_X2_isTold) dX2_isTold_1 rfl ?_
  refine z_getI (M := M_X2_isTold) (ci := 5) (C := RX2) (T := TX2) (Nf := 17) (ty := tyX2) cl5 dX2_isTold_2 ly_238 3 (by decide) t_488 rfl rfl ?_
  refine z_imul (M := M_X2_isTold) dX2_isTold_5 ?_
  refine z_iload_n (M := M_X2_isTold) dX2_isTold_6 rfl ?_
  refine z_iadd (M := M_X2_isTold) dX2_isTold_7 ?_
  refine z_istore_n (M := M_X2_isTold) (lv' := [some (vr 238), some (vi from_0), some (vi to_0), some (vi ((from_0 * (σ kP_places 0)) + to_0))]) dX2_isTold_8 (Nat.le_of_ble_eq_true rfl) rfl rfl ?_
  obtain ⟨v_7, he_8, hk_9⟩ := bd_e H
  have J_10 : ∀ x_6, v_7 = x_6 → YY l E M_X2_isTold 1 0 0 (pS (some (zv r)) σ) 35 [some (vr 238), some (vi from_0), some (vi to_0), some (vi ((from_0 * (σ kP_places 0)) + to_0))] [zv x_6] σ 0 0 := by
    intro x_6 e
    have H := hk_9
    rw [e] at H
    cases H
    exact z_zret (M := M_X2_isTold) dX2_isTold_35 rfl (Nat.le_of_ble_eq_true rfl) (Nat.le_of_ble_eq_true rfl) ⟨rfl, rfl⟩
  have H := he_8
  refine z_aload_n (M := M_X2_isTold) dX2_isTold_9 rfl ?_
  refine z_getR (M := M_X2_isTold) (ci := 5) (C := RX2) (T := TX2) (Nf := 17) (ty := tyX2) cl5 dX2_isTold_10 ly_238 7 (by decide) t_492 rfl ?_
  refine z_iload_n (M := M_X2_isTold) dX2_isTold_13 rfl ?_
  refine z_bipush (M := M_X2_isTold) dX2_isTold_14 (by decide +kernel) ?_
  refine z_ishr (M := M_X2_isTold) dX2_isTold_16 ?_
  obtain ⟨x_1, x_1_e, hi_2, H⟩ := rd_e H
  refine z_lald (M := M_X2_isTold) dX2_isTold_17 ly_245 rfl rfl rfl hi_2 x_1_e ?_
  refine z_iload_n (M := M_X2_isTold) dX2_isTold_18 rfl ?_
  refine z_bipush (M := M_X2_isTold) dX2_isTold_19 (by decide +kernel) ?_
  refine z_iand (M := M_X2_isTold) dX2_isTold_21 ?_
  refine z_lshr (M := M_X2_isTold) dX2_isTold_22 ?_
  refine z_lconst (M := M_X2_isTold) (m := 1) dX2_isTold_23 (by decide +kernel) ?_
  refine z_land (M := M_X2_isTold) dX2_isTold_24 ?_
  refine z_lconst (M := M_X2_isTold) (m := 0) dX2_isTold_25 (by decide +kernel) ?_
  refine z_lcmp (M := M_X2_isTold) dX2_isTold_26 ?_
  rcases if_e H with ⟨h_3, H⟩ | ⟨h_3, H⟩
  · refine z_lif_eq_f (M := M_X2_isTold) (tgt := 34) dX2_isTold_27 (by decide) rfl (by decide +kernel) h_3 ?_
    refine z_zconst (M := M_X2_isTold) (b := true) dX2_isTold_30 rfl ?_
    refine z_goto (M := M_X2_isTold) (tgt := 35) dX2_isTold_31 (by decide) ?_
    exact J_10 _ (Option.some.inj H).symm
  · refine z_lif_eq_t (M := M_X2_isTold) (tgt := 34) dX2_isTold_27 (by decide) rfl (by decide +kernel) (Decidable.not_not.mp h_3) ?_
    refine z_zconst (M := M_X2_isTold) (b := false) dX2_isTold_34 rfl ?_
    exact J_10 _ (Option.some.inj H).symm
theorem c_X2_pushWay (hl : l.stackTraces = false) {σ : SG} {from_0 : Int} {to_0 : Int} {σ' : SG}  (H : fP_pushWay σ from_0 to_0 = some σ') : en_S l E M_X2_pushWay 2 0 0 [vr 238, vi from_0, vi to_0] σ (pS (none) σ') := by
  unfold fP_pushWay at H
  refine z_mk (lv := [some (vr 238), some (vi from_0), some (vi to_0)]) m_X2_pushWay rfl hl (Nat.le_of_ble_eq_true rfl) rfl ?_
  obtain ⟨v_4, he_1, hk_2⟩ := bd_e H
  have J_26 : ∀ σ_25, v_4 = σ_25 → YY l E M_X2_pushWay 2 0 0 (pS (none) σ') 51 [some (vr 238), some (vi from_0), some (vi to_0)] [] σ_25 0 0 := by
    intro σ_25 e
    have H := hk_2
    rw [e] at H
    cases H
    exact z_vret (M := M_X2_pushWay) dX2_pushWay_51 rfl (Nat.le_of_ble_eq_true rfl) (Nat.le_of_ble_eq_true rfl) ⟨rfl, rfl⟩
  have H := he_1
  refine z_aload_n (M := M_X2_pushWay) dX2_pushWay_0 rfl ?_
  refine z_getI (M := M_X2_pushWay) (ci := 5) (C := RX2) (T := TX2) (Nf := 17) (ty := tyX2) cl5 dX2_pushWay_1 ly_238 10 (by decide) t_495 rfl rfl ?_
  refine z_aload_n (M := M_X2_pushWay) dX2_pushWay_4 rfl ?_
  refine z_getR (M := M_X2_pushWay) (ci := 5) (C := RX2) (T := TX2) (Nf := 17) (ty := tyX2) cl5 dX2_pushWay_5 ly_238 8 (by decide) t_493 rfl ?_
  refine z_alen (M := M_X2_pushWay) (N := 3084) dX2_pushWay_8 ly_246 (by decide) rfl ?_
  rcases if_e H with ⟨h_13, H⟩ | ⟨h_13, H⟩
  · refine z_icmp_ge_f (M := M_X2_pushWay) (tgt := 51) dX2_pushWay_9 (by decide) rfl (by decide +kernel) h_13 ?_
    refine z_aload_n (M := M_X2_pushWay) dX2_pushWay_12 rfl ?_
    refine z_iload_n (M := M_X2_pushWay) dX2_pushWay_13 rfl ?_
    refine z_iload_n (M := M_X2_pushWay) dX2_pushWay_14 rfl ?_
    obtain ⟨x_15, hc_14, H⟩ := bd_e H
    refine z_callV (M := M_X2_pushWay) (M' := M_X2_isTold) (as := [vi from_0, vi to_0]) (rest := []) rfl rfl dX2_pushWay_15 m_X2_isTold t_2148 t_2150 s_136 (c_X2_isTold hl  hc_14) rfl rfl ly_238 rfl (Nat.le_of_ble_eq_true rfl) (Nat.le_of_ble_eq_true rfl) (Nat.le_of_ble_eq_true rfl) (Nat.le_of_ble_eq_true rfl) ?_
    refine z_st (st' := [zv x_15]) rfl ?_
    rcases if_e H with ⟨h_16, H⟩ | ⟨h_16, H⟩
    · refine z_zne_t (M := M_X2_pushWay) (tgt := 51) dX2_pushWay_18 (by decide) h_16 ?_
      exact J_26 _ (Option.some.inj H).symm
    · refine z_zne_f (M := M_X2_pushWay) (tgt := 51) dX2_pushWay_18 (by decide) h_16 ?_
      refine z_aload_n (M := M_X2_pushWay) dX2_pushWay_21 rfl ?_
      refine z_getR (M := M_X2_pushWay) (ci := 5) (C := RX2) (T := TX2) (Nf := 17) (ty := tyX2) cl5 dX2_pushWay_22 ly_238 8 (by decide) t_493 rfl ?_
      refine z_aload_n (M := M_X2_pushWay) dX2_pushWay_25 rfl ?_
      refine z_getI (M := M_X2_pushWay) (ci := 5) (C := RX2) (T := TX2) (Nf := 17) (ty := tyX2) cl5 dX2_pushWay_26 ly_238 10 (by decide) t_495 rfl rfl ?_
      refine z_iload_n (M := M_X2_pushWay) dX2_pushWay_29 rfl ?_
      obtain ⟨σ_18, σ_18_e, hi_19, H⟩ := wa_e H
      refine z_iast (M := M_X2_pushWay) dX2_pushWay_30 ly_246 rfl rfl rfl hi_19 σ_18_e ?_
      refine z_aload_n (M := M_X2_pushWay) dX2_pushWay_31 rfl ?_
      refine z_getR (M := M_X2_pushWay) (ci := 5) (C := RX2) (T := TX2) (Nf := 17) (ty := tyX2) cl5 dX2_pushWay_32 ly_238 9 (by decide) t_494 rfl ?_
      refine z_aload_n (M := M_X2_pushWay) dX2_pushWay_35 rfl ?_
      refine z_getI (M := M_X2_pushWay) (ci := 5) (C := RX2) (T := TX2) (Nf := 17) (ty := tyX2) cl5 dX2_pushWay_36 ly_238 10 (by decide) t_495 rfl rfl ?_
      refine z_iload_n (M := M_X2_pushWay) dX2_pushWay_39 rfl ?_
      obtain ⟨σ_20, σ_20_e, hi_21, H⟩ := wa_e H
      refine z_iast (M := M_X2_pushWay) dX2_pushWay_40 ly_247 rfl rfl rfl hi_21 σ_20_e ?_
      refine z_aload_n (M := M_X2_pushWay) dX2_pushWay_41 rfl ?_
      refine z_dup (M := M_X2_pushWay) dX2_pushWay_42 rfl ?_
      refine z_getI (M := M_X2_pushWay) (ci := 5) (C := RX2) (T := TX2) (Nf := 17) (ty := tyX2) cl5 dX2_pushWay_43 ly_238 10 (by decide) t_495 rfl rfl ?_
      refine z_iconst (M := M_X2_pushWay) dX2_pushWay_46 ?_
      refine z_iadd (M := M_X2_pushWay) dX2_pushWay_47 ?_
      obtain ⟨σ_22, σ_22_e, H⟩ := wf_e H
      refine z_putI (M := M_X2_pushWay) (ci := 5) (C := RX2) (T := TX2) (Nf := 17) (ty := tyX2) cl5 dX2_pushWay_48 ly_238 10 (by decide) t_495 rfl rfl rfl rfl σ_22_e ?_
      exact J_26 _ (Option.some.inj H).symm
  · refine z_icmp_ge_t (M := M_X2_pushWay) (tgt := 51) dX2_pushWay_9 (by decide) rfl (by decide +kernel) (Int.not_lt.mp h_13) ?_
    exact J_26 _ (Option.some.inj H).symm
theorem c_X2_setTold (hl : l.stackTraces = false) {σ : SG} {from_0 : Int} {to_0 : Int} {σ' : SG}  (H : fP_setTold σ from_0 to_0 = some σ') : en_S l E M_X2_setTold 1 0 0 [vr 238, vi from_0, vi to_0] σ (pS (none) σ') := by
  unfold fP_setTold at H
  refine z_mk (lv := [some (vr 238), some (vi from_0), some (vi to_0), none]) m_X2_setTold rfl hl (Nat.le_of_ble_eq_true rfl) rfl ?_
  refine z_iload_n (M := M_X2_setTold) dX2_setTold_0 rfl ?_
  refine z_aload_n (M := M_X2_setTold) dX2_setTold_1 rfl ?_
  refine z_getI (M := M_X2_setTold) (ci := 5) (C := RX2) (T := TX2) (Nf := 17) (ty := tyX2) cl5 dX2_setTold_2 ly_238 3 (by decide) t_488 rfl rfl ?_
  refine z_imul (M := M_X2_setTold) dX2_setTold_5 ?_
  refine z_iload_n (M := M_X2_setTold) dX2_setTold_6 rfl ?_
  refine z_iadd (M := M_X2_setTold) dX2_setTold_7 ?_
  refine z_istore_n (M := M_X2_setTold) (lv' := [some (vr 238), some (vi from_0), some (vi to_0), some (vi ((from_0 * (σ kP_places 0)) + to_0))]) dX2_setTold_8 (Nat.le_of_ble_eq_true rfl) rfl rfl ?_
  refine z_aload_n (M := M_X2_setTold) dX2_setTold_9 rfl ?_
  refine z_getR (M := M_X2_setTold) (ci := 5) (C := RX2) (T := TX2) (Nf := 17) (ty := tyX2) cl5 dX2_setTold_10 ly_238 7 (by decide) t_492 rfl ?_
  refine z_iload_n (M := M_X2_setTold) dX2_setTold_13 rfl ?_
  refine z_bipush (M := M_X2_setTold) dX2_setTold_14 (by decide +kernel) ?_
  refine z_ishr (M := M_X2_setTold) dX2_setTold_16 ?_
  refine z_dup2 (M := M_X2_setTold) dX2_setTold_17 rfl rfl ?_
  obtain ⟨x_1, x_1_e, hi_2, H⟩ := rd_e H
  refine z_lald (M := M_X2_setTold) dX2_setTold_18 ly_245 rfl rfl rfl hi_2 x_1_e ?_
  refine z_lconst (M := M_X2_setTold) (m := 1) dX2_setTold_19 (by decide +kernel) ?_
  refine z_iload_n (M := M_X2_setTold) dX2_setTold_20 rfl ?_
  refine z_bipush (M := M_X2_setTold) dX2_setTold_21 (by decide +kernel) ?_
  refine z_iand (M := M_X2_setTold) dX2_setTold_23 ?_
  refine z_lshl (M := M_X2_setTold) dX2_setTold_24 ?_
  refine z_lor (M := M_X2_setTold) dX2_setTold_25 ?_
  obtain ⟨σ_3, σ_3_e, hi_4, H⟩ := wa_e H
  refine z_last (M := M_X2_setTold) dX2_setTold_26 ly_245 rfl rfl rfl hi_4 σ_3_e ?_
  cases H
  exact z_vret (M := M_X2_setTold) dX2_setTold_27 rfl (Nat.le_of_ble_eq_true rfl) (Nat.le_of_ble_eq_true rfl) ⟨rfl, rfl⟩
theorem c_X2_triangleKeyFrom (hl : l.stackTraces = false) {σ : SG} {first_0 : Int} {second_0 : Int} {third_0 : Int} {r : Int}  (H : fP_triangleKeyFrom first_0 second_0 third_0 = r) : en_S l E M_X2_triangleKeyFrom 1 0 0 [vl first_0, vl second_0, vl third_0] σ (pS (some (vl r)) σ) := by
  unfold fP_triangleKeyFrom at H
  refine z_mk (lv := [some (vl first_0), none, some (vl second_0), none, some (vl third_0), none]) m_X2_triangleKeyFrom rfl hl (Nat.le_of_ble_eq_true rfl) rfl ?_
  refine z_lload_n (M := M_X2_triangleKeyFrom) dX2_triangleKeyFrom_0 rfl ?_
  refine z_bipush (M := M_X2_triangleKeyFrom) dX2_triangleKeyFrom_1 (by decide +kernel) ?_
  refine z_lshl (M := M_X2_triangleKeyFrom) dX2_triangleKeyFrom_3 ?_
  refine z_lload_n (M := M_X2_triangleKeyFrom) dX2_triangleKeyFrom_4 rfl ?_
  refine z_lor (M := M_X2_triangleKeyFrom) dX2_triangleKeyFrom_5 ?_
  refine z_bipush (M := M_X2_triangleKeyFrom) dX2_triangleKeyFrom_6 (by decide +kernel) ?_
  refine z_lshl (M := M_X2_triangleKeyFrom) dX2_triangleKeyFrom_8 ?_
  refine z_lload (M := M_X2_triangleKeyFrom) dX2_triangleKeyFrom_9 rfl ?_
  refine z_lor (M := M_X2_triangleKeyFrom) dX2_triangleKeyFrom_11 ?_
  cases H
  exact z_lret (M := M_X2_triangleKeyFrom) dX2_triangleKeyFrom_12 rfl (Nat.le_of_ble_eq_true rfl) (Nat.le_of_ble_eq_true rfl) ⟨rfl, rfl⟩
theorem c_X2_triangleKey (hl : l.stackTraces = false) {σ : SG} {a_0 : Int} {b_0 : Int} {c_0 : Int} {r : Int}  (H : fP_triangleKey a_0 b_0 c_0 = r) : en_S l E M_X2_triangleKey 2 0 0 [vl a_0, vl b_0, vl c_0] σ (pS (some (vl r)) σ) := by
  unfold fP_triangleKey at H
  refine z_mk (lv := [some (vl a_0), none, some (vl b_0), none, some (vl c_0), none]) m_X2_triangleKey rfl hl (Nat.le_of_ble_eq_true rfl) rfl ?_
  rcases if_e H with ⟨h_4, H⟩ | ⟨h_4, H⟩
  · have J_5 : YY l E M_X2_triangleKey 2 0 0 (pS (some (vl r)) σ) 13 [some (vl a_0), none, some (vl b_0), none, some (vl c_0), none] [] σ 0 0 := by
      refine z_lload_n (M := M_X2_triangleKey) dX2_triangleKey_13 rfl ?_
      refine z_lload (M := M_X2_triangleKey) dX2_triangleKey_14 rfl ?_
      refine z_lload_n (M := M_X2_triangleKey) dX2_triangleKey_16 rfl ?_
      refine z_callS (M := M_X2_triangleKey) (M' := M_X2_triangleKeyFrom) (as := [vl b_0, vl c_0, vl a_0]) (rest := []) rfl rfl dX2_triangleKey_17 m_X2_triangleKeyFrom t_2177 t_2178 (c_X2_triangleKeyFrom hl  rfl) rfl rfl (Nat.le_of_ble_eq_true rfl) (Nat.le_of_ble_eq_true rfl) (Nat.le_of_ble_eq_true rfl) (Nat.le_of_ble_eq_true rfl) ?_
      refine z_st (st' := [vl (fP_triangleKeyFrom b_0 c_0 a_0)]) rfl ?_
      cases H
      exact z_lret (M := M_X2_triangleKey) dX2_triangleKey_20 rfl (Nat.le_of_ble_eq_true rfl) (Nat.le_of_ble_eq_true rfl) ⟨rfl, rfl⟩
    refine z_lload_n (M := M_X2_triangleKey) dX2_triangleKey_0 rfl ?_
    refine z_lload_n (M := M_X2_triangleKey) dX2_triangleKey_1 rfl ?_
    refine z_lcmp (M := M_X2_triangleKey) dX2_triangleKey_2 ?_
    by_cases h_7 : (w64 b_0) < (w64 a_0)
    · refine z_lif_ge_f (M := M_X2_triangleKey) (tgt := 21) dX2_triangleKey_3 (by decide) rfl rfl h_7 ?_
      refine z_lload_n (M := M_X2_triangleKey) dX2_triangleKey_6 rfl ?_
      refine z_lload (M := M_X2_triangleKey) dX2_triangleKey_7 rfl ?_
      refine z_lcmp (M := M_X2_triangleKey) dX2_triangleKey_9 ?_
      by_cases h_8 : (w64 b_0) < (w64 c_0)
      · refine z_lif_ge_f (M := M_X2_triangleKey) (tgt := 21) dX2_triangleKey_10 (by decide) rfl rfl h_8 ?_
        exact J_5
      · refine z_lif_ge_t (M := M_X2_triangleKey) (tgt := 21) dX2_triangleKey_10 (by decide) rfl rfl (Int.not_lt.mp h_8) ?_
        exact absurd h_4 (fun q => h_8 q.2)
    · refine z_lif_ge_t (M := M_X2_triangleKey) (tgt := 21) dX2_triangleKey_3 (by decide) rfl rfl (Int.not_lt.mp h_7) ?_
      exact absurd h_4 (fun q => h_7 q.1)
  · have J_6 : YY l E M_X2_triangleKey 2 0 0 (pS (some (vl r)) σ) 21 [some (vl a_0), none, some (vl b_0), none, some (vl c_0), none] [] σ 0 0 := by
      have J_1 : YY l E M_X2_triangleKey 2 0 0 (pS (some (vl r)) σ) 52 [some (vl a_0), none, some (vl b_0), none, some (vl c_0), none] [vl (if ((w64 c_0) < (w64 a_0)) ∧ ((w64 c_0) < (w64 b_0)) then (fP_triangleKeyFrom c_0 a_0 b_0) else (fP_triangleKeyFrom a_0 b_0 c_0))] σ 0 0 := by
        cases H
        exact z_lret (M := M_X2_triangleKey) dX2_triangleKey_52 rfl (Nat.le_of_ble_eq_true rfl) (Nat.le_of_ble_eq_true rfl) ⟨rfl, rfl⟩
      refine z_lload (M := M_X2_triangleKey) dX2_triangleKey_21 rfl ?_
      refine z_lload_n (M := M_X2_triangleKey) dX2_triangleKey_23 rfl ?_
      refine z_lcmp (M := M_X2_triangleKey) dX2_triangleKey_24 ?_
      by_cases h_2 : (w64 c_0) < (w64 a_0)
      · refine z_lif_ge_f (M := M_X2_triangleKey) (tgt := 45) dX2_triangleKey_25 (by decide) rfl rfl h_2 ?_
        refine z_lload (M := M_X2_triangleKey) dX2_triangleKey_28 rfl ?_
        refine z_lload_n (M := M_X2_triangleKey) dX2_triangleKey_30 rfl ?_
        refine z_lcmp (M := M_X2_triangleKey) dX2_triangleKey_31 ?_
        by_cases h_3 : (w64 c_0) < (w64 b_0)
        · refine z_lif_ge_f (M := M_X2_triangleKey) (tgt := 45) dX2_triangleKey_32 (by decide) rfl rfl h_3 ?_
          refine z_lload (M := M_X2_triangleKey) dX2_triangleKey_35 rfl ?_
          refine z_lload_n (M := M_X2_triangleKey) dX2_triangleKey_37 rfl ?_
          refine z_lload_n (M := M_X2_triangleKey) dX2_triangleKey_38 rfl ?_
          refine z_callS (M := M_X2_triangleKey) (M' := M_X2_triangleKeyFrom) (as := [vl c_0, vl a_0, vl b_0]) (rest := []) rfl rfl dX2_triangleKey_39 m_X2_triangleKeyFrom t_2177 t_2178 (c_X2_triangleKeyFrom hl  rfl) rfl rfl (Nat.le_of_ble_eq_true rfl) (Nat.le_of_ble_eq_true rfl) (Nat.le_of_ble_eq_true rfl) (Nat.le_of_ble_eq_true rfl) ?_
          refine z_st (st' := [vl (fP_triangleKeyFrom c_0 a_0 b_0)]) rfl ?_
          refine z_goto (M := M_X2_triangleKey) (tgt := 52) dX2_triangleKey_42 (by decide) ?_
          exact z_st (by rw [if_pos (c := ((w64 c_0) < (w64 a_0)) ∧ ((w64 c_0) < (w64 b_0))) ⟨h_2, h_3⟩]) J_1
        · refine z_lif_ge_t (M := M_X2_triangleKey) (tgt := 45) dX2_triangleKey_32 (by decide) rfl rfl (Int.not_lt.mp h_3) ?_
          refine z_lload_n (M := M_X2_triangleKey) dX2_triangleKey_45 rfl ?_
          refine z_lload_n (M := M_X2_triangleKey) dX2_triangleKey_46 rfl ?_
          refine z_lload (M := M_X2_triangleKey) dX2_triangleKey_47 rfl ?_
          refine z_callS (M := M_X2_triangleKey) (M' := M_X2_triangleKeyFrom) (as := [vl a_0, vl b_0, vl c_0]) (rest := []) rfl rfl dX2_triangleKey_49 m_X2_triangleKeyFrom t_2177 t_2178 (c_X2_triangleKeyFrom hl  rfl) rfl rfl (Nat.le_of_ble_eq_true rfl) (Nat.le_of_ble_eq_true rfl) (Nat.le_of_ble_eq_true rfl) (Nat.le_of_ble_eq_true rfl) ?_
          refine z_st (st' := [vl (fP_triangleKeyFrom a_0 b_0 c_0)]) rfl ?_
          exact z_st (by rw [if_neg (c := ((w64 c_0) < (w64 a_0)) ∧ ((w64 c_0) < (w64 b_0))) (fun q => h_3 q.2)]) J_1
      · refine z_lif_ge_t (M := M_X2_triangleKey) (tgt := 45) dX2_triangleKey_25 (by decide) rfl rfl (Int.not_lt.mp h_2) ?_
        refine z_lload_n (M := M_X2_triangleKey) dX2_triangleKey_45 rfl ?_
        refine z_lload_n (M := M_X2_triangleKey) dX2_triangleKey_46 rfl ?_
        refine z_lload (M := M_X2_triangleKey) dX2_triangleKey_47 rfl ?_
        refine z_callS (M := M_X2_triangleKey) (M' := M_X2_triangleKeyFrom) (as := [vl a_0, vl b_0, vl c_0]) (rest := []) rfl rfl dX2_triangleKey_49 m_X2_triangleKeyFrom t_2177 t_2178 (c_X2_triangleKeyFrom hl  rfl) rfl rfl (Nat.le_of_ble_eq_true rfl) (Nat.le_of_ble_eq_true rfl) (Nat.le_of_ble_eq_true rfl) (Nat.le_of_ble_eq_true rfl) ?_
        refine z_st (st' := [vl (fP_triangleKeyFrom a_0 b_0 c_0)]) rfl ?_
        exact z_st (by rw [if_neg (c := ((w64 c_0) < (w64 a_0)) ∧ ((w64 c_0) < (w64 b_0))) (fun q => h_2 q.1)]) J_1
    refine z_lload_n (M := M_X2_triangleKey) dX2_triangleKey_0 rfl ?_
    refine z_lload_n (M := M_X2_triangleKey) dX2_triangleKey_1 rfl ?_
    refine z_lcmp (M := M_X2_triangleKey) dX2_triangleKey_2 ?_
    by_cases h_9 : (w64 b_0) < (w64 a_0)
    · refine z_lif_ge_f (M := M_X2_triangleKey) (tgt := 21) dX2_triangleKey_3 (by decide) rfl rfl h_9 ?_
      refine z_lload_n (M := M_X2_triangleKey) dX2_triangleKey_6 rfl ?_
      refine z_lload (M := M_X2_triangleKey) dX2_triangleKey_7 rfl ?_
      refine z_lcmp (M := M_X2_triangleKey) dX2_triangleKey_9 ?_
      by_cases h_10 : (w64 b_0) < (w64 c_0)
      · refine z_lif_ge_f (M := M_X2_triangleKey) (tgt := 21) dX2_triangleKey_10 (by decide) rfl rfl h_10 ?_
        exact absurd ⟨h_9, h_10⟩ h_4
      · refine z_lif_ge_t (M := M_X2_triangleKey) (tgt := 21) dX2_triangleKey_10 (by decide) rfl rfl (Int.not_lt.mp h_10) ?_
        exact J_6
    · refine z_lif_ge_t (M := M_X2_triangleKey) (tgt := 21) dX2_triangleKey_3 (by decide) rfl rfl (Int.not_lt.mp h_9) ?_
      exact J_6
theorem c_X2_tellRound (hl : l.stackTraces = false) {σ : SG} {r : Bool} {σ' : SG}  (H : fP_tellRound σ = some (r, σ')) : en_S l E M_X2_tellRound 3 0 0 [vr 238] σ (pS (some (zv r)) σ') := by
  unfold fP_tellRound at H
  refine z_mk (lv := [some (vr 238), none, none, none, none]) m_X2_tellRound rfl hl (Nat.le_of_ble_eq_true rfl) rfl ?_
  refine z_iconst (M := M_X2_tellRound) dX2_tellRound_0 ?_
  refine z_istore_n (M := M_X2_tellRound) (lv' := [some (vr 238), some (vi 0), none, none, none]) dX2_tellRound_1 (Nat.le_of_ble_eq_true rfl) rfl rfl ?_
  refine z_iconst (M := M_X2_tellRound) dX2_tellRound_2 ?_
  refine z_istore_n (M := M_X2_tellRound) (lv' := [some (vr 238), some (vi 0), some (vi 0), none, none]) dX2_tellRound_3 (Nat.le_of_ble_eq_true rfl) rfl rfl ?_
  obtain ⟨rl_7, hw_4, hk_5⟩ := bd_e H
  have J_72 : ∀ least_36 k_37 σ_38, rl_7 = (least_36, k_37, σ_38) → YY l E M_X2_tellRound 3 0 0 (pS (some (zv r)) σ') 84 [some (vr 238), some (vi least_36), some (vi k_37), none, none] [] σ_38 0 0 := by
    intro least_36 k_37 σ_38 e
    have H := hk_5
    rw [e] at H
    refine z_iconst (M := M_X2_tellRound) dX2_tellRound_84 ?_
    refine z_istore_n (M := M_X2_tellRound) (lv' := [some (vr 238), some (vi least_36), some (vi 1), none, none]) dX2_tellRound_85 (Nat.le_of_ble_eq_true rfl) rfl rfl ?_
    obtain ⟨rl_44, hw_41, hk_42, hk_43⟩ := bx_e H
    have J_71 : ∀ k_69 σ_70, rl_44 = (.inl (k_69, σ_70)) → YY l E M_X2_tellRound 3 0 0 (pS (some (zv r)) σ') 188 [some (vr 238), some (vi least_36), some (vi k_69), none, none] [] σ_70 0 0 := by
      intro k_69 σ_70 e
      have H := hk_42 _ e
      refine z_zconst (M := M_X2_tellRound) (b := true) dX2_tellRound_188 rfl ?_
      cases H
      exact z_zret (M := M_X2_tellRound) dX2_tellRound_189 rfl (Nat.le_of_ble_eq_true rfl) (Nat.le_of_ble_eq_true rfl) ⟨rfl, rfl⟩
    refine whl_go hw_41 (fun (k_39, σ_40) => YY l E M_X2_tellRound 3 0 0 (pS (some (zv r)) σ') 86 [some (vr 238), some (vi least_36), some (vi k_39), none, none] [] σ_40 0 0) ?_
    rintro ⟨k_39, σ_40⟩ o_45 H K_46 K_47
    refine z_iload_n (M := M_X2_tellRound) dX2_tellRound_86 rfl ?_
    refine z_iconst (M := M_X2_tellRound) dX2_tellRound_87 ?_
    refine z_iadd (M := M_X2_tellRound) dX2_tellRound_88 ?_
    refine z_aload_n (M := M_X2_tellRound) dX2_tellRound_89 rfl ?_
    refine z_getI (M := M_X2_tellRound) (ci := 5) (C := RX2) (T := TX2) (Nf := 17) (ty := tyX2) cl5 dX2_tellRound_90 ly_238 12 (by decide) t_497 rfl rfl ?_
    rcases if_e H with ⟨h_48, H⟩ | ⟨h_48, H⟩
    · refine z_icmp_ge_f (M := M_X2_tellRound) (tgt := 188) dX2_tellRound_93 (by decide) rfl rfl h_48 ?_
      refine z_aload_n (M := M_X2_tellRound) dX2_tellRound_96 rfl ?_
      refine z_getI (M := M_X2_tellRound) (ci := 5) (C := RX2) (T := TX2) (Nf := 17) (ty := tyX2) cl5 dX2_tellRound_97 ly_238 14 (by decide) t_499 rfl rfl ?_
      refine z_sipush (M := M_X2_tellRound) dX2_tellRound_100 (by decide +kernel) ?_
      rcases if_e H with ⟨h_49, H⟩ | ⟨h_49, H⟩
      · refine z_icmp_lt_f (M := M_X2_tellRound) (tgt := 108) dX2_tellRound_103 (by decide) rfl (by decide +kernel) h_49 ?_
        refine z_zconst (M := M_X2_tellRound) (b := false) dX2_tellRound_106 rfl ?_
        have H := congrArg some (hk_43 _ ((K_47 _ (Option.some.inj H).symm).symm))
        cases H
        exact z_zret (M := M_X2_tellRound) dX2_tellRound_107 rfl (Nat.le_of_ble_eq_true rfl) (Nat.le_of_ble_eq_true rfl) ⟨rfl, rfl⟩
      · refine z_icmp_lt_t (M := M_X2_tellRound) (tgt := 108) dX2_tellRound_103 (by decide) rfl (by decide +kernel) (Int.not_le.mp h_49) ?_
        refine z_aload_n (M := M_X2_tellRound) dX2_tellRound_108 rfl ?_
        refine z_getR (M := M_X2_tellRound) (ci := 5) (C := RX2) (T := TX2) (Nf := 17) (ty := tyX2) cl5 dX2_tellRound_109 ly_238 13 (by decide) t_498 rfl ?_
        refine z_aload_n (M := M_X2_tellRound) dX2_tellRound_112 rfl ?_
        refine z_getI (M := M_X2_tellRound) (ci := 5) (C := RX2) (T := TX2) (Nf := 17) (ty := tyX2) cl5 dX2_tellRound_113 ly_238 14 (by decide) t_499 rfl rfl ?_
        refine z_aload_n (M := M_X2_tellRound) dX2_tellRound_116 rfl ?_
        refine z_getR (M := M_X2_tellRound) (ci := 5) (C := RX2) (T := TX2) (Nf := 17) (ty := tyX2) cl5 dX2_tellRound_117 ly_238 4 (by decide) t_489 rfl ?_
        refine z_aload_n (M := M_X2_tellRound) dX2_tellRound_120 rfl ?_
        refine z_getR (M := M_X2_tellRound) (ci := 5) (C := RX2) (T := TX2) (Nf := 17) (ty := tyX2) cl5 dX2_tellRound_121 ly_238 11 (by decide) t_496 rfl ?_
        refine z_iload_n (M := M_X2_tellRound) dX2_tellRound_124 rfl ?_
        obtain ⟨x_50, x_50_e, hi_51, H⟩ := rd_e H
        refine z_iald (M := M_X2_tellRound) dX2_tellRound_125 ly_248 rfl rfl rfl hi_51 x_50_e ?_
        obtain ⟨x_52, x_52_e, hi_53, H⟩ := rd_e H
        refine z_iald (M := M_X2_tellRound) dX2_tellRound_126 ly_242 rfl rfl rfl hi_53 x_52_e ?_
        refine z_i2l (M := M_X2_tellRound) dX2_tellRound_127 ?_
        refine z_aload_n (M := M_X2_tellRound) dX2_tellRound_128 rfl ?_
        refine z_getR (M := M_X2_tellRound) (ci := 5) (C := RX2) (T := TX2) (Nf := 17) (ty := tyX2) cl5 dX2_tellRound_129 ly_238 4 (by decide) t_489 rfl ?_
        refine z_aload_n (M := M_X2_tellRound) dX2_tellRound_132 rfl ?_
        refine z_getR (M := M_X2_tellRound) (ci := 5) (C := RX2) (T := TX2) (Nf := 17) (ty := tyX2) cl5 dX2_tellRound_133 ly_238 11 (by decide) t_496 rfl ?_
        refine z_iload_n (M := M_X2_tellRound) dX2_tellRound_136 rfl ?_
        refine z_iload_n (M := M_X2_tellRound) dX2_tellRound_137 rfl ?_
        refine z_iadd (M := M_X2_tellRound) dX2_tellRound_138 ?_
        refine z_aload_n (M := M_X2_tellRound) dX2_tellRound_139 rfl ?_
        refine z_getI (M := M_X2_tellRound) (ci := 5) (C := RX2) (T := TX2) (Nf := 17) (ty := tyX2) cl5 dX2_tellRound_140 ly_238 12 (by decide) t_497 rfl rfl ?_
        obtain ⟨hd_54, H⟩ := ck_e H
        refine z_irem (M := M_X2_tellRound) dX2_tellRound_143 hd_54 ?_
        obtain ⟨x_55, x_55_e, hi_56, H⟩ := rd_e H
        refine z_iald (M := M_X2_tellRound) dX2_tellRound_144 ly_248 rfl rfl rfl hi_56 x_55_e ?_
        obtain ⟨x_57, x_57_e, hi_58, H⟩ := rd_e H
        refine z_iald (M := M_X2_tellRound) dX2_tellRound_145 ly_242 rfl rfl rfl hi_58 x_57_e ?_
        refine z_i2l (M := M_X2_tellRound) dX2_tellRound_146 ?_
        refine z_aload_n (M := M_X2_tellRound) dX2_tellRound_147 rfl ?_
        refine z_getR (M := M_X2_tellRound) (ci := 5) (C := RX2) (T := TX2) (Nf := 17) (ty := tyX2) cl5 dX2_tellRound_148 ly_238 4 (by decide) t_489 rfl ?_
        refine z_aload_n (M := M_X2_tellRound) dX2_tellRound_151 rfl ?_
        refine z_getR (M := M_X2_tellRound) (ci := 5) (C := RX2) (T := TX2) (Nf := 17) (ty := tyX2) cl5 dX2_tellRound_152 ly_238 11 (by decide) t_496 rfl ?_
        refine z_iload_n (M := M_X2_tellRound) dX2_tellRound_155 rfl ?_
        refine z_iload_n (M := M_X2_tellRound) dX2_tellRound_156 rfl ?_
        refine z_iadd (M := M_X2_tellRound) dX2_tellRound_157 ?_
        refine z_iconst (M := M_X2_tellRound) dX2_tellRound_158 ?_
        refine z_iadd (M := M_X2_tellRound) dX2_tellRound_159 ?_
        refine z_aload_n (M := M_X2_tellRound) dX2_tellRound_160 rfl ?_
        refine z_getI (M := M_X2_tellRound) (ci := 5) (C := RX2) (T := TX2) (Nf := 17) (ty := tyX2) cl5 dX2_tellRound_161 ly_238 12 (by decide) t_497 rfl rfl ?_
        obtain ⟨hd_59, H⟩ := ck_e H
        refine z_irem (M := M_X2_tellRound) dX2_tellRound_164 hd_59 ?_
        obtain ⟨x_60, x_60_e, hi_61, H⟩ := rd_e H
        refine z_iald (M := M_X2_tellRound) dX2_tellRound_165 ly_248 rfl rfl rfl hi_61 x_60_e ?_
        obtain ⟨x_62, x_62_e, hi_63, H⟩ := rd_e H
        refine z_iald (M := M_X2_tellRound) dX2_tellRound_166 ly_242 rfl rfl rfl hi_63 x_62_e ?_
        refine z_i2l (M := M_X2_tellRound) dX2_tellRound_167 ?_
        refine z_callS (M := M_X2_tellRound) (M' := M_X2_triangleKey) (as := [vl (w32 x_52), vl (w32 x_57), vl (w32 x_62)]) (rest := [vi (σ_40 kP_triangleCount 0), vr 249]) rfl rfl dX2_tellRound_168 m_X2_triangleKey t_2174 t_2175 (c_X2_triangleKey hl  rfl) rfl rfl (Nat.le_of_ble_eq_true rfl) (Nat.le_of_ble_eq_true rfl) (Nat.le_of_ble_eq_true rfl) (Nat.le_of_ble_eq_true rfl) ?_
        refine z_st (st' := [vl (fP_triangleKey (w32 x_52) (w32 x_57) (w32 x_62)), vi (σ_40 kP_triangleCount 0), vr 249]) rfl ?_
        obtain ⟨σ_64, σ_64_e, hi_65, H⟩ := wa_e H
        refine z_last (M := M_X2_tellRound) dX2_tellRound_171 ly_249 rfl rfl rfl hi_65 σ_64_e ?_
        refine z_aload_n (M := M_X2_tellRound) dX2_tellRound_172 rfl ?_
        refine z_dup (M := M_X2_tellRound) dX2_tellRound_173 rfl ?_
        refine z_getI (M := M_X2_tellRound) (ci := 5) (C := RX2) (T := TX2) (Nf := 17) (ty := tyX2) cl5 dX2_tellRound_174 ly_238 14 (by decide) t_499 rfl rfl ?_
        refine z_iconst (M := M_X2_tellRound) dX2_tellRound_177 ?_
        refine z_iadd (M := M_X2_tellRound) dX2_tellRound_178 ?_
        obtain ⟨σ_66, σ_66_e, H⟩ := wf_e H
        refine z_putI (M := M_X2_tellRound) (ci := 5) (C := RX2) (T := TX2) (Nf := 17) (ty := tyX2) cl5 dX2_tellRound_179 ly_238 14 (by decide) t_499 rfl rfl rfl rfl σ_66_e ?_
        refine z_iinc (M := M_X2_tellRound) (lv' := [some (vr 238), some (vi least_36), some (vi (k_39 + 1)), none, none]) dX2_tellRound_182 rfl (Nat.le_of_ble_eq_true rfl) rfl rfl ?_
        refine z_goto (M := M_X2_tellRound) (tgt := 86) dX2_tellRound_185 (by decide) ?_
        exact K_46 _ (Option.some.inj H).symm
    · refine z_icmp_ge_t (M := M_X2_tellRound) (tgt := 188) dX2_tellRound_93 (by decide) rfl rfl (Int.not_lt.mp h_48) ?_
      exact J_71 _ _ (K_47 _ (Option.some.inj H).symm).symm
  refine whl_go hw_4 (fun (least_1, k_2, σ_3) => YY l E M_X2_tellRound 3 0 0 (pS (some (zv r)) σ') 4 [some (vr 238), some (vi least_1), some (vi k_2), none, none] [] σ_3 0 0) ?_
  rintro ⟨least_1, k_2, σ_3⟩ o_8 H K_9 K_10
  refine z_iload_n (M := M_X2_tellRound) dX2_tellRound_4 rfl ?_
  refine z_aload_n (M := M_X2_tellRound) dX2_tellRound_5 rfl ?_
  refine z_getI (M := M_X2_tellRound) (ci := 5) (C := RX2) (T := TX2) (Nf := 17) (ty := tyX2) cl5 dX2_tellRound_6 ly_238 12 (by decide) t_497 rfl rfl ?_
  rcases if_e H with ⟨h_11, H⟩ | ⟨h_11, H⟩
  · refine z_icmp_ge_f (M := M_X2_tellRound) (tgt := 84) dX2_tellRound_9 (by decide) rfl rfl h_11 ?_
    obtain ⟨v_31, he_32, hk_33⟩ := bd_e H
    have J_34 : ∀ x_19, v_31 = x_19 → YY l E M_X2_tellRound 3 0 0 (pS (some (zv r)) σ') 32 [some (vr 238), some (vi least_1), some (vi k_2), none, none] [vi x_19] σ_3 0 0 := by
      intro x_19 e
      have H := hk_33
      rw [e] at H
      refine z_istore_n (M := M_X2_tellRound) (lv' := [some (vr 238), some (vi x_19), some (vi k_2), none, none]) dX2_tellRound_32 (Nat.le_of_ble_eq_true rfl) rfl rfl ?_
      refine z_aload_n (M := M_X2_tellRound) dX2_tellRound_33 rfl ?_
      refine z_getR (M := M_X2_tellRound) (ci := 5) (C := RX2) (T := TX2) (Nf := 17) (ty := tyX2) cl5 dX2_tellRound_34 ly_238 11 (by decide) t_496 rfl ?_
      refine z_iload_n (M := M_X2_tellRound) dX2_tellRound_37 rfl ?_
      obtain ⟨x_20, x_20_e, hi_21, H⟩ := rd_e H
      refine z_iald (M := M_X2_tellRound) dX2_tellRound_38 ly_248 rfl rfl rfl hi_21 x_20_e ?_
      refine z_istore_n (M := M_X2_tellRound) (lv' := [some (vr 238), some (vi x_19), some (vi k_2), some (vi x_20), none]) dX2_tellRound_39 (Nat.le_of_ble_eq_true rfl) rfl rfl ?_
      refine z_aload_n (M := M_X2_tellRound) dX2_tellRound_40 rfl ?_
      refine z_getR (M := M_X2_tellRound) (ci := 5) (C := RX2) (T := TX2) (Nf := 17) (ty := tyX2) cl5 dX2_tellRound_41 ly_238 11 (by decide) t_496 rfl ?_
      have J_22 : YY l E M_X2_tellRound 3 0 0 (pS (some (zv r)) σ') 61 [some (vr 238), some (vi x_19), some (vi k_2), some (vi x_20), none] [vi (if (w32 (k_2 + 1)) < (w32 (σ_3 kP_roundSize 0)) then (k_2 + 1) else 0), vr 248] σ_3 0 0 := by
        obtain ⟨x_23, x_23_e, hi_24, H⟩ := rd_e H
        refine z_iald (M := M_X2_tellRound) dX2_tellRound_61 ly_248 rfl rfl rfl hi_24 x_23_e ?_
        refine z_istore (M := M_X2_tellRound) (lv' := [some (vr 238), some (vi x_19), some (vi k_2), some (vi x_20), some (vi x_23)]) dX2_tellRound_62 (Nat.le_of_ble_eq_true rfl) rfl rfl ?_
        refine z_aload_n (M := M_X2_tellRound) dX2_tellRound_64 rfl ?_
        refine z_iload_n (M := M_X2_tellRound) dX2_tellRound_65 rfl ?_
        refine z_iload (M := M_X2_tellRound) dX2_tellRound_66 rfl ?_
        obtain ⟨σ_26, hc_25, H⟩ := bd_e H
        refine z_callV (M := M_X2_tellRound) (M' := M_X2_setTold) (as := [vi x_20, vi x_23]) (rest := []) rfl rfl dX2_tellRound_68 m_X2_setTold t_2170 t_2172 s_141 (c_X2_setTold hl  hc_25) rfl rfl ly_238 rfl (Nat.le_of_ble_eq_true rfl) (Nat.le_of_ble_eq_true rfl) (Nat.le_of_ble_eq_true rfl) (Nat.le_of_ble_eq_true rfl) ?_
        refine z_st (st' := []) rfl ?_
        refine z_aload_n (M := M_X2_tellRound) dX2_tellRound_71 rfl ?_
        refine z_iload (M := M_X2_tellRound) dX2_tellRound_72 rfl ?_
        refine z_iload_n (M := M_X2_tellRound) dX2_tellRound_74 rfl ?_
        obtain ⟨σ_28, hc_27, H⟩ := bd_e H
        refine z_callV (M := M_X2_tellRound) (M' := M_X2_pushWay) (as := [vi x_23, vi x_20]) (rest := []) rfl rfl dX2_tellRound_75 m_X2_pushWay t_2144 t_2146 s_135 (c_X2_pushWay hl  hc_27) rfl rfl ly_238 rfl (Nat.le_of_ble_eq_true rfl) (Nat.le_of_ble_eq_true rfl) (Nat.le_of_ble_eq_true rfl) (Nat.le_of_ble_eq_true rfl) ?_
        refine z_st (st' := []) rfl ?_
        refine z_iinc (M := M_X2_tellRound) (lv' := [some (vr 238), some (vi x_19), some (vi (k_2 + 1)), some (vi x_20), some (vi x_23)]) dX2_tellRound_78 rfl (Nat.le_of_ble_eq_true rfl) rfl rfl ?_
        refine z_goto (M := M_X2_tellRound) (tgt := 4) dX2_tellRound_81 (by decide) ?_
        refine z_le (lv' := [some (vr 238), some (vi x_19), some (vi (k_2 + 1)), none, none]) ⟨Or.inr rfl, Or.inr rfl, Or.inr rfl, Or.inl rfl, Or.inl rfl, trivial⟩ ?_
        exact K_9 _ (Option.some.inj H).symm
      refine z_iload_n (M := M_X2_tellRound) dX2_tellRound_44 rfl ?_
      refine z_iconst (M := M_X2_tellRound) dX2_tellRound_45 ?_
      refine z_iadd (M := M_X2_tellRound) dX2_tellRound_46 ?_
      refine z_aload_n (M := M_X2_tellRound) dX2_tellRound_47 rfl ?_
      refine z_getI (M := M_X2_tellRound) (ci := 5) (C := RX2) (T := TX2) (Nf := 17) (ty := tyX2) cl5 dX2_tellRound_48 ly_238 12 (by decide) t_497 rfl rfl ?_
      by_cases h_30 : (w32 (k_2 + 1)) < (w32 (σ_3 kP_roundSize 0))
      · refine z_icmp_ge_f (M := M_X2_tellRound) (tgt := 60) dX2_tellRound_51 (by decide) rfl rfl h_30 ?_
        refine z_iload_n (M := M_X2_tellRound) dX2_tellRound_54 rfl ?_
        refine z_iconst (M := M_X2_tellRound) dX2_tellRound_55 ?_
        refine z_iadd (M := M_X2_tellRound) dX2_tellRound_56 ?_
        refine z_goto (M := M_X2_tellRound) (tgt := 61) dX2_tellRound_57 (by decide) ?_
        exact z_st (by rw [if_pos (c := (w32 (k_2 + 1)) < (w32 (σ_3 kP_roundSize 0))) h_30]) J_22
      · refine z_icmp_ge_t (M := M_X2_tellRound) (tgt := 60) dX2_tellRound_51 (by decide) rfl rfl (Int.not_lt.mp h_30) ?_
        refine z_iconst (M := M_X2_tellRound) dX2_tellRound_60 ?_
        exact z_st (by rw [if_neg (c := (w32 (k_2 + 1)) < (w32 (σ_3 kP_roundSize 0))) h_30]) J_22
    have H := he_32
    refine z_aload_n (M := M_X2_tellRound) dX2_tellRound_12 rfl ?_
    refine z_getR (M := M_X2_tellRound) (ci := 5) (C := RX2) (T := TX2) (Nf := 17) (ty := tyX2) cl5 dX2_tellRound_13 ly_238 11 (by decide) t_496 rfl ?_
    refine z_iload_n (M := M_X2_tellRound) dX2_tellRound_16 rfl ?_
    obtain ⟨x_12, x_12_e, hi_13, H⟩ := rd_e H
    refine z_iald (M := M_X2_tellRound) dX2_tellRound_17 ly_248 rfl rfl rfl hi_13 x_12_e ?_
    refine z_aload_n (M := M_X2_tellRound) dX2_tellRound_18 rfl ?_
    refine z_getR (M := M_X2_tellRound) (ci := 5) (C := RX2) (T := TX2) (Nf := 17) (ty := tyX2) cl5 dX2_tellRound_19 ly_238 11 (by decide) t_496 rfl ?_
    refine z_iload_n (M := M_X2_tellRound) dX2_tellRound_22 rfl ?_
    obtain ⟨x_14, x_14_e, hi_15, H⟩ := rd_e H
    refine z_iald (M := M_X2_tellRound) dX2_tellRound_23 ly_248 rfl rfl rfl hi_15 x_14_e ?_
    rcases if_e H with ⟨h_16, H⟩ | ⟨h_16, H⟩
    · refine z_icmp_ge_f (M := M_X2_tellRound) (tgt := 31) dX2_tellRound_24 (by decide) rfl rfl h_16 ?_
      refine z_iload_n (M := M_X2_tellRound) dX2_tellRound_27 rfl ?_
      refine z_goto (M := M_X2_tellRound) (tgt := 32) dX2_tellRound_28 (by decide) ?_
      exact J_34 _ (Option.some.inj H).symm
    · refine z_icmp_ge_t (M := M_X2_tellRound) (tgt := 31) dX2_tellRound_24 (by decide) rfl rfl (Int.not_lt.mp h_16) ?_
      refine z_iload_n (M := M_X2_tellRound) dX2_tellRound_31 rfl ?_
      exact J_34 _ (Option.some.inj H).symm
  · refine z_icmp_ge_t (M := M_X2_tellRound) (tgt := 84) dX2_tellRound_9 (by decide) rfl rfl (Int.not_lt.mp h_11) ?_
    exact J_72 _ _ _ (K_10 _ (Option.some.inj H).symm).symm
theorem c_X2_triangulate (hl : l.stackTraces = false) {σ : SG} {r : Bool} {σ' : SG}  (H : fP_triangulate σ = some (r, σ')) : en_S l E M_X2_triangulate 6 0 0 [vr 238] σ (pS (some (zv r)) σ') := by
  unfold fP_triangulate at H
  refine z_mk (lv := [some (vr 238), none, none, none]) m_X2_triangulate rfl hl (Nat.le_of_ble_eq_true rfl) rfl ?_
  refine z_aload_n (M := M_X2_triangulate) dX2_triangulate_0 rfl ?_
  refine z_iconst (M := M_X2_triangulate) dX2_triangulate_1 ?_
  obtain ⟨σ_1, σ_1_e, H⟩ := wf_e H
  refine z_putI (M := M_X2_triangulate) (ci := 5) (C := RX2) (T := TX2) (Nf := 17) (ty := tyX2) cl5 dX2_triangulate_2 ly_238 14 (by decide) t_499 rfl rfl rfl rfl σ_1_e ?_
  refine z_aload_n (M := M_X2_triangulate) dX2_triangulate_5 rfl ?_
  obtain ⟨x_3, hc_2, H⟩ := bd_e H
  refine z_callV (M := M_X2_triangulate) (M' := M_X2_areOnOneLine) (as := []) (rest := []) rfl rfl dX2_triangulate_6 m_X2_areOnOneLine t_2133 t_2135 s_133 (c_X2_areOnOneLine hl  hc_2) rfl rfl ly_238 rfl (Nat.le_of_ble_eq_true rfl) (Nat.le_of_ble_eq_true rfl) (Nat.le_of_ble_eq_true rfl) (Nat.le_of_ble_eq_true rfl) ?_
  refine z_st (st' := [zv x_3]) rfl ?_
  rcases if_e H with ⟨h_4, H⟩ | ⟨h_4, H⟩
  · refine z_zeq_f (M := M_X2_triangulate) (tgt := 14) dX2_triangulate_9 (by decide) h_4 ?_
    refine z_zconst (M := M_X2_triangulate) (b := true) dX2_triangulate_12 rfl ?_
    cases H
    exact z_zret (M := M_X2_triangulate) dX2_triangulate_13 rfl (Nat.le_of_ble_eq_true rfl) (Nat.le_of_ble_eq_true rfl) ⟨rfl, rfl⟩
  · refine z_zeq_t (M := M_X2_triangulate) (tgt := 14) dX2_triangulate_9 (by decide) h_4 ?_
    refine z_aload_n (M := M_X2_triangulate) dX2_triangulate_14 rfl ?_
    refine z_getI (M := M_X2_triangulate) (ci := 5) (C := RX2) (T := TX2) (Nf := 17) (ty := tyX2) cl5 dX2_triangulate_15 ly_238 3 (by decide) t_488 rfl rfl ?_
    refine z_sipush (M := M_X2_triangulate) dX2_triangulate_18 (by decide +kernel) ?_
    rcases if_e H with ⟨h_5, H⟩ | ⟨h_5, H⟩
    · refine z_icmp_le_f (M := M_X2_triangulate) (tgt := 26) dX2_triangulate_21 (by decide) rfl (by decide +kernel) h_5 ?_
      refine z_zconst (M := M_X2_triangulate) (b := false) dX2_triangulate_24 rfl ?_
      cases H
      exact z_zret (M := M_X2_triangulate) dX2_triangulate_25 rfl (Nat.le_of_ble_eq_true rfl) (Nat.le_of_ble_eq_true rfl) ⟨rfl, rfl⟩
    · refine z_icmp_le_t (M := M_X2_triangulate) (tgt := 26) dX2_triangulate_21 (by decide) rfl (by decide +kernel) (Int.not_lt.mp h_5) ?_
      refine z_aload_n (M := M_X2_triangulate) dX2_triangulate_26 rfl ?_
      refine z_getR (M := M_X2_triangulate) (ci := 5) (C := RX2) (T := TX2) (Nf := 17) (ty := tyX2) cl5 dX2_triangulate_27 ly_238 7 (by decide) t_492 rfl ?_
      refine z_iconst (M := M_X2_triangulate) dX2_triangulate_30 ?_
      refine z_aload_n (M := M_X2_triangulate) dX2_triangulate_31 rfl ?_
      refine z_getI (M := M_X2_triangulate) (ci := 5) (C := RX2) (T := TX2) (Nf := 17) (ty := tyX2) cl5 dX2_triangulate_32 ly_238 3 (by decide) t_488 rfl rfl ?_
      refine z_aload_n (M := M_X2_triangulate) dX2_triangulate_35 rfl ?_
      refine z_getI (M := M_X2_triangulate) (ci := 5) (C := RX2) (T := TX2) (Nf := 17) (ty := tyX2) cl5 dX2_triangulate_36 ly_238 3 (by decide) t_488 rfl rfl ?_
      refine z_imul (M := M_X2_triangulate) dX2_triangulate_39 ?_
      refine z_bipush (M := M_X2_triangulate) dX2_triangulate_40 (by decide +kernel) ?_
      refine z_idiv (M := M_X2_triangulate) dX2_triangulate_42 (by decide +kernel) ?_
      refine z_iconst (M := M_X2_triangulate) dX2_triangulate_43 ?_
      refine z_iadd (M := M_X2_triangulate) dX2_triangulate_44 ?_
      refine z_lconst (M := M_X2_triangulate) (m := 0) dX2_triangulate_45 (by decide +kernel) ?_
      obtain ⟨σ_7, hc_6, H⟩ := bd_e H
      refine z_callS (M := M_X2_triangulate) (M' := M_J7_fill_bad5a) (as := [vr 245, vi 0, vi ((q_idv ((σ_1 kP_places 0) * (σ_1 kP_places 0)) 64) + 1), vl 0]) (rest := []) rfl rfl dX2_triangulate_46 m_J7_fill_bad5a t_2137 t_2138 (c_J7_fill_bad5a hl ly_245 hc_6) rfl rfl (Nat.le_of_ble_eq_true rfl) (Nat.le_of_ble_eq_true rfl) (Nat.le_of_ble_eq_true rfl) (Nat.le_of_ble_eq_true rfl) ?_
      refine z_st (st' := []) rfl ?_
      refine z_aload_n (M := M_X2_triangulate) dX2_triangulate_49 rfl ?_
      refine z_iconst (M := M_X2_triangulate) dX2_triangulate_50 ?_
      obtain ⟨σ_8, σ_8_e, H⟩ := wf_e H
      refine z_putI (M := M_X2_triangulate) (ci := 5) (C := RX2) (T := TX2) (Nf := 17) (ty := tyX2) cl5 dX2_triangulate_51 ly_238 10 (by decide) t_495 rfl rfl rfl rfl σ_8_e ?_
      refine z_aload_n (M := M_X2_triangulate) dX2_triangulate_54 rfl ?_
      refine z_iconst (M := M_X2_triangulate) dX2_triangulate_55 ?_
      refine z_aload_n (M := M_X2_triangulate) dX2_triangulate_56 rfl ?_
      obtain ⟨x_10, hc_9, H⟩ := bd_e H
      refine z_callV (M := M_X2_triangulate) (M' := M_X2_firstNeighbour) (as := []) (rest := [vi 0, vr 238]) rfl rfl dX2_triangulate_57 m_X2_firstNeighbour t_2140 t_2142 s_134 (c_X2_firstNeighbour hl  hc_9) rfl rfl ly_238 rfl (Nat.le_of_ble_eq_true rfl) (Nat.le_of_ble_eq_true rfl) (Nat.le_of_ble_eq_true rfl) (Nat.le_of_ble_eq_true rfl) ?_
      refine z_st (st' := [vi x_10, vi 0, vr 238]) rfl ?_
      obtain ⟨σ_12, hc_11, H⟩ := bd_e H
      refine z_callV (M := M_X2_triangulate) (M' := M_X2_pushWay) (as := [vi 0, vi x_10]) (rest := []) rfl rfl dX2_triangulate_60 m_X2_pushWay t_2144 t_2146 s_135 (c_X2_pushWay hl  hc_11) rfl rfl ly_238 rfl (Nat.le_of_ble_eq_true rfl) (Nat.le_of_ble_eq_true rfl) (Nat.le_of_ble_eq_true rfl) (Nat.le_of_ble_eq_true rfl) ?_
      refine z_st (st' := []) rfl ?_
      refine z_iconst (M := M_X2_triangulate) dX2_triangulate_63 ?_
      refine z_istore_n (M := M_X2_triangulate) (lv' := [some (vr 238), some (vi 0), none, none]) dX2_triangulate_64 (Nat.le_of_ble_eq_true rfl) rfl rfl ?_
      obtain ⟨rl_18, hw_15, hk_16, hk_17⟩ := bx_e H
      have J_69 : ∀ step_65 σ_66, rl_18 = (.inl (step_65, σ_66)) → YY l E M_X2_triangulate 6 0 0 (pS (some (zv r)) σ') 141 [some (vr 238), some (vi step_65), none, none] [] σ_66 0 0 := by
        intro step_65 σ_66 e
        have H := hk_16 _ e
        refine z_aload_n (M := M_X2_triangulate) dX2_triangulate_141 rfl ?_
        refine z_getR (M := M_X2_triangulate) (ci := 5) (C := RX2) (T := TX2) (Nf := 17) (ty := tyX2) cl5 dX2_triangulate_142 ly_238 13 (by decide) t_498 rfl ?_
        refine z_aload_n (M := M_X2_triangulate) dX2_triangulate_145 rfl ?_
        refine z_getI (M := M_X2_triangulate) (ci := 5) (C := RX2) (T := TX2) (Nf := 17) (ty := tyX2) cl5 dX2_triangulate_146 ly_238 14 (by decide) t_499 rfl rfl ?_
        obtain ⟨σ_68, hc_67, H⟩ := bd_e H
        refine z_callSN (M := M_X2_triangulate) (M' := M_X11_sortRow) (as := [vr 249, vi (σ_66 kP_triangleCount 0)]) (rest := []) rfl rfl dX2_triangulate_149 m_X11_sortRow n_2088 t_1417 (c_X11_sortRow hl ly_249 hc_67) rfl rfl (Nat.le_of_ble_eq_true rfl) (Nat.le_of_ble_eq_true rfl) (Nat.le_of_ble_eq_true rfl) (Nat.le_of_ble_eq_true rfl) ?_
        refine z_st (st' := []) rfl ?_
        refine z_zconst (M := M_X2_triangulate) (b := true) dX2_triangulate_152 rfl ?_
        cases H
        exact z_zret (M := M_X2_triangulate) dX2_triangulate_153 rfl (Nat.le_of_ble_eq_true rfl) (Nat.le_of_ble_eq_true rfl) ⟨rfl, rfl⟩
      refine whl_go hw_15 (fun (step_13, σ_14) => YY l E M_X2_triangulate 6 0 0 (pS (some (zv r)) σ') 65 [some (vr 238), some (vi step_13), none, none] [] σ_14 0 0) ?_
      rintro ⟨step_13, σ_14⟩ o_19 H K_20 K_21
      rcases if_e H with ⟨h_58, H⟩ | ⟨h_58, H⟩
      · have J_59 : YY l E M_X2_triangulate 6 0 0 (pS (some (zv r)) σ') 78 [some (vr 238), some (vi step_13), none, none] [] σ_14 0 0 := by
          refine z_aload_n (M := M_X2_triangulate) dX2_triangulate_78 rfl ?_
          refine z_dup (M := M_X2_triangulate) dX2_triangulate_79 rfl ?_
          refine z_getI (M := M_X2_triangulate) (ci := 5) (C := RX2) (T := TX2) (Nf := 17) (ty := tyX2) cl5 dX2_triangulate_80 ly_238 10 (by decide) t_495 rfl rfl ?_
          refine z_iconst (M := M_X2_triangulate) dX2_triangulate_83 ?_
          refine z_isub (M := M_X2_triangulate) dX2_triangulate_84 ?_
          obtain ⟨σ_22, σ_22_e, H⟩ := wf_e H
          refine z_putI (M := M_X2_triangulate) (ci := 5) (C := RX2) (T := TX2) (Nf := 17) (ty := tyX2) cl5 dX2_triangulate_85 ly_238 10 (by decide) t_495 rfl rfl rfl rfl σ_22_e ?_
          refine z_aload_n (M := M_X2_triangulate) dX2_triangulate_88 rfl ?_
          refine z_getR (M := M_X2_triangulate) (ci := 5) (C := RX2) (T := TX2) (Nf := 17) (ty := tyX2) cl5 dX2_triangulate_89 ly_238 8 (by decide) t_493 rfl ?_
          refine z_aload_n (M := M_X2_triangulate) dX2_triangulate_92 rfl ?_
          refine z_getI (M := M_X2_triangulate) (ci := 5) (C := RX2) (T := TX2) (Nf := 17) (ty := tyX2) cl5 dX2_triangulate_93 ly_238 10 (by decide) t_495 rfl rfl ?_
          obtain ⟨x_23, x_23_e, hi_24, H⟩ := rd_e H
          refine z_iald (M := M_X2_triangulate) dX2_triangulate_96 ly_246 rfl rfl rfl hi_24 x_23_e ?_
          refine z_istore_n (M := M_X2_triangulate) (lv' := [some (vr 238), some (vi step_13), some (vi x_23), none]) dX2_triangulate_97 (Nat.le_of_ble_eq_true rfl) rfl rfl ?_
          refine z_aload_n (M := M_X2_triangulate) dX2_triangulate_98 rfl ?_
          refine z_getR (M := M_X2_triangulate) (ci := 5) (C := RX2) (T := TX2) (Nf := 17) (ty := tyX2) cl5 dX2_triangulate_99 ly_238 9 (by decide) t_494 rfl ?_
          refine z_aload_n (M := M_X2_triangulate) dX2_triangulate_102 rfl ?_
          refine z_getI (M := M_X2_triangulate) (ci := 5) (C := RX2) (T := TX2) (Nf := 17) (ty := tyX2) cl5 dX2_triangulate_103 ly_238 10 (by decide) t_495 rfl rfl ?_
          obtain ⟨x_25, x_25_e, hi_26, H⟩ := rd_e H
          refine z_iald (M := M_X2_triangulate) dX2_triangulate_106 ly_247 rfl rfl rfl hi_26 x_25_e ?_
          refine z_istore_n (M := M_X2_triangulate) (lv' := [some (vr 238), some (vi step_13), some (vi x_23), some (vi x_25)]) dX2_triangulate_107 (Nat.le_of_ble_eq_true rfl) rfl rfl ?_
          refine z_aload_n (M := M_X2_triangulate) dX2_triangulate_108 rfl ?_
          refine z_iload_n (M := M_X2_triangulate) dX2_triangulate_109 rfl ?_
          refine z_iload_n (M := M_X2_triangulate) dX2_triangulate_110 rfl ?_
          obtain ⟨x_44, hc_43, H⟩ := bd_e H
          refine z_callV (M := M_X2_triangulate) (M' := M_X2_isTold) (as := [vi x_23, vi x_25]) (rest := []) rfl rfl dX2_triangulate_111 m_X2_isTold t_2148 t_2150 s_136 (c_X2_isTold hl  hc_43) rfl rfl ly_238 rfl (Nat.le_of_ble_eq_true rfl) (Nat.le_of_ble_eq_true rfl) (Nat.le_of_ble_eq_true rfl) (Nat.le_of_ble_eq_true rfl) ?_
          refine z_st (st' := [zv x_44]) rfl ?_
          rcases if_e H with ⟨h_45, H⟩ | ⟨h_45, H⟩
          · refine z_zne_t (M := M_X2_triangulate) (tgt := 135) dX2_triangulate_114 (by decide) h_45 ?_
            refine z_iinc (M := M_X2_triangulate) (lv' := [some (vr 238), some (vi (step_13 + 1)), some (vi x_23), some (vi x_25)]) dX2_triangulate_135 rfl (Nat.le_of_ble_eq_true rfl) rfl rfl ?_
            refine z_goto (M := M_X2_triangulate) (tgt := 65) dX2_triangulate_138 (by decide) ?_
            refine z_le (lv' := [some (vr 238), some (vi (step_13 + 1)), none, none]) ⟨Or.inr rfl, Or.inr rfl, Or.inl rfl, Or.inl rfl, trivial⟩ ?_
            exact K_20 _ (Option.some.inj H).symm
          · refine z_zne_f (M := M_X2_triangulate) (tgt := 135) dX2_triangulate_114 (by decide) h_45 ?_
            refine z_aload_n (M := M_X2_triangulate) dX2_triangulate_117 rfl ?_
            refine z_iload_n (M := M_X2_triangulate) dX2_triangulate_118 rfl ?_
            refine z_iload_n (M := M_X2_triangulate) dX2_triangulate_119 rfl ?_
            obtain ⟨⟨x_49, σ_48⟩, hc_47, H⟩ := bd_e H
            refine z_callV (M := M_X2_triangulate) (M' := M_X2_findRound) (as := [vi x_23, vi x_25]) (rest := []) rfl rfl dX2_triangulate_120 m_X2_findRound t_2153 t_2155 s_137 (c_X2_findRound hl  hc_47) rfl rfl ly_238 rfl (Nat.le_of_ble_eq_true rfl) (Nat.le_of_ble_eq_true rfl) (Nat.le_of_ble_eq_true rfl) (Nat.le_of_ble_eq_true rfl) ?_
            refine z_st (st' := [zv x_49]) rfl ?_
            rcases if_e H with ⟨h_50, H⟩ | ⟨h_50, H⟩
            · refine z_zeq_f (M := M_X2_triangulate) (tgt := 135) dX2_triangulate_123 (by decide) h_50 ?_
              refine z_aload_n (M := M_X2_triangulate) dX2_triangulate_126 rfl ?_
              obtain ⟨⟨x_53, σ_52⟩, hc_51, H⟩ := bd_e H
              refine z_callV (M := M_X2_triangulate) (M' := M_X2_tellRound) (as := []) (rest := []) rfl rfl dX2_triangulate_127 m_X2_tellRound t_2166 t_2168 s_140 (c_X2_tellRound hl  hc_51) rfl rfl ly_238 rfl (Nat.le_of_ble_eq_true rfl) (Nat.le_of_ble_eq_true rfl) (Nat.le_of_ble_eq_true rfl) (Nat.le_of_ble_eq_true rfl) ?_
              refine z_st (st' := [zv x_53]) rfl ?_
              rcases if_e H with ⟨h_54, H⟩ | ⟨h_54, H⟩
              · refine z_zne_t (M := M_X2_triangulate) (tgt := 135) dX2_triangulate_130 (by decide) h_54 ?_
                refine z_iinc (M := M_X2_triangulate) (lv' := [some (vr 238), some (vi (step_13 + 1)), some (vi x_23), some (vi x_25)]) dX2_triangulate_135 rfl (Nat.le_of_ble_eq_true rfl) rfl rfl ?_
                refine z_goto (M := M_X2_triangulate) (tgt := 65) dX2_triangulate_138 (by decide) ?_
                refine z_le (lv' := [some (vr 238), some (vi (step_13 + 1)), none, none]) ⟨Or.inr rfl, Or.inr rfl, Or.inl rfl, Or.inl rfl, trivial⟩ ?_
                exact K_20 _ (Option.some.inj H).symm
              · refine z_zne_f (M := M_X2_triangulate) (tgt := 135) dX2_triangulate_130 (by decide) h_54 ?_
                refine z_zconst (M := M_X2_triangulate) (b := false) dX2_triangulate_133 rfl ?_
                have H := congrArg some (hk_17 _ ((K_21 _ (Option.some.inj H).symm).symm))
                cases H
                exact z_zret (M := M_X2_triangulate) dX2_triangulate_134 rfl (Nat.le_of_ble_eq_true rfl) (Nat.le_of_ble_eq_true rfl) ⟨rfl, rfl⟩
            · refine z_zeq_t (M := M_X2_triangulate) (tgt := 135) dX2_triangulate_123 (by decide) h_50 ?_
              refine z_iinc (M := M_X2_triangulate) (lv' := [some (vr 238), some (vi (step_13 + 1)), some (vi x_23), some (vi x_25)]) dX2_triangulate_135 rfl (Nat.le_of_ble_eq_true rfl) rfl rfl ?_
              refine z_goto (M := M_X2_triangulate) (tgt := 65) dX2_triangulate_138 (by decide) ?_
              refine z_le (lv' := [some (vr 238), some (vi (step_13 + 1)), none, none]) ⟨Or.inr rfl, Or.inr rfl, Or.inl rfl, Or.inl rfl, trivial⟩ ?_
              exact K_20 _ (Option.some.inj H).symm
        refine z_aload_n (M := M_X2_triangulate) dX2_triangulate_65 rfl ?_
        refine z_getI (M := M_X2_triangulate) (ci := 5) (C := RX2) (T := TX2) (Nf := 17) (ty := tyX2) cl5 dX2_triangulate_66 ly_238 10 (by decide) t_495 rfl rfl ?_
        by_cases h_61 : 0 < (w32 (σ_14 kP_ways 0))
        · refine z_if_le_f (M := M_X2_triangulate) (tgt := 141) dX2_triangulate_69 (by decide) rfl h_61 ?_
          refine z_iload_n (M := M_X2_triangulate) dX2_triangulate_72 rfl ?_
          refine z_ldc (M := M_X2_triangulate) (n := 264196) dX2_triangulate_73 t_2152 (by decide +kernel) ?_
          by_cases h_62 : (w32 step_13) < 264196
          · refine z_icmp_ge_f (M := M_X2_triangulate) (tgt := 141) dX2_triangulate_75 (by decide) rfl (by decide +kernel) h_62 ?_
            exact J_59
          · refine z_icmp_ge_t (M := M_X2_triangulate) (tgt := 141) dX2_triangulate_75 (by decide) rfl (by decide +kernel) (Int.not_lt.mp h_62) ?_
            exact absurd h_58 (fun q => h_62 q.2)
        · refine z_if_le_t (M := M_X2_triangulate) (tgt := 141) dX2_triangulate_69 (by decide) rfl (Int.not_lt.mp h_61) ?_
          exact absurd h_58 (fun q => h_61 q.1)
      · have J_60 : YY l E M_X2_triangulate 6 0 0 (pS (some (zv r)) σ') 141 [some (vr 238), some (vi step_13), none, none] [] σ_14 0 0 := by
          exact J_69 _ _ (K_21 _ (Option.some.inj H).symm).symm
        refine z_aload_n (M := M_X2_triangulate) dX2_triangulate_65 rfl ?_
        refine z_getI (M := M_X2_triangulate) (ci := 5) (C := RX2) (T := TX2) (Nf := 17) (ty := tyX2) cl5 dX2_triangulate_66 ly_238 10 (by decide) t_495 rfl rfl ?_
        by_cases h_63 : 0 < (w32 (σ_14 kP_ways 0))
        · refine z_if_le_f (M := M_X2_triangulate) (tgt := 141) dX2_triangulate_69 (by decide) rfl h_63 ?_
          refine z_iload_n (M := M_X2_triangulate) dX2_triangulate_72 rfl ?_
          refine z_ldc (M := M_X2_triangulate) (n := 264196) dX2_triangulate_73 t_2152 (by decide +kernel) ?_
          by_cases h_64 : (w32 step_13) < 264196
          · refine z_icmp_ge_f (M := M_X2_triangulate) (tgt := 141) dX2_triangulate_75 (by decide) rfl (by decide +kernel) h_64 ?_
            exact absurd ⟨h_63, h_64⟩ h_58
          · refine z_icmp_ge_t (M := M_X2_triangulate) (tgt := 141) dX2_triangulate_75 (by decide) rfl (by decide +kernel) (Int.not_lt.mp h_64) ?_
            exact J_60
        · refine z_if_le_t (M := M_X2_triangulate) (tgt := 141) dX2_triangulate_69 (by decide) rfl (Int.not_lt.mp h_63) ?_
          exact J_60
theorem c_X11_triangles (hl : l.stackTraces = false) {σ : SG} {slot_0 : Int} {to_0 : Int} {r : Int ⊕ Nat} {σ' : SG}  (H : fQ_triangles σ slot_0 to_0 = some (r, σ')) : en_S l E M_X11_triangles 7 4 24 [vr 32, vi slot_0, vi to_0] σ (pT (riT r) σ') := by
  unfold fQ_triangles at H
  refine z_mk (lv := [some (vr 32), some (vi slot_0), some (vi to_0), none, none]) m_X11_triangles rfl hl (Nat.le_of_ble_eq_true rfl) rfl ?_
  refine z_aload_n (M := M_X11_triangles) dX11_triangles_0 rfl ?_
  refine z_iload_n (M := M_X11_triangles) dX11_triangles_1 rfl ?_
  obtain ⟨z_42, σ_2, hc_1, K_4, K_5⟩ := bt_e H
  rcases z_42 with x_3 | z_42
  · have H := K_4 _ rfl
    refine z_callV (M := M_X11_triangles) (M' := M_X11_slotNumbered) (as := [vi slot_0]) (rest := []) rfl rfl dX11_triangles_2 m_X11_slotNumbered t_744 t_746 s_2 (v := some (vr x_3)) (c_X11_slotNumbered hl  hc_1) rfl rfl ly_32 rfl (Nat.le_of_ble_eq_true rfl) (Nat.le_of_ble_eq_true rfl) (Nat.le_of_ble_eq_true rfl) (Nat.le_of_ble_eq_true rfl) ?_
    refine z_st (st' := [vr x_3]) rfl ?_
    obtain ⟨hs_6, H⟩ := ck_e H
    refine z_astore_n (M := M_X11_triangles) (lv' := [some (vr 32), some (vi slot_0), some (vi to_0), some (vr x_3), none]) dX11_triangles_5 (Nat.le_of_ble_eq_true rfl) rfl rfl ?_
    refine z_aload_n (M := M_X11_triangles) dX11_triangles_6 rfl ?_
    refine z_iload_n (M := M_X11_triangles) dX11_triangles_7 rfl ?_
    obtain ⟨z_41, σ_8, hc_7, K_10, K_11⟩ := bt_e H
    rcases z_41 with x_9 | z_41
    · have H := K_10 _ rfl
      refine z_callV (M := M_X11_triangles) (M' := M_X11_slotNumbered) (as := [vi to_0]) (rest := []) rfl rfl dX11_triangles_8 m_X11_slotNumbered t_744 t_746 s_2 (v := some (vr x_9)) (c_X11_slotNumbered hl  hc_7) rfl rfl ly_32 rfl (Nat.le_of_ble_eq_true rfl) (Nat.le_of_ble_eq_true rfl) (Nat.le_of_ble_eq_true rfl) (Nat.le_of_ble_eq_true rfl) ?_
      refine z_st (st' := [vr x_9]) rfl ?_
      obtain ⟨hs_12, H⟩ := ck_e H
      refine z_astore (M := M_X11_triangles) (lv' := [some (vr 32), some (vi slot_0), some (vi to_0), some (vr x_3), some (vr x_9)]) dX11_triangles_11 (Nat.le_of_ble_eq_true rfl) rfl rfl ?_
      refine z_aload_n (M := M_X11_triangles) dX11_triangles_13 rfl ?_
      obtain ⟨z_40, σ_14, hc_13, K_16, K_17⟩ := bt_e H
      rcases z_40 with x_15 | z_40
      · have H := K_16 _ rfl
        refine z_callS (M := M_X11_triangles) (M' := M_X11_mustBeThere) (as := [vr x_3]) (rest := []) rfl rfl dX11_triangles_14 m_X11_mustBeThere t_1047 t_1048 (v := none) (c_X11_mustBeThere hl hs_6 hc_13) rfl rfl (Nat.le_of_ble_eq_true rfl) (Nat.le_of_ble_eq_true rfl) (Nat.le_of_ble_eq_true rfl) (Nat.le_of_ble_eq_true rfl) ?_
        refine z_st (st' := []) rfl ?_
        refine z_aload_n (M := M_X11_triangles) dX11_triangles_17 rfl ?_
        refine z_getR (M := M_X11_triangles) (ci := 14) (C := RX11) (T := TX11) (Nf := 19) (ty := tyX11) cl14 dX11_triangles_18 ly_32 13 (by decide) t_576 rfl ?_
        refine z_aload_n (M := M_X11_triangles) dX11_triangles_21 rfl ?_
        obtain ⟨⟨x_31, σ_30⟩, hc_29, H⟩ := bd_e H
        refine z_callV (M := M_X11_triangles) (M' := M_X2_gather) (as := [vr x_3]) (rest := []) rfl rfl dX11_triangles_22 m_X2_gather t_2083 t_2084 t_2085 (c_X2_gather hl hs_6 hc_29) rfl rfl ly_238 rfl (Nat.le_of_ble_eq_true rfl) (Nat.le_of_ble_eq_true rfl) (Nat.le_of_ble_eq_true rfl) (Nat.le_of_ble_eq_true rfl) ?_
        refine z_st (st' := [zv x_31]) rfl ?_
        rcases if_e H with ⟨h_32, H⟩ | ⟨h_32, H⟩
        · refine z_zeq_f (M := M_X11_triangles) (tgt := 38) dX11_triangles_25 (by decide) h_32 ?_
          refine z_aload_n (M := M_X11_triangles) dX11_triangles_28 rfl ?_
          refine z_getR (M := M_X11_triangles) (ci := 14) (C := RX11) (T := TX11) (Nf := 19) (ty := tyX11) cl14 dX11_triangles_29 ly_32 13 (by decide) t_576 rfl ?_
          obtain ⟨⟨x_35, σ_34⟩, hc_33, H⟩ := bd_e H
          refine z_callV (M := M_X11_triangles) (M' := M_X2_triangulate) (as := []) (rest := []) rfl rfl dX11_triangles_32 m_X2_triangulate t_2129 t_2130 t_2131 (c_X2_triangulate hl  hc_33) rfl rfl ly_238 rfl (Nat.le_of_ble_eq_true rfl) (Nat.le_of_ble_eq_true rfl) (Nat.le_of_ble_eq_true rfl) (Nat.le_of_ble_eq_true rfl) ?_
          refine z_st (st' := [zv x_35]) rfl ?_
          rcases if_e H with ⟨h_36, H⟩ | ⟨h_36, H⟩
          · refine z_zne_t (M := M_X11_triangles) (tgt := 46) dX11_triangles_35 (by decide) h_36 ?_
            refine z_aload_n (M := M_X11_triangles) dX11_triangles_46 rfl ?_
            refine z_getR (M := M_X11_triangles) (ci := 14) (C := RX11) (T := TX11) (Nf := 19) (ty := tyX11) cl14 dX11_triangles_47 ly_32 13 (by decide) t_576 rfl ?_
            refine z_aload (M := M_X11_triangles) dX11_triangles_50 rfl ?_
            obtain ⟨⟨x_39, σ_38⟩, hc_37, H⟩ := bd_e H
            refine z_callV (M := M_X11_triangles) (M' := M_X2_tellTriangles) (as := [vr x_9]) (rest := []) rfl rfl dX11_triangles_52 m_X2_tellTriangles t_2180 t_2181 t_2182 (c_X2_tellTriangles hl hs_12 hc_37) rfl rfl ly_238 rfl (Nat.le_of_ble_eq_true rfl) (Nat.le_of_ble_eq_true rfl) (Nat.le_of_ble_eq_true rfl) (Nat.le_of_ble_eq_true rfl) ?_
            refine z_st (st' := [vi x_39]) rfl ?_
            cases H
            exact z_iret (M := M_X11_triangles) dX11_triangles_55 rfl (Nat.le_of_ble_eq_true rfl) (Nat.le_of_ble_eq_true rfl) ⟨rfl, rfl⟩
          · refine z_zne_f (M := M_X11_triangles) (tgt := 46) dX11_triangles_35 (by decide) h_36 ?_
            cases H
            exact z_throw (M := M_X11_triangles) (names := en_nm) rfl dX11_triangles_38 dX11_triangles_41 dX11_triangles_42 dX11_triangles_45 (by decide +kernel) en_nm_ok (Or.inl t_1857) (Or.inl t_34) at_X11_UnsupportedOperationException_234 (Nat.le_of_ble_eq_true rfl) (Nat.le_of_ble_eq_true rfl) (Nat.le_of_ble_eq_true rfl) (Nat.le_of_ble_eq_true rfl) ⟨rfl, rfl⟩
        · refine z_zeq_t (M := M_X11_triangles) (tgt := 38) dX11_triangles_25 (by decide) h_32 ?_
          cases H
          exact z_throw (M := M_X11_triangles) (names := en_nm) rfl dX11_triangles_38 dX11_triangles_41 dX11_triangles_42 dX11_triangles_45 (by decide +kernel) en_nm_ok (Or.inl t_1857) (Or.inl t_34) at_X11_UnsupportedOperationException_234 (Nat.le_of_ble_eq_true rfl) (Nat.le_of_ble_eq_true rfl) (Nat.le_of_ble_eq_true rfl) (Nat.le_of_ble_eq_true rfl) ⟨rfl, rfl⟩
      · have H := K_17 _ rfl
        cases H
        exact z_callSX (M := M_X11_triangles) (M' := M_X11_mustBeThere) (as := [vr x_3]) (rest := []) rfl rfl dX11_triangles_14 m_X11_mustBeThere t_1047 t_1048 (e := z_40) (c_X11_mustBeThere hl hs_6 hc_13) rfl rfl (Nat.le_of_ble_eq_true rfl) (Nat.le_of_ble_eq_true rfl) (Nat.le_of_ble_eq_true rfl) (Nat.le_of_ble_eq_true rfl) ⟨rfl, rfl⟩
    · have H := K_11 _ rfl
      cases H
      exact z_callVX (M := M_X11_triangles) (M' := M_X11_slotNumbered) (as := [vi to_0]) (rest := []) rfl rfl dX11_triangles_8 m_X11_slotNumbered t_744 t_746 s_2 (e := z_41) (c_X11_slotNumbered hl  hc_7) rfl rfl ly_32 rfl (Nat.le_of_ble_eq_true rfl) (Nat.le_of_ble_eq_true rfl) (Nat.le_of_ble_eq_true rfl) (Nat.le_of_ble_eq_true rfl) ⟨rfl, rfl⟩
  · have H := K_5 _ rfl
    cases H
    exact z_callVX (M := M_X11_triangles) (M' := M_X11_slotNumbered) (as := [vi slot_0]) (rest := []) rfl rfl dX11_triangles_2 m_X11_slotNumbered t_744 t_746 s_2 (e := z_42) (c_X11_slotNumbered hl  hc_1) rfl rfl ly_32 rfl (Nat.le_of_ble_eq_true rfl) (Nat.le_of_ble_eq_true rfl) (Nat.le_of_ble_eq_true rfl) (Nat.le_of_ble_eq_true rfl) ⟨rfl, rfl⟩
theorem c_X2_isFarther (hl : l.stackTraces = false) {σ : SG} {itsBeside_0 : Bool} {itsSize_0 : Int} {beside_0 : Bool} {size_0 : Int} {way_0 : Int} {r : Bool}  (H : fP_isFarther itsBeside_0 itsSize_0 beside_0 size_0 way_0 = r) : en_S l E M_X2_isFarther 3 0 0 [zv itsBeside_0, vl itsSize_0, zv beside_0, vl size_0, vl way_0] σ (pS (some (zv r)) σ) := by
  unfold fP_isFarther at H
  refine z_mk (lv := [some (zv itsBeside_0), some (vl itsSize_0), none, some (zv beside_0), some (vl size_0), none, some (vl way_0), none]) m_X2_isFarther rfl hl (Nat.le_of_ble_eq_true rfl) rfl ?_
  refine z_zload_n (M := M_X2_isFarther) dX2_isFarther_0 rfl ?_
  refine z_zload_n (M := M_X2_isFarther) dX2_isFarther_1 rfl ?_
  rcases if_e H with ⟨h_1, H⟩ | ⟨h_1, H⟩
  · refine z_cne_f (M := M_X2_isFarther) (tgt := 18) dX2_isFarther_2 (by decide)  h_1 ?_
    have J_2 : YY l E M_X2_isFarther 3 0 0 (pS (some (zv r)) σ) 17 [some (zv itsBeside_0), some (vl itsSize_0), none, some (zv beside_0), some (vl size_0), none, some (vl way_0), none] [zv (decide ((w64 size_0) < (w64 itsSize_0)))] σ 0 0 := by
      cases H
      exact z_zret (M := M_X2_isFarther) dX2_isFarther_17 rfl (Nat.le_of_ble_eq_true rfl) (Nat.le_of_ble_eq_true rfl) ⟨rfl, rfl⟩
    refine z_lload_n (M := M_X2_isFarther) dX2_isFarther_5 rfl ?_
    refine z_lload (M := M_X2_isFarther) dX2_isFarther_6 rfl ?_
    refine z_lcmp (M := M_X2_isFarther) dX2_isFarther_8 ?_
    by_cases h_3 : (w64 size_0) < (w64 itsSize_0)
    · refine z_lif_le_f (M := M_X2_isFarther) (tgt := 16) dX2_isFarther_9 (by decide) rfl rfl h_3 ?_
      refine z_iconst (M := M_X2_isFarther) dX2_isFarther_12 ?_
      refine z_goto (M := M_X2_isFarther) (tgt := 17) dX2_isFarther_13 (by decide) ?_
      exact z_st (by rw [zv_t (p := (w64 size_0) < (w64 itsSize_0)) h_3]) J_2
    · refine z_lif_le_t (M := M_X2_isFarther) (tgt := 16) dX2_isFarther_9 (by decide) rfl rfl (Int.not_lt.mp h_3) ?_
      refine z_iconst (M := M_X2_isFarther) dX2_isFarther_16 ?_
      exact z_st (by rw [zv_f (p := (w64 size_0) < (w64 itsSize_0)) h_3]) J_2
  · refine z_cne_t (M := M_X2_isFarther) (tgt := 18) dX2_isFarther_2 (by decide)  h_1 ?_
    have J_8 : YY l E M_X2_isFarther 3 0 0 (pS (some (zv r)) σ) 66 [some (zv itsBeside_0), some (vl itsSize_0), none, some (zv beside_0), some (vl size_0), none, some (vl way_0), none] [zv (if itsBeside_0 = true then (decide (0 < (w32 (fQ_signOfSum itsSize_0 itsSize_0 (-size_0) way_0 0 0)))) else (decide (0 < (w32 (fQ_signOfSum itsSize_0 way_0 (-size_0) size_0 0 0)))) : Bool)] σ 0 0 := by
      cases H
      exact z_zret (M := M_X2_isFarther) dX2_isFarther_66 rfl (Nat.le_of_ble_eq_true rfl) (Nat.le_of_ble_eq_true rfl) ⟨rfl, rfl⟩
    refine z_zload_n (M := M_X2_isFarther) dX2_isFarther_18 rfl ?_
    by_cases h_9 : itsBeside_0 = true
    · refine z_zeq_f (M := M_X2_isFarther) (tgt := 45) dX2_isFarther_19 (by decide) h_9 ?_
      have J_10 : YY l E M_X2_isFarther 3 0 0 (pS (some (zv r)) σ) 66 [some (zv itsBeside_0), some (vl itsSize_0), none, some (zv beside_0), some (vl size_0), none, some (vl way_0), none] [zv (decide (0 < (w32 (fQ_signOfSum itsSize_0 itsSize_0 (-size_0) way_0 0 0))))] σ 0 0 := by
        exact z_st (by rw [if_pos (c := itsBeside_0 = true) h_9]) J_8
      refine z_lload_n (M := M_X2_isFarther) dX2_isFarther_22 rfl ?_
      refine z_lload_n (M := M_X2_isFarther) dX2_isFarther_23 rfl ?_
      refine z_lload (M := M_X2_isFarther) dX2_isFarther_24 rfl ?_
      refine z_lneg (M := M_X2_isFarther) dX2_isFarther_26 ?_
      refine z_lload (M := M_X2_isFarther) dX2_isFarther_27 rfl ?_
      refine z_lconst (M := M_X2_isFarther) (m := 0) dX2_isFarther_29 (by decide +kernel) ?_
      refine z_lconst (M := M_X2_isFarther) (m := 0) dX2_isFarther_30 (by decide +kernel) ?_
      refine z_callSN (M := M_X2_isFarther) (M' := M_X11_signOfSum) (as := [vl itsSize_0, vl itsSize_0, vl (-size_0), vl way_0, vl 0, vl 0]) (rest := []) rfl rfl dX2_isFarther_31 m_X11_signOfSum n_2161 t_1938 (c_X11_signOfSum hl  rfl) rfl rfl (Nat.le_of_ble_eq_true rfl) (Nat.le_of_ble_eq_true rfl) (Nat.le_of_ble_eq_true rfl) (Nat.le_of_ble_eq_true rfl) ?_
      refine z_st (st' := [vi (fQ_signOfSum itsSize_0 itsSize_0 (-size_0) way_0 0 0)]) rfl ?_
      by_cases h_11 : 0 < (w32 (fQ_signOfSum itsSize_0 itsSize_0 (-size_0) way_0 0 0))
      · refine z_if_le_f (M := M_X2_isFarther) (tgt := 41) dX2_isFarther_34 (by decide) rfl h_11 ?_
        refine z_iconst (M := M_X2_isFarther) dX2_isFarther_37 ?_
        refine z_goto (M := M_X2_isFarther) (tgt := 66) dX2_isFarther_38 (by decide) ?_
        exact z_st (by rw [zv_t (p := 0 < (w32 (fQ_signOfSum itsSize_0 itsSize_0 (-size_0) way_0 0 0))) h_11]) J_10
      · refine z_if_le_t (M := M_X2_isFarther) (tgt := 41) dX2_isFarther_34 (by decide) rfl (Int.not_lt.mp h_11) ?_
        refine z_iconst (M := M_X2_isFarther) dX2_isFarther_41 ?_
        refine z_goto (M := M_X2_isFarther) (tgt := 66) dX2_isFarther_42 (by decide) ?_
        exact z_st (by rw [zv_f (p := 0 < (w32 (fQ_signOfSum itsSize_0 itsSize_0 (-size_0) way_0 0 0))) h_11]) J_10
    · refine z_zeq_t (M := M_X2_isFarther) (tgt := 45) dX2_isFarther_19 (by decide) h_9 ?_
      have J_12 : YY l E M_X2_isFarther 3 0 0 (pS (some (zv r)) σ) 66 [some (zv itsBeside_0), some (vl itsSize_0), none, some (zv beside_0), some (vl size_0), none, some (vl way_0), none] [zv (decide (0 < (w32 (fQ_signOfSum itsSize_0 way_0 (-size_0) size_0 0 0))))] σ 0 0 := by
        exact z_st (by rw [if_neg (c := itsBeside_0 = true) h_9]) J_8
      refine z_lload_n (M := M_X2_isFarther) dX2_isFarther_45 rfl ?_
      refine z_lload (M := M_X2_isFarther) dX2_isFarther_46 rfl ?_
      refine z_lload (M := M_X2_isFarther) dX2_isFarther_48 rfl ?_
      refine z_lneg (M := M_X2_isFarther) dX2_isFarther_50 ?_
      refine z_lload (M := M_X2_isFarther) dX2_isFarther_51 rfl ?_
      refine z_lconst (M := M_X2_isFarther) (m := 0) dX2_isFarther_53 (by decide +kernel) ?_
      refine z_lconst (M := M_X2_isFarther) (m := 0) dX2_isFarther_54 (by decide +kernel) ?_
      refine z_callSN (M := M_X2_isFarther) (M' := M_X11_signOfSum) (as := [vl itsSize_0, vl way_0, vl (-size_0), vl size_0, vl 0, vl 0]) (rest := []) rfl rfl dX2_isFarther_55 m_X11_signOfSum n_2161 t_1938 (c_X11_signOfSum hl  rfl) rfl rfl (Nat.le_of_ble_eq_true rfl) (Nat.le_of_ble_eq_true rfl) (Nat.le_of_ble_eq_true rfl) (Nat.le_of_ble_eq_true rfl) ?_
      refine z_st (st' := [vi (fQ_signOfSum itsSize_0 way_0 (-size_0) size_0 0 0)]) rfl ?_
      by_cases h_13 : 0 < (w32 (fQ_signOfSum itsSize_0 way_0 (-size_0) size_0 0 0))
      · refine z_if_le_f (M := M_X2_isFarther) (tgt := 65) dX2_isFarther_58 (by decide) rfl h_13 ?_
        refine z_iconst (M := M_X2_isFarther) dX2_isFarther_61 ?_
        refine z_goto (M := M_X2_isFarther) (tgt := 66) dX2_isFarther_62 (by decide) ?_
        exact z_st (by rw [zv_t (p := 0 < (w32 (fQ_signOfSum itsSize_0 way_0 (-size_0) size_0 0 0))) h_13]) J_12
      · refine z_if_le_t (M := M_X2_isFarther) (tgt := 65) dX2_isFarther_58 (by decide) rfl (Int.not_lt.mp h_13) ?_
        refine z_iconst (M := M_X2_isFarther) dX2_isFarther_65 ?_
        exact z_st (by rw [zv_f (p := 0 < (w32 (fQ_signOfSum itsSize_0 way_0 (-size_0) size_0 0 0))) h_13]) J_12
theorem c_X2_squareTo (hl : l.stackTraces = false) {σ : SG} {shape_0 : Nat} {i_0 : Int} {j_0 : Int} {r : Int} (h_shape : isS shape_0) (H : fP_squareTo σ shape_0 i_0 j_0 = some r) : en_S l E M_X2_squareTo 1 0 0 [vr shape_0, vi i_0, vi j_0] σ (pS (some (vl r)) σ) := by
  unfold fP_squareTo at H
  refine z_mk (lv := [some (vr shape_0), some (vi i_0), some (vi j_0), none, none, none, none]) m_X2_squareTo rfl hl (Nat.le_of_ble_eq_true rfl) rfl ?_
  refine z_aload_n (M := M_X2_squareTo) dX2_squareTo_0 rfl ?_
  refine z_getR (M := M_X2_squareTo) (ci := 9) (C := RX6) (T := TX6) (Nf := 5) (ty := tyX6) cl9 dX2_squareTo_1 (ly_S h_shape) 1 (by decide) t_59 rfl ?_
  refine z_iload_n (M := M_X2_squareTo) dX2_squareTo_4 rfl ?_
  obtain ⟨x_1, x_1_e, hi_2, H⟩ := rd_e H
  refine z_iald (M := M_X2_squareTo) dX2_squareTo_5 (ly_Sx h_shape) rfl rfl rfl hi_2 x_1_e ?_
  refine z_i2l (M := M_X2_squareTo) dX2_squareTo_6 ?_
  refine z_aload_n (M := M_X2_squareTo) dX2_squareTo_7 rfl ?_
  refine z_getR (M := M_X2_squareTo) (ci := 9) (C := RX6) (T := TX6) (Nf := 5) (ty := tyX6) cl9 dX2_squareTo_8 (ly_S h_shape) 1 (by decide) t_59 rfl ?_
  refine z_iload_n (M := M_X2_squareTo) dX2_squareTo_11 rfl ?_
  obtain ⟨x_3, x_3_e, hi_4, H⟩ := rd_e H
  refine z_iald (M := M_X2_squareTo) dX2_squareTo_12 (ly_Sx h_shape) rfl rfl rfl hi_4 x_3_e ?_
  refine z_i2l (M := M_X2_squareTo) dX2_squareTo_13 ?_
  refine z_lsub (M := M_X2_squareTo) dX2_squareTo_14 ?_
  refine z_lstore_n (M := M_X2_squareTo) (lv' := [some (vr shape_0), some (vi i_0), some (vi j_0), some (vl ((w32 x_1) - (w32 x_3))), none, none, none]) dX2_squareTo_15 (Nat.le_of_ble_eq_true rfl) rfl rfl ?_
  refine z_aload_n (M := M_X2_squareTo) dX2_squareTo_16 rfl ?_
  refine z_getR (M := M_X2_squareTo) (ci := 9) (C := RX6) (T := TX6) (Nf := 5) (ty := tyX6) cl9 dX2_squareTo_17 (ly_S h_shape) 2 (by decide) t_66 rfl ?_
  refine z_iload_n (M := M_X2_squareTo) dX2_squareTo_20 rfl ?_
  obtain ⟨x_5, x_5_e, hi_6, H⟩ := rd_e H
  refine z_iald (M := M_X2_squareTo) dX2_squareTo_21 (ly_Sy h_shape) rfl rfl rfl hi_6 x_5_e ?_
  refine z_i2l (M := M_X2_squareTo) dX2_squareTo_22 ?_
  refine z_aload_n (M := M_X2_squareTo) dX2_squareTo_23 rfl ?_
  refine z_getR (M := M_X2_squareTo) (ci := 9) (C := RX6) (T := TX6) (Nf := 5) (ty := tyX6) cl9 dX2_squareTo_24 (ly_S h_shape) 2 (by decide) t_66 rfl ?_
  refine z_iload_n (M := M_X2_squareTo) dX2_squareTo_27 rfl ?_
  obtain ⟨x_7, x_7_e, hi_8, H⟩ := rd_e H
  refine z_iald (M := M_X2_squareTo) dX2_squareTo_28 (ly_Sy h_shape) rfl rfl rfl hi_8 x_7_e ?_
  refine z_i2l (M := M_X2_squareTo) dX2_squareTo_29 ?_
  refine z_lsub (M := M_X2_squareTo) dX2_squareTo_30 ?_
  refine z_lstore (M := M_X2_squareTo) (lv' := [some (vr shape_0), some (vi i_0), some (vi j_0), some (vl ((w32 x_1) - (w32 x_3))), none, some (vl ((w32 x_5) - (w32 x_7))), none]) dX2_squareTo_31 (Nat.le_of_ble_eq_true rfl) rfl rfl ?_
  refine z_lload_n (M := M_X2_squareTo) dX2_squareTo_33 rfl ?_
  refine z_lload_n (M := M_X2_squareTo) dX2_squareTo_34 rfl ?_
  refine z_lmul (M := M_X2_squareTo) dX2_squareTo_35 ?_
  refine z_lload (M := M_X2_squareTo) dX2_squareTo_36 rfl ?_
  refine z_lload (M := M_X2_squareTo) dX2_squareTo_38 rfl ?_
  refine z_lmul (M := M_X2_squareTo) dX2_squareTo_40 ?_
  refine z_ladd (M := M_X2_squareTo) dX2_squareTo_41 ?_
  cases H
  exact z_lret (M := M_X2_squareTo) dX2_squareTo_42 rfl (Nat.le_of_ble_eq_true rfl) (Nat.le_of_ble_eq_true rfl) ⟨rfl, rfl⟩
theorem c_X2_farthest (hl : l.stackTraces = false) {σ : SG} {shape_0 : Nat} {a_0 : Int} {b_0 : Int} {distance_0 : Int} {r : Int} (h_shape : isS shape_0) (H : fP_farthest σ shape_0 a_0 b_0 distance_0 = some r) : en_S l E M_X2_farthest 4 0 0 [vr shape_0, vi a_0, vi b_0, vi distance_0] σ (pS (some (vi r)) σ) := by
  unfold fP_farthest at H
  refine z_mk (lv := [some (vr shape_0), some (vi a_0), some (vi b_0), some (vi distance_0), none, none, none, none, none, none, none, none, none, none, none, none, none, none, none, none, none, none, none, none]) m_X2_farthest rfl hl (Nat.le_of_ble_eq_true rfl) rfl ?_
  refine z_aload_n (M := M_X2_farthest) dX2_farthest_0 rfl ?_
  refine z_getR (M := M_X2_farthest) (ci := 9) (C := RX6) (T := TX6) (Nf := 5) (ty := tyX6) cl9 dX2_farthest_1 (ly_S h_shape) 1 (by decide) t_59 rfl ?_
  refine z_iload_n (M := M_X2_farthest) dX2_farthest_4 rfl ?_
  obtain ⟨x_1, x_1_e, hi_2, H⟩ := rd_e H
  refine z_iald (M := M_X2_farthest) dX2_farthest_5 (ly_Sx h_shape) rfl rfl rfl hi_2 x_1_e ?_
  refine z_i2l (M := M_X2_farthest) dX2_farthest_6 ?_
  refine z_aload_n (M := M_X2_farthest) dX2_farthest_7 rfl ?_
  refine z_getR (M := M_X2_farthest) (ci := 9) (C := RX6) (T := TX6) (Nf := 5) (ty := tyX6) cl9 dX2_farthest_8 (ly_S h_shape) 1 (by decide) t_59 rfl ?_
  refine z_iload_n (M := M_X2_farthest) dX2_farthest_11 rfl ?_
  obtain ⟨x_3, x_3_e, hi_4, H⟩ := rd_e H
  refine z_iald (M := M_X2_farthest) dX2_farthest_12 (ly_Sx h_shape) rfl rfl rfl hi_4 x_3_e ?_
  refine z_i2l (M := M_X2_farthest) dX2_farthest_13 ?_
  refine z_lsub (M := M_X2_farthest) dX2_farthest_14 ?_
  refine z_lstore (M := M_X2_farthest) (lv' := [some (vr shape_0), some (vi a_0), some (vi b_0), some (vi distance_0), some (vl ((w32 x_1) - (w32 x_3))), none, none, none, none, none, none, none, none, none, none, none, none, none, none, none, none, none, none, none]) dX2_farthest_15 (Nat.le_of_ble_eq_true rfl) rfl rfl ?_
  refine z_aload_n (M := M_X2_farthest) dX2_farthest_17 rfl ?_
  refine z_getR (M := M_X2_farthest) (ci := 9) (C := RX6) (T := TX6) (Nf := 5) (ty := tyX6) cl9 dX2_farthest_18 (ly_S h_shape) 2 (by decide) t_66 rfl ?_
  refine z_iload_n (M := M_X2_farthest) dX2_farthest_21 rfl ?_
  obtain ⟨x_5, x_5_e, hi_6, H⟩ := rd_e H
  refine z_iald (M := M_X2_farthest) dX2_farthest_22 (ly_Sy h_shape) rfl rfl rfl hi_6 x_5_e ?_
  refine z_i2l (M := M_X2_farthest) dX2_farthest_23 ?_
  refine z_aload_n (M := M_X2_farthest) dX2_farthest_24 rfl ?_
  refine z_getR (M := M_X2_farthest) (ci := 9) (C := RX6) (T := TX6) (Nf := 5) (ty := tyX6) cl9 dX2_farthest_25 (ly_S h_shape) 2 (by decide) t_66 rfl ?_
  refine z_iload_n (M := M_X2_farthest) dX2_farthest_28 rfl ?_
  obtain ⟨x_7, x_7_e, hi_8, H⟩ := rd_e H
  refine z_iald (M := M_X2_farthest) dX2_farthest_29 (ly_Sy h_shape) rfl rfl rfl hi_8 x_7_e ?_
  refine z_i2l (M := M_X2_farthest) dX2_farthest_30 ?_
  refine z_lsub (M := M_X2_farthest) dX2_farthest_31 ?_
  refine z_lstore (M := M_X2_farthest) (lv' := [some (vr shape_0), some (vi a_0), some (vi b_0), some (vi distance_0), some (vl ((w32 x_1) - (w32 x_3))), none, some (vl ((w32 x_5) - (w32 x_7))), none, none, none, none, none, none, none, none, none, none, none, none, none, none, none, none, none]) dX2_farthest_32 (Nat.le_of_ble_eq_true rfl) rfl rfl ?_
  refine z_lload (M := M_X2_farthest) dX2_farthest_34 rfl ?_
  refine z_lload (M := M_X2_farthest) dX2_farthest_36 rfl ?_
  refine z_lmul (M := M_X2_farthest) dX2_farthest_38 ?_
  refine z_lload (M := M_X2_farthest) dX2_farthest_39 rfl ?_
  refine z_lload (M := M_X2_farthest) dX2_farthest_41 rfl ?_
  refine z_lmul (M := M_X2_farthest) dX2_farthest_43 ?_
  refine z_ladd (M := M_X2_farthest) dX2_farthest_44 ?_
  obtain ⟨x_9, x_9_e, H⟩ := lt_e H
  refine z_st (congrArg (fun z => vl z :: []) x_9_e) ?_
  refine z_lstore (M := M_X2_farthest) (lv' := [some (vr shape_0), some (vi a_0), some (vi b_0), some (vi distance_0), some (vl ((w32 x_1) - (w32 x_3))), none, some (vl ((w32 x_5) - (w32 x_7))), none, some (vl x_9), none, none, none, none, none, none, none, none, none, none, none, none, none, none, none]) dX2_farthest_45 (Nat.le_of_ble_eq_true rfl) rfl rfl ?_
  refine z_iconst (M := M_X2_farthest) dX2_farthest_47 ?_
  refine z_istore (M := M_X2_farthest) (lv' := [some (vr shape_0), some (vi a_0), some (vi b_0), some (vi distance_0), some (vl ((w32 x_1) - (w32 x_3))), none, some (vl ((w32 x_5) - (w32 x_7))), none, some (vl x_9), none, some (vi (-1)), none, none, none, none, none, none, none, none, none, none, none, none, none]) dX2_farthest_48 (Nat.le_of_ble_eq_true rfl) rfl rfl ?_
  refine z_zconst (M := M_X2_farthest) (b := false) dX2_farthest_50 rfl ?_
  refine z_zstore (M := M_X2_farthest) (lv' := [some (vr shape_0), some (vi a_0), some (vi b_0), some (vi distance_0), some (vl ((w32 x_1) - (w32 x_3))), none, some (vl ((w32 x_5) - (w32 x_7))), none, some (vl x_9), none, some (vi (-1)), some (zv false), none, none, none, none, none, none, none, none, none, none, none, none]) dX2_farthest_51 (Nat.le_of_ble_eq_true rfl) rfl rfl ?_
  refine z_iload_n (M := M_X2_farthest) dX2_farthest_53 rfl ?_
  refine z_i2l (M := M_X2_farthest) dX2_farthest_54 ?_
  refine z_iload_n (M := M_X2_farthest) dX2_farthest_55 rfl ?_
  refine z_i2l (M := M_X2_farthest) dX2_farthest_56 ?_
  refine z_lmul (M := M_X2_farthest) dX2_farthest_57 ?_
  refine z_lstore (M := M_X2_farthest) (lv' := [some (vr shape_0), some (vi a_0), some (vi b_0), some (vi distance_0), some (vl ((w32 x_1) - (w32 x_3))), none, some (vl ((w32 x_5) - (w32 x_7))), none, some (vl x_9), none, some (vi (-1)), some (zv false), some (vl ((w32 distance_0) * (w32 distance_0))), none, none, none, none, none, none, none, none, none, none, none]) dX2_farthest_58 (Nat.le_of_ble_eq_true rfl) rfl rfl ?_
  refine z_iload_n (M := M_X2_farthest) dX2_farthest_60 rfl ?_
  refine z_iconst (M := M_X2_farthest) dX2_farthest_61 ?_
  refine z_iadd (M := M_X2_farthest) dX2_farthest_62 ?_
  refine z_istore (M := M_X2_farthest) (lv' := [some (vr shape_0), some (vi a_0), some (vi b_0), some (vi distance_0), some (vl ((w32 x_1) - (w32 x_3))), none, some (vl ((w32 x_5) - (w32 x_7))), none, some (vl x_9), none, some (vi (-1)), some (zv false), some (vl ((w32 distance_0) * (w32 distance_0))), none, some (vi (a_0 + 1)), none, none, none, none, none, none, none, none, none]) dX2_farthest_63 (Nat.le_of_ble_eq_true rfl) rfl rfl ?_
  obtain ⟨rl_17, hw_14, hk_15⟩ := bd_e H
  have J_83 : ∀ best_79 beside_80 size_81 i_82, rl_17 = (best_79, beside_80, size_81, i_82) → YY l E M_X2_farthest 4 0 0 (pS (some (vi r)) σ) 228 [some (vr shape_0), some (vi a_0), some (vi b_0), some (vi distance_0), some (vl ((w32 x_1) - (w32 x_3))), none, some (vl ((w32 x_5) - (w32 x_7))), none, some (vl x_9), none, some (vi best_79), some (zv beside_80), some (vl size_81), none, some (vi i_82), none, none, none, none, none, none, none, none, none] [] σ 0 0 := by
    intro best_79 beside_80 size_81 i_82 e
    have H := hk_15
    rw [e] at H
    refine z_iload (M := M_X2_farthest) dX2_farthest_228 rfl ?_
    cases H
    exact z_iret (M := M_X2_farthest) dX2_farthest_230 rfl (Nat.le_of_ble_eq_true rfl) (Nat.le_of_ble_eq_true rfl) ⟨rfl, rfl⟩
  refine whl_go hw_14 (fun (best_10, beside_11, size_12, i_13) => YY l E M_X2_farthest 4 0 0 (pS (some (vi r)) σ) 65 [some (vr shape_0), some (vi a_0), some (vi b_0), some (vi distance_0), some (vl ((w32 x_1) - (w32 x_3))), none, some (vl ((w32 x_5) - (w32 x_7))), none, some (vl x_9), none, some (vi best_10), some (zv beside_11), some (vl size_12), none, some (vi i_13), none, none, none, none, none, none, none, none, none] [] σ 0 0) ?_
  rintro ⟨best_10, beside_11, size_12, i_13⟩ o_18 H K_19 K_20
  refine z_iload (M := M_X2_farthest) dX2_farthest_65 rfl ?_
  refine z_iload_n (M := M_X2_farthest) dX2_farthest_67 rfl ?_
  rcases if_e H with ⟨h_21, H⟩ | ⟨h_21, H⟩
  · refine z_icmp_ge_f (M := M_X2_farthest) (tgt := 228) dX2_farthest_68 (by decide) rfl rfl h_21 ?_
    refine z_aload_n (M := M_X2_farthest) dX2_farthest_71 rfl ?_
    refine z_getR (M := M_X2_farthest) (ci := 9) (C := RX6) (T := TX6) (Nf := 5) (ty := tyX6) cl9 dX2_farthest_72 (ly_S h_shape) 1 (by decide) t_59 rfl ?_
    refine z_iload (M := M_X2_farthest) dX2_farthest_75 rfl ?_
    obtain ⟨x_22, x_22_e, hi_23, H⟩ := rd_e H
    refine z_iald (M := M_X2_farthest) dX2_farthest_77 (ly_Sx h_shape) rfl rfl rfl hi_23 x_22_e ?_
    refine z_i2l (M := M_X2_farthest) dX2_farthest_78 ?_
    refine z_aload_n (M := M_X2_farthest) dX2_farthest_79 rfl ?_
    refine z_getR (M := M_X2_farthest) (ci := 9) (C := RX6) (T := TX6) (Nf := 5) (ty := tyX6) cl9 dX2_farthest_80 (ly_S h_shape) 1 (by decide) t_59 rfl ?_
    refine z_iload_n (M := M_X2_farthest) dX2_farthest_83 rfl ?_
    obtain ⟨x_24, x_24_e, hi_25, H⟩ := rd_e H
    refine z_iald (M := M_X2_farthest) dX2_farthest_84 (ly_Sx h_shape) rfl rfl rfl hi_25 x_24_e ?_
    refine z_i2l (M := M_X2_farthest) dX2_farthest_85 ?_
    refine z_lsub (M := M_X2_farthest) dX2_farthest_86 ?_
    refine z_lstore (M := M_X2_farthest) (lv' := [some (vr shape_0), some (vi a_0), some (vi b_0), some (vi distance_0), some (vl ((w32 x_1) - (w32 x_3))), none, some (vl ((w32 x_5) - (w32 x_7))), none, some (vl x_9), none, some (vi best_10), some (zv beside_11), some (vl size_12), none, some (vi i_13), some (vl ((w32 x_22) - (w32 x_24))), none, none, none, none, none, none, none, none]) dX2_farthest_87 (Nat.le_of_ble_eq_true rfl) rfl rfl ?_
    refine z_aload_n (M := M_X2_farthest) dX2_farthest_89 rfl ?_
    refine z_getR (M := M_X2_farthest) (ci := 9) (C := RX6) (T := TX6) (Nf := 5) (ty := tyX6) cl9 dX2_farthest_90 (ly_S h_shape) 2 (by decide) t_66 rfl ?_
    refine z_iload (M := M_X2_farthest) dX2_farthest_93 rfl ?_
    obtain ⟨x_26, x_26_e, hi_27, H⟩ := rd_e H
    refine z_iald (M := M_X2_farthest) dX2_farthest_95 (ly_Sy h_shape) rfl rfl rfl hi_27 x_26_e ?_
    refine z_i2l (M := M_X2_farthest) dX2_farthest_96 ?_
    refine z_aload_n (M := M_X2_farthest) dX2_farthest_97 rfl ?_
    refine z_getR (M := M_X2_farthest) (ci := 9) (C := RX6) (T := TX6) (Nf := 5) (ty := tyX6) cl9 dX2_farthest_98 (ly_S h_shape) 2 (by decide) t_66 rfl ?_
    refine z_iload_n (M := M_X2_farthest) dX2_farthest_101 rfl ?_
    obtain ⟨x_28, x_28_e, hi_29, H⟩ := rd_e H
    refine z_iald (M := M_X2_farthest) dX2_farthest_102 (ly_Sy h_shape) rfl rfl rfl hi_29 x_28_e ?_
    refine z_i2l (M := M_X2_farthest) dX2_farthest_103 ?_
    refine z_lsub (M := M_X2_farthest) dX2_farthest_104 ?_
    refine z_lstore (M := M_X2_farthest) (lv' := [some (vr shape_0), some (vi a_0), some (vi b_0), some (vi distance_0), some (vl ((w32 x_1) - (w32 x_3))), none, some (vl ((w32 x_5) - (w32 x_7))), none, some (vl x_9), none, some (vi best_10), some (zv beside_11), some (vl size_12), none, some (vi i_13), some (vl ((w32 x_22) - (w32 x_24))), none, some (vl ((w32 x_26) - (w32 x_28))), none, none, none, none, none, none]) dX2_farthest_105 (Nat.le_of_ble_eq_true rfl) rfl rfl ?_
    refine z_lload (M := M_X2_farthest) dX2_farthest_107 rfl ?_
    refine z_lload (M := M_X2_farthest) dX2_farthest_109 rfl ?_
    refine z_lmul (M := M_X2_farthest) dX2_farthest_111 ?_
    refine z_lload (M := M_X2_farthest) dX2_farthest_112 rfl ?_
    refine z_lload (M := M_X2_farthest) dX2_farthest_114 rfl ?_
    refine z_lmul (M := M_X2_farthest) dX2_farthest_116 ?_
    refine z_ladd (M := M_X2_farthest) dX2_farthest_117 ?_
    obtain ⟨x_30, x_30_e, H⟩ := lt_e H
    refine z_st (congrArg (fun z => vl z :: []) x_30_e) ?_
    refine z_lstore (M := M_X2_farthest) (lv' := [some (vr shape_0), some (vi a_0), some (vi b_0), some (vi distance_0), some (vl ((w32 x_1) - (w32 x_3))), none, some (vl ((w32 x_5) - (w32 x_7))), none, some (vl x_9), none, some (vi best_10), some (zv beside_11), some (vl size_12), none, some (vi i_13), some (vl ((w32 x_22) - (w32 x_24))), none, some (vl ((w32 x_26) - (w32 x_28))), none, some (vl x_30), none, none, none, none]) dX2_farthest_118 (Nat.le_of_ble_eq_true rfl) rfl rfl ?_
    have J_31 : YY l E M_X2_farthest 4 0 0 (pS (some (vi r)) σ) 140 [some (vr shape_0), some (vi a_0), some (vi b_0), some (vi distance_0), some (vl ((w32 x_1) - (w32 x_3))), none, some (vl ((w32 x_5) - (w32 x_7))), none, some (vl x_9), none, some (vi best_10), some (zv beside_11), some (vl size_12), none, some (vi i_13), some (vl ((w32 x_22) - (w32 x_24))), none, some (vl ((w32 x_26) - (w32 x_28))), none, some (vl x_30), none, none, none, none] [zv (decide ((0 < (w64 x_30)) ∧ ((w64 x_30) < (w64 x_9))))] σ 0 0 := by
      refine z_zstore (M := M_X2_farthest) (lv' := [some (vr shape_0), some (vi a_0), some (vi b_0), some (vi distance_0), some (vl ((w32 x_1) - (w32 x_3))), none, some (vl ((w32 x_5) - (w32 x_7))), none, some (vl x_9), none, some (vi best_10), some (zv beside_11), some (vl size_12), none, some (vi i_13), some (vl ((w32 x_22) - (w32 x_24))), none, some (vl ((w32 x_26) - (w32 x_28))), none, some (vl x_30), none, some (zv (decide ((0 < (w64 x_30)) ∧ ((w64 x_30) < (w64 x_9))))), none, none]) dX2_farthest_140 (Nat.le_of_ble_eq_true rfl) rfl rfl ?_
      obtain ⟨v_72, he_73, hk_74⟩ := bd_e H
      have J_75 : ∀ x_59, v_72 = x_59 → YY l E M_X2_farthest 4 0 0 (pS (some (vi r)) σ) 192 [some (vr shape_0), some (vi a_0), some (vi b_0), some (vi distance_0), some (vl ((w32 x_1) - (w32 x_3))), none, some (vl ((w32 x_5) - (w32 x_7))), none, some (vl x_9), none, some (vi best_10), some (zv beside_11), some (vl size_12), none, some (vi i_13), some (vl ((w32 x_22) - (w32 x_24))), none, some (vl ((w32 x_26) - (w32 x_28))), none, some (vl x_30), none, some (zv (decide ((0 < (w64 x_30)) ∧ ((w64 x_30) < (w64 x_9))))), none, none] [vl x_59] σ 0 0 := by
        intro x_59 e
        have H := hk_74
        rw [e] at H
        refine z_lstore (M := M_X2_farthest) (lv' := [some (vr shape_0), some (vi a_0), some (vi b_0), some (vi distance_0), some (vl ((w32 x_1) - (w32 x_3))), none, some (vl ((w32 x_5) - (w32 x_7))), none, some (vl x_9), none, some (vi best_10), some (zv beside_11), some (vl size_12), none, some (vi i_13), some (vl ((w32 x_22) - (w32 x_24))), none, some (vl ((w32 x_26) - (w32 x_28))), none, some (vl x_30), none, some (zv (decide ((0 < (w64 x_30)) ∧ ((w64 x_30) < (w64 x_9))))), some (vl x_59), none]) dX2_farthest_192 (Nat.le_of_ble_eq_true rfl) rfl rfl ?_
        obtain ⟨v_63, he_60, hk_61⟩ := bd_e H
        have J_71 : ∀ best_67 beside_68 size_69, v_63 = (best_67, beside_68, size_69) → YY l E M_X2_farthest 4 0 0 (pS (some (vi r)) σ) 222 [some (vr shape_0), some (vi a_0), some (vi b_0), some (vi distance_0), some (vl ((w32 x_1) - (w32 x_3))), none, some (vl ((w32 x_5) - (w32 x_7))), none, some (vl x_9), none, some (vi best_67), some (zv beside_68), some (vl size_69), none, some (vi i_13), some (vl ((w32 x_22) - (w32 x_24))), none, some (vl ((w32 x_26) - (w32 x_28))), none, some (vl x_30), none, some (zv (decide ((0 < (w64 x_30)) ∧ ((w64 x_30) < (w64 x_9))))), some (vl x_59), none] [] σ 0 0 := by
          intro best_67 beside_68 size_69 e
          have H := hk_61
          rw [e] at H
          refine z_iinc (M := M_X2_farthest) (lv' := [some (vr shape_0), some (vi a_0), some (vi b_0), some (vi distance_0), some (vl ((w32 x_1) - (w32 x_3))), none, some (vl ((w32 x_5) - (w32 x_7))), none, some (vl x_9), none, some (vi best_67), some (zv beside_68), some (vl size_69), none, some (vi (i_13 + 1)), some (vl ((w32 x_22) - (w32 x_24))), none, some (vl ((w32 x_26) - (w32 x_28))), none, some (vl x_30), none, some (zv (decide ((0 < (w64 x_30)) ∧ ((w64 x_30) < (w64 x_9))))), some (vl x_59), none]) dX2_farthest_222 rfl (Nat.le_of_ble_eq_true rfl) rfl rfl ?_
          refine z_goto (M := M_X2_farthest) (tgt := 65) dX2_farthest_225 (by decide) ?_
          refine z_le (lv' := [some (vr shape_0), some (vi a_0), some (vi b_0), some (vi distance_0), some (vl ((w32 x_1) - (w32 x_3))), none, some (vl ((w32 x_5) - (w32 x_7))), none, some (vl x_9), none, some (vi best_67), some (zv beside_68), some (vl size_69), none, some (vi (i_13 + 1)), none, none, none, none, none, none, none, none, none]) ⟨Or.inr rfl, Or.inr rfl, Or.inr rfl, Or.inr rfl, Or.inr rfl, Or.inl rfl, Or.inr rfl, Or.inl rfl, Or.inr rfl, Or.inl rfl, Or.inr rfl, Or.inr rfl, Or.inr rfl, Or.inl rfl, Or.inr rfl, Or.inl rfl, Or.inl rfl, Or.inl rfl, Or.inl rfl, Or.inl rfl, Or.inl rfl, Or.inl rfl, Or.inl rfl, Or.inl rfl, trivial⟩ ?_
          exact K_19 _ (Option.some.inj H).symm
        have H := he_60
        refine z_zload (M := M_X2_farthest) dX2_farthest_194 rfl ?_
        refine z_lload (M := M_X2_farthest) dX2_farthest_196 rfl ?_
        refine z_zload (M := M_X2_farthest) dX2_farthest_198 rfl ?_
        refine z_lload (M := M_X2_farthest) dX2_farthest_200 rfl ?_
        refine z_lload (M := M_X2_farthest) dX2_farthest_202 rfl ?_
        refine z_callS (M := M_X2_farthest) (M' := M_X2_isFarther) (as := [zv (decide ((0 < (w64 x_30)) ∧ ((w64 x_30) < (w64 x_9)))), vl x_59, zv beside_11, vl size_12, vl x_9]) (rest := []) rfl rfl dX2_farthest_204 m_X2_isFarther t_2213 t_2214 (c_X2_isFarther hl  rfl) rfl rfl (Nat.le_of_ble_eq_true rfl) (Nat.le_of_ble_eq_true rfl) (Nat.le_of_ble_eq_true rfl) (Nat.le_of_ble_eq_true rfl) ?_
        refine z_st (st' := [zv (fP_isFarther (decide ((0 < (w64 x_30)) ∧ ((w64 x_30) < (w64 x_9)))) x_59 beside_11 size_12 x_9)]) rfl ?_
        rcases if_e H with ⟨h_64, H⟩ | ⟨h_64, H⟩
        · refine z_zeq_f (M := M_X2_farthest) (tgt := 222) dX2_farthest_207 (by decide) h_64 ?_
          refine z_iload (M := M_X2_farthest) dX2_farthest_210 rfl ?_
          refine z_istore (M := M_X2_farthest) (lv' := [some (vr shape_0), some (vi a_0), some (vi b_0), some (vi distance_0), some (vl ((w32 x_1) - (w32 x_3))), none, some (vl ((w32 x_5) - (w32 x_7))), none, some (vl x_9), none, some (vi i_13), some (zv beside_11), some (vl size_12), none, some (vi i_13), some (vl ((w32 x_22) - (w32 x_24))), none, some (vl ((w32 x_26) - (w32 x_28))), none, some (vl x_30), none, some (zv (decide ((0 < (w64 x_30)) ∧ ((w64 x_30) < (w64 x_9))))), some (vl x_59), none]) dX2_farthest_212 (Nat.le_of_ble_eq_true rfl) rfl rfl ?_
          refine z_zload (M := M_X2_farthest) dX2_farthest_214 rfl ?_
          refine z_zstore (M := M_X2_farthest) (lv' := [some (vr shape_0), some (vi a_0), some (vi b_0), some (vi distance_0), some (vl ((w32 x_1) - (w32 x_3))), none, some (vl ((w32 x_5) - (w32 x_7))), none, some (vl x_9), none, some (vi i_13), some (zv (decide ((0 < (w64 x_30)) ∧ ((w64 x_30) < (w64 x_9))))), some (vl size_12), none, some (vi i_13), some (vl ((w32 x_22) - (w32 x_24))), none, some (vl ((w32 x_26) - (w32 x_28))), none, some (vl x_30), none, some (zv (decide ((0 < (w64 x_30)) ∧ ((w64 x_30) < (w64 x_9))))), some (vl x_59), none]) dX2_farthest_216 (Nat.le_of_ble_eq_true rfl) rfl rfl ?_
          refine z_lload (M := M_X2_farthest) dX2_farthest_218 rfl ?_
          refine z_lstore (M := M_X2_farthest) (lv' := [some (vr shape_0), some (vi a_0), some (vi b_0), some (vi distance_0), some (vl ((w32 x_1) - (w32 x_3))), none, some (vl ((w32 x_5) - (w32 x_7))), none, some (vl x_9), none, some (vi i_13), some (zv (decide ((0 < (w64 x_30)) ∧ ((w64 x_30) < (w64 x_9))))), some (vl x_59), none, some (vi i_13), some (vl ((w32 x_22) - (w32 x_24))), none, some (vl ((w32 x_26) - (w32 x_28))), none, some (vl x_30), none, some (zv (decide ((0 < (w64 x_30)) ∧ ((w64 x_30) < (w64 x_9))))), some (vl x_59), none]) dX2_farthest_220 (Nat.le_of_ble_eq_true rfl) rfl rfl ?_
          exact J_71 _ _ _ (Option.some.inj H).symm
        · refine z_zeq_t (M := M_X2_farthest) (tgt := 222) dX2_farthest_207 (by decide) h_64 ?_
          exact J_71 _ _ _ (Option.some.inj H).symm
      have H := he_73
      refine z_zload (M := M_X2_farthest) dX2_farthest_142 rfl ?_
      rcases if_e H with ⟨h_44, H⟩ | ⟨h_44, H⟩
      · refine z_zeq_f (M := M_X2_farthest) (tgt := 164) dX2_farthest_144 (by decide) h_44 ?_
        refine z_lload (M := M_X2_farthest) dX2_farthest_147 rfl ?_
        refine z_lload (M := M_X2_farthest) dX2_farthest_149 rfl ?_
        refine z_lmul (M := M_X2_farthest) dX2_farthest_151 ?_
        refine z_lload (M := M_X2_farthest) dX2_farthest_152 rfl ?_
        refine z_lload (M := M_X2_farthest) dX2_farthest_154 rfl ?_
        refine z_lmul (M := M_X2_farthest) dX2_farthest_156 ?_
        refine z_lsub (M := M_X2_farthest) dX2_farthest_157 ?_
        refine z_labs (M := M_X2_farthest) dX2_farthest_158 t_2209 t_1131 t_20 t_1132 (Nat.le_of_ble_eq_true rfl) (Nat.le_of_ble_eq_true rfl) (Nat.le_of_ble_eq_true rfl) (Nat.le_of_ble_eq_true rfl) ?_
        refine z_goto (M := M_X2_farthest) (tgt := 192) dX2_farthest_161 (by decide) ?_
        exact J_75 _ (Option.some.inj H).symm
      · refine z_zeq_t (M := M_X2_farthest) (tgt := 164) dX2_farthest_144 (by decide) h_44 ?_
        obtain ⟨v_55, he_56, hk_57⟩ := bd_e H
        have J_58 : ∀ x_53, v_55 = x_53 → YY l E M_X2_farthest 4 0 0 (pS (some (vi r)) σ) 192 [some (vr shape_0), some (vi a_0), some (vi b_0), some (vi distance_0), some (vl ((w32 x_1) - (w32 x_3))), none, some (vl ((w32 x_5) - (w32 x_7))), none, some (vl x_9), none, some (vi best_10), some (zv beside_11), some (vl size_12), none, some (vi i_13), some (vl ((w32 x_22) - (w32 x_24))), none, some (vl ((w32 x_26) - (w32 x_28))), none, some (vl x_30), none, some (zv (decide ((0 < (w64 x_30)) ∧ ((w64 x_30) < (w64 x_9))))), none, none] [vl x_53] σ 0 0 := by
          intro x_53 e
          have H := hk_57
          rw [e] at H
          exact J_75 _ (Option.some.inj H).symm
        have H := he_56
        refine z_lload (M := M_X2_farthest) dX2_farthest_164 rfl ?_
        refine z_lconst (M := M_X2_farthest) (m := 0) dX2_farthest_166 (by decide +kernel) ?_
        refine z_lcmp (M := M_X2_farthest) dX2_farthest_167 ?_
        rcases if_e H with ⟨h_48, H⟩ | ⟨h_48, H⟩
        · refine z_lif_gt_f (M := M_X2_farthest) (tgt := 185) dX2_farthest_168 (by decide) rfl (by decide +kernel) h_48 ?_
          refine z_lload (M := M_X2_farthest) dX2_farthest_171 rfl ?_
          refine z_lload (M := M_X2_farthest) dX2_farthest_173 rfl ?_
          refine z_lmul (M := M_X2_farthest) dX2_farthest_175 ?_
          refine z_lload (M := M_X2_farthest) dX2_farthest_176 rfl ?_
          refine z_lload (M := M_X2_farthest) dX2_farthest_178 rfl ?_
          refine z_lmul (M := M_X2_farthest) dX2_farthest_180 ?_
          refine z_ladd (M := M_X2_farthest) dX2_farthest_181 ?_
          refine z_goto (M := M_X2_farthest) (tgt := 192) dX2_farthest_182 (by decide) ?_
          exact J_58 _ (Option.some.inj H).symm
        · refine z_lif_gt_t (M := M_X2_farthest) (tgt := 185) dX2_farthest_168 (by decide) rfl (by decide +kernel) (Int.not_le.mp h_48) ?_
          refine z_aload_n (M := M_X2_farthest) dX2_farthest_185 rfl ?_
          refine z_iload (M := M_X2_farthest) dX2_farthest_186 rfl ?_
          refine z_iload_n (M := M_X2_farthest) dX2_farthest_188 rfl ?_
          obtain ⟨x_51, hc_50, H⟩ := bd_e H
          refine z_callS (M := M_X2_farthest) (M' := M_X2_squareTo) (as := [vr shape_0, vi i_13, vi b_0]) (rest := []) rfl rfl dX2_farthest_189 m_X2_squareTo t_2210 t_2211 (c_X2_squareTo hl h_shape hc_50) rfl rfl (Nat.le_of_ble_eq_true rfl) (Nat.le_of_ble_eq_true rfl) (Nat.le_of_ble_eq_true rfl) (Nat.le_of_ble_eq_true rfl) ?_
          refine z_st (st' := [vl x_51]) rfl ?_
          exact J_58 _ (Option.some.inj H).symm
    refine z_lload (M := M_X2_farthest) dX2_farthest_120 rfl ?_
    refine z_lconst (M := M_X2_farthest) (m := 0) dX2_farthest_122 (by decide +kernel) ?_
    refine z_lcmp (M := M_X2_farthest) dX2_farthest_123 ?_
    by_cases h_76 : 0 < (w64 x_30)
    · refine z_lif_le_f (M := M_X2_farthest) (tgt := 139) dX2_farthest_124 (by decide) rfl (by decide +kernel) h_76 ?_
      refine z_lload (M := M_X2_farthest) dX2_farthest_127 rfl ?_
      refine z_lload (M := M_X2_farthest) dX2_farthest_129 rfl ?_
      refine z_lcmp (M := M_X2_farthest) dX2_farthest_131 ?_
      by_cases h_77 : (w64 x_30) < (w64 x_9)
      · refine z_lif_ge_f (M := M_X2_farthest) (tgt := 139) dX2_farthest_132 (by decide) rfl rfl h_77 ?_
        refine z_iconst (M := M_X2_farthest) dX2_farthest_135 ?_
        refine z_goto (M := M_X2_farthest) (tgt := 140) dX2_farthest_136 (by decide) ?_
        exact z_st (by rw [zv_t (p := (0 < (w64 x_30)) ∧ ((w64 x_30) < (w64 x_9))) ⟨h_76, h_77⟩]) J_31
      · refine z_lif_ge_t (M := M_X2_farthest) (tgt := 139) dX2_farthest_132 (by decide) rfl rfl (Int.not_lt.mp h_77) ?_
        refine z_iconst (M := M_X2_farthest) dX2_farthest_139 ?_
        exact z_st (by rw [zv_f (p := (0 < (w64 x_30)) ∧ ((w64 x_30) < (w64 x_9))) (fun q => h_77 q.2)]) J_31
    · refine z_lif_le_t (M := M_X2_farthest) (tgt := 139) dX2_farthest_124 (by decide) rfl (by decide +kernel) (Int.not_lt.mp h_76) ?_
      refine z_iconst (M := M_X2_farthest) dX2_farthest_139 ?_
      exact z_st (by rw [zv_f (p := (0 < (w64 x_30)) ∧ ((w64 x_30) < (w64 x_9))) (fun q => h_76 q.1)]) J_31
  · refine z_icmp_ge_t (M := M_X2_farthest) (tgt := 228) dX2_farthest_68 (by decide) rfl rfl (Int.not_lt.mp h_21) ?_
    exact J_83 _ _ _ _ (K_20 _ (Option.some.inj H).symm).symm
theorem c_X2_markStaying (hl : l.stackTraces = false) {σ : SG} {shape_0 : Nat} {first_0 : Int} {last_0 : Int} {distance_0 : Int} {σ' : SG} (h_shape : isS shape_0) (H : fP_markStaying σ shape_0 first_0 last_0 distance_0 = some σ') : en_S l E M_X2_markStaying 5 0 0 [vr 238, vr shape_0, vi first_0, vi last_0, vi distance_0] σ (pS (none) σ') := by
  unfold fP_markStaying at H
  refine z_mk (lv := [some (vr 238), some (vr shape_0), some (vi first_0), some (vi last_0), some (vi distance_0), none, none, none, none, none]) m_X2_markStaying rfl hl (Nat.le_of_ble_eq_true rfl) rfl ?_
  refine z_iload_n (M := M_X2_markStaying) dX2_markStaying_0 rfl ?_
  refine z_iload_n (M := M_X2_markStaying) dX2_markStaying_1 rfl ?_
  rcases if_e H with ⟨h_1, H⟩ | ⟨h_1, H⟩
  · refine z_icmp_ge_f (M := M_X2_markStaying) (tgt := 6) dX2_markStaying_2 (by decide) rfl rfl h_1 ?_
    cases H
    exact z_vret (M := M_X2_markStaying) dX2_markStaying_5 rfl (Nat.le_of_ble_eq_true rfl) (Nat.le_of_ble_eq_true rfl) ⟨rfl, rfl⟩
  · refine z_icmp_ge_t (M := M_X2_markStaying) (tgt := 6) dX2_markStaying_2 (by decide) rfl rfl (Int.not_lt.mp h_1) ?_
    refine z_iload_n (M := M_X2_markStaying) dX2_markStaying_6 rfl ?_
    refine z_istore (M := M_X2_markStaying) (lv' := [some (vr 238), some (vr shape_0), some (vi first_0), some (vi last_0), some (vi distance_0), some (vi first_0), none, none, none, none]) dX2_markStaying_7 (Nat.le_of_ble_eq_true rfl) rfl rfl ?_
    obtain ⟨rl_7, hw_4, hk_5⟩ := bd_e H
    have J_70 : ∀ i_16 σ_17, rl_7 = (i_16, σ_17) → YY l E M_X2_markStaying 5 0 0 (pS (none) σ') 29 [some (vr 238), some (vr shape_0), some (vi first_0), some (vi last_0), some (vi distance_0), some (vi i_16), none, none, none, none] [] σ_17 0 0 := by
      intro i_16 σ_17 e
      have H := hk_5
      rw [e] at H
      refine z_aload_n (M := M_X2_markStaying) dX2_markStaying_29 rfl ?_
      refine z_getR (M := M_X2_markStaying) (ci := 5) (C := RX2) (T := TX2) (Nf := 17) (ty := tyX2) cl5 dX2_markStaying_30 ly_238 15 (by decide) t_500 rfl ?_
      refine z_iload_n (M := M_X2_markStaying) dX2_markStaying_33 rfl ?_
      refine z_zconst (M := M_X2_markStaying) (b := true) dX2_markStaying_34 rfl ?_
      obtain ⟨σ_18, σ_18_e, hi_19, H⟩ := wa_e H
      refine z_zast (M := M_X2_markStaying) dX2_markStaying_35 ly_250 rfl rfl rfl hi_19 σ_18_e ?_
      refine z_aload_n (M := M_X2_markStaying) dX2_markStaying_36 rfl ?_
      refine z_getR (M := M_X2_markStaying) (ci := 5) (C := RX2) (T := TX2) (Nf := 17) (ty := tyX2) cl5 dX2_markStaying_37 ly_238 15 (by decide) t_500 rfl ?_
      refine z_iload_n (M := M_X2_markStaying) dX2_markStaying_40 rfl ?_
      refine z_zconst (M := M_X2_markStaying) (b := true) dX2_markStaying_41 rfl ?_
      obtain ⟨σ_20, σ_20_e, hi_21, H⟩ := wa_e H
      refine z_zast (M := M_X2_markStaying) dX2_markStaying_42 ly_250 rfl rfl rfl hi_21 σ_20_e ?_
      refine z_iload_n (M := M_X2_markStaying) dX2_markStaying_43 rfl ?_
      refine z_istore (M := M_X2_markStaying) (lv' := [some (vr 238), some (vr shape_0), some (vi first_0), some (vi last_0), some (vi distance_0), some (vi first_0), none, none, none, none]) dX2_markStaying_44 (Nat.le_of_ble_eq_true rfl) rfl rfl ?_
      refine z_iconst (M := M_X2_markStaying) dX2_markStaying_46 ?_
      refine z_istore (M := M_X2_markStaying) (lv' := [some (vr 238), some (vr shape_0), some (vi first_0), some (vi last_0), some (vi distance_0), some (vi first_0), some (vi 1), none, none, none]) dX2_markStaying_47 (Nat.le_of_ble_eq_true rfl) rfl rfl ?_
      refine z_aload_n (M := M_X2_markStaying) dX2_markStaying_49 rfl ?_
      refine z_getR (M := M_X2_markStaying) (ci := 5) (C := RX2) (T := TX2) (Nf := 17) (ty := tyX2) cl5 dX2_markStaying_50 ly_238 16 (by decide) t_501 rfl ?_
      refine z_iconst (M := M_X2_markStaying) dX2_markStaying_53 ?_
      refine z_iload_n (M := M_X2_markStaying) dX2_markStaying_54 rfl ?_
      obtain ⟨σ_22, σ_22_e, hi_23, H⟩ := wa_e H
      refine z_iast (M := M_X2_markStaying) dX2_markStaying_55 ly_251 rfl (by decide +kernel) rfl hi_23 σ_22_e ?_
      refine z_iconst (M := M_X2_markStaying) dX2_markStaying_56 ?_
      refine z_istore (M := M_X2_markStaying) (lv' := [some (vr 238), some (vr shape_0), some (vi first_0), some (vi last_0), some (vi distance_0), some (vi first_0), some (vi 1), some (vi 0), none, none]) dX2_markStaying_57 (Nat.le_of_ble_eq_true rfl) rfl rfl ?_
      obtain ⟨rl_31, hw_28, hk_29⟩ := bd_e H
      have J_69 : ∀ present_65 size_66 step_67 σ_68, rl_31 = (present_65, size_66, step_67, σ_68) → YY l E M_X2_markStaying 5 0 0 (pS (none) σ') 151 [some (vr 238), some (vr shape_0), some (vi first_0), some (vi last_0), some (vi distance_0), some (vi present_65), some (vi size_66), some (vi step_67), none, none] [] σ_68 0 0 := by
        intro present_65 size_66 step_67 σ_68 e
        have H := hk_29
        rw [e] at H
        cases H
        exact z_vret (M := M_X2_markStaying) dX2_markStaying_151 rfl (Nat.le_of_ble_eq_true rfl) (Nat.le_of_ble_eq_true rfl) ⟨rfl, rfl⟩
      refine whl_go hw_28 (fun (present_24, size_25, step_26, σ_27) => YY l E M_X2_markStaying 5 0 0 (pS (none) σ') 59 [some (vr 238), some (vr shape_0), some (vi first_0), some (vi last_0), some (vi distance_0), some (vi present_24), some (vi size_25), some (vi step_26), none, none] [] σ_27 0 0) ?_
      rintro ⟨present_24, size_25, step_26, σ_27⟩ o_32 H K_33 K_34
      rcases if_e H with ⟨h_56, H⟩ | ⟨h_56, H⟩
      · have J_57 : YY l E M_X2_markStaying 5 0 0 (pS (none) σ') 86 [some (vr 238), some (vr shape_0), some (vi first_0), some (vi last_0), some (vi distance_0), some (vi present_24), some (vi size_25), some (vi step_26), none, none] [] σ_27 0 0 := by
          refine z_aload_n (M := M_X2_markStaying) dX2_markStaying_86 rfl ?_
          refine z_getR (M := M_X2_markStaying) (ci := 5) (C := RX2) (T := TX2) (Nf := 17) (ty := tyX2) cl5 dX2_markStaying_87 ly_238 16 (by decide) t_501 rfl ?_
          refine z_iload (M := M_X2_markStaying) dX2_markStaying_90 rfl ?_
          refine z_iconst (M := M_X2_markStaying) dX2_markStaying_92 ?_
          refine z_isub (M := M_X2_markStaying) dX2_markStaying_93 ?_
          obtain ⟨x_35, x_35_e, hi_36, H⟩ := rd_e H
          refine z_iald (M := M_X2_markStaying) dX2_markStaying_94 ly_251 rfl rfl rfl hi_36 x_35_e ?_
          refine z_istore (M := M_X2_markStaying) (lv' := [some (vr 238), some (vr shape_0), some (vi first_0), some (vi last_0), some (vi distance_0), some (vi present_24), some (vi size_25), some (vi step_26), some (vi x_35), none]) dX2_markStaying_95 (Nat.le_of_ble_eq_true rfl) rfl rfl ?_
          refine z_aload_n (M := M_X2_markStaying) dX2_markStaying_97 rfl ?_
          refine z_iload (M := M_X2_markStaying) dX2_markStaying_98 rfl ?_
          refine z_iload (M := M_X2_markStaying) dX2_markStaying_100 rfl ?_
          refine z_iload (M := M_X2_markStaying) dX2_markStaying_102 rfl ?_
          obtain ⟨x_38, hc_37, H⟩ := bd_e H
          refine z_callS (M := M_X2_markStaying) (M' := M_X2_farthest) (as := [vr shape_0, vi present_24, vi x_35, vi distance_0]) (rest := []) rfl rfl dX2_markStaying_104 m_X2_farthest t_2206 t_2207 (c_X2_farthest hl h_shape hc_37) rfl rfl (Nat.le_of_ble_eq_true rfl) (Nat.le_of_ble_eq_true rfl) (Nat.le_of_ble_eq_true rfl) (Nat.le_of_ble_eq_true rfl) ?_
          refine z_st (st' := [vi x_38]) rfl ?_
          refine z_istore (M := M_X2_markStaying) (lv' := [some (vr 238), some (vr shape_0), some (vi first_0), some (vi last_0), some (vi distance_0), some (vi present_24), some (vi size_25), some (vi step_26), some (vi x_35), some (vi x_38)]) dX2_markStaying_107 (Nat.le_of_ble_eq_true rfl) rfl rfl ?_
          obtain ⟨v_42, he_39, hk_40⟩ := bd_e H
          have J_54 : ∀ present_50 size_51 σ_52, v_42 = (present_50, size_51, σ_52) → YY l E M_X2_markStaying 5 0 0 (pS (none) σ') 145 [some (vr 238), some (vr shape_0), some (vi first_0), some (vi last_0), some (vi distance_0), some (vi present_50), some (vi size_51), some (vi step_26), some (vi x_35), some (vi x_38)] [] σ_52 0 0 := by
            intro present_50 size_51 σ_52 e
            have H := hk_40
            rw [e] at H
            refine z_iinc (M := M_X2_markStaying) (lv' := [some (vr 238), some (vr shape_0), some (vi first_0), some (vi last_0), some (vi distance_0), some (vi present_50), some (vi size_51), some (vi (step_26 + 1)), some (vi x_35), some (vi x_38)]) dX2_markStaying_145 rfl (Nat.le_of_ble_eq_true rfl) rfl rfl ?_
            refine z_goto (M := M_X2_markStaying) (tgt := 59) dX2_markStaying_148 (by decide) ?_
            refine z_le (lv' := [some (vr 238), some (vr shape_0), some (vi first_0), some (vi last_0), some (vi distance_0), some (vi present_50), some (vi size_51), some (vi (step_26 + 1)), none, none]) ⟨Or.inr rfl, Or.inr rfl, Or.inr rfl, Or.inr rfl, Or.inr rfl, Or.inr rfl, Or.inr rfl, Or.inr rfl, Or.inl rfl, Or.inl rfl, trivial⟩ ?_
            exact K_33 _ (Option.some.inj H).symm
          have H := he_39
          refine z_iload (M := M_X2_markStaying) dX2_markStaying_109 rfl ?_
          refine z_iconst (M := M_X2_markStaying) dX2_markStaying_111 ?_
          rcases if_e H with ⟨h_43, H⟩ | ⟨h_43, H⟩
          · refine z_icmp_ne_f (M := M_X2_markStaying) (tgt := 125) dX2_markStaying_112 (by decide) rfl (by decide +kernel) h_43 ?_
            refine z_iload (M := M_X2_markStaying) dX2_markStaying_115 rfl ?_
            refine z_istore (M := M_X2_markStaying) (lv' := [some (vr 238), some (vr shape_0), some (vi first_0), some (vi last_0), some (vi distance_0), some (vi x_35), some (vi size_25), some (vi step_26), some (vi x_35), some (vi x_38)]) dX2_markStaying_117 (Nat.le_of_ble_eq_true rfl) rfl rfl ?_
            refine z_iinc (M := M_X2_markStaying) (lv' := [some (vr 238), some (vr shape_0), some (vi first_0), some (vi last_0), some (vi distance_0), some (vi x_35), some (vi (size_25 + (-1))), some (vi step_26), some (vi x_35), some (vi x_38)]) dX2_markStaying_119 rfl (Nat.le_of_ble_eq_true rfl) rfl rfl ?_
            refine z_goto (M := M_X2_markStaying) (tgt := 145) dX2_markStaying_122 (by decide) ?_
            exact J_54 _ _ _ (Option.some.inj H).symm
          · refine z_icmp_ne_t (M := M_X2_markStaying) (tgt := 125) dX2_markStaying_112 (by decide) rfl (by decide +kernel) h_43 ?_
            refine z_aload_n (M := M_X2_markStaying) dX2_markStaying_125 rfl ?_
            refine z_getR (M := M_X2_markStaying) (ci := 5) (C := RX2) (T := TX2) (Nf := 17) (ty := tyX2) cl5 dX2_markStaying_126 ly_238 15 (by decide) t_500 rfl ?_
            refine z_iload (M := M_X2_markStaying) dX2_markStaying_129 rfl ?_
            refine z_zconst (M := M_X2_markStaying) (b := true) dX2_markStaying_131 rfl ?_
            obtain ⟨σ_45, σ_45_e, hi_46, H⟩ := wa_e H
            refine z_zast (M := M_X2_markStaying) dX2_markStaying_132 ly_250 rfl rfl rfl hi_46 σ_45_e ?_
            refine z_aload_n (M := M_X2_markStaying) dX2_markStaying_133 rfl ?_
            refine z_getR (M := M_X2_markStaying) (ci := 5) (C := RX2) (T := TX2) (Nf := 17) (ty := tyX2) cl5 dX2_markStaying_134 ly_238 16 (by decide) t_501 rfl ?_
            refine z_iload (M := M_X2_markStaying) dX2_markStaying_137 rfl ?_
            refine z_iload (M := M_X2_markStaying) dX2_markStaying_139 rfl ?_
            obtain ⟨σ_47, σ_47_e, hi_48, H⟩ := wa_e H
            refine z_iast (M := M_X2_markStaying) dX2_markStaying_141 ly_251 rfl rfl rfl hi_48 σ_47_e ?_
            refine z_iinc (M := M_X2_markStaying) (lv' := [some (vr 238), some (vr shape_0), some (vi first_0), some (vi last_0), some (vi distance_0), some (vi present_24), some (vi (size_25 + 1)), some (vi step_26), some (vi x_35), some (vi x_38)]) dX2_markStaying_142 rfl (Nat.le_of_ble_eq_true rfl) rfl rfl ?_
            exact J_54 _ _ _ (Option.some.inj H).symm
        refine z_iload (M := M_X2_markStaying) dX2_markStaying_59 rfl ?_
        by_cases h_59 : 0 < (w32 size_25)
        · refine z_if_le_f (M := M_X2_markStaying) (tgt := 151) dX2_markStaying_61 (by decide) rfl h_59 ?_
          refine z_iload (M := M_X2_markStaying) dX2_markStaying_64 rfl ?_
          refine z_aload_n (M := M_X2_markStaying) dX2_markStaying_66 rfl ?_
          refine z_getR (M := M_X2_markStaying) (ci := 5) (C := RX2) (T := TX2) (Nf := 17) (ty := tyX2) cl5 dX2_markStaying_67 ly_238 16 (by decide) t_501 rfl ?_
          refine z_alen (M := M_X2_markStaying) (N := 2048) dX2_markStaying_70 ly_251 (by decide) rfl ?_
          by_cases h_60 : (w32 size_25) < 2048
          · refine z_icmp_ge_f (M := M_X2_markStaying) (tgt := 151) dX2_markStaying_71 (by decide) rfl (by decide +kernel) h_60 ?_
            refine z_iload (M := M_X2_markStaying) dX2_markStaying_74 rfl ?_
            refine z_iconst (M := M_X2_markStaying) dX2_markStaying_76 ?_
            refine z_aload_n (M := M_X2_markStaying) dX2_markStaying_77 rfl ?_
            refine z_getR (M := M_X2_markStaying) (ci := 5) (C := RX2) (T := TX2) (Nf := 17) (ty := tyX2) cl5 dX2_markStaying_78 ly_238 16 (by decide) t_501 rfl ?_
            refine z_alen (M := M_X2_markStaying) (N := 2048) dX2_markStaying_81 ly_251 (by decide) rfl ?_
            refine z_imul (M := M_X2_markStaying) dX2_markStaying_82 ?_
            by_cases h_61 : (w32 step_26) < (w32 (2 * 2048))
            · refine z_icmp_ge_f (M := M_X2_markStaying) (tgt := 151) dX2_markStaying_83 (by decide) rfl rfl h_61 ?_
              exact J_57
            · refine z_icmp_ge_t (M := M_X2_markStaying) (tgt := 151) dX2_markStaying_83 (by decide) rfl rfl (Int.not_lt.mp h_61) ?_
              exact absurd h_56 (fun q => h_61 q.2)
          · refine z_icmp_ge_t (M := M_X2_markStaying) (tgt := 151) dX2_markStaying_71 (by decide) rfl (by decide +kernel) (Int.not_lt.mp h_60) ?_
            exact absurd h_56 (fun q => (fun q => h_60 q.2) q.1)
        · refine z_if_le_t (M := M_X2_markStaying) (tgt := 151) dX2_markStaying_61 (by decide) rfl (Int.not_lt.mp h_59) ?_
          exact absurd h_56 (fun q => (fun q => h_59 q.1) q.1)
      · have J_58 : YY l E M_X2_markStaying 5 0 0 (pS (none) σ') 151 [some (vr 238), some (vr shape_0), some (vi first_0), some (vi last_0), some (vi distance_0), some (vi present_24), some (vi size_25), some (vi step_26), none, none] [] σ_27 0 0 := by
          exact J_69 _ _ _ _ (K_34 _ (Option.some.inj H).symm).symm
        refine z_iload (M := M_X2_markStaying) dX2_markStaying_59 rfl ?_
        by_cases h_62 : 0 < (w32 size_25)
        · refine z_if_le_f (M := M_X2_markStaying) (tgt := 151) dX2_markStaying_61 (by decide) rfl h_62 ?_
          refine z_iload (M := M_X2_markStaying) dX2_markStaying_64 rfl ?_
          refine z_aload_n (M := M_X2_markStaying) dX2_markStaying_66 rfl ?_
          refine z_getR (M := M_X2_markStaying) (ci := 5) (C := RX2) (T := TX2) (Nf := 17) (ty := tyX2) cl5 dX2_markStaying_67 ly_238 16 (by decide) t_501 rfl ?_
          refine z_alen (M := M_X2_markStaying) (N := 2048) dX2_markStaying_70 ly_251 (by decide) rfl ?_
          by_cases h_63 : (w32 size_25) < 2048
          · refine z_icmp_ge_f (M := M_X2_markStaying) (tgt := 151) dX2_markStaying_71 (by decide) rfl (by decide +kernel) h_63 ?_
            refine z_iload (M := M_X2_markStaying) dX2_markStaying_74 rfl ?_
            refine z_iconst (M := M_X2_markStaying) dX2_markStaying_76 ?_
            refine z_aload_n (M := M_X2_markStaying) dX2_markStaying_77 rfl ?_
            refine z_getR (M := M_X2_markStaying) (ci := 5) (C := RX2) (T := TX2) (Nf := 17) (ty := tyX2) cl5 dX2_markStaying_78 ly_238 16 (by decide) t_501 rfl ?_
            refine z_alen (M := M_X2_markStaying) (N := 2048) dX2_markStaying_81 ly_251 (by decide) rfl ?_
            refine z_imul (M := M_X2_markStaying) dX2_markStaying_82 ?_
            by_cases h_64 : (w32 step_26) < (w32 (2 * 2048))
            · refine z_icmp_ge_f (M := M_X2_markStaying) (tgt := 151) dX2_markStaying_83 (by decide) rfl rfl h_64 ?_
              exact absurd ⟨⟨h_62, h_63⟩, h_64⟩ h_56
            · refine z_icmp_ge_t (M := M_X2_markStaying) (tgt := 151) dX2_markStaying_83 (by decide) rfl rfl (Int.not_lt.mp h_64) ?_
              exact J_58
          · refine z_icmp_ge_t (M := M_X2_markStaying) (tgt := 151) dX2_markStaying_71 (by decide) rfl (by decide +kernel) (Int.not_lt.mp h_63) ?_
            exact J_58
        · refine z_if_le_t (M := M_X2_markStaying) (tgt := 151) dX2_markStaying_61 (by decide) rfl (Int.not_lt.mp h_62) ?_
          exact J_58
    refine whl_go hw_4 (fun (i_2, σ_3) => YY l E M_X2_markStaying 5 0 0 (pS (none) σ') 9 [some (vr 238), some (vr shape_0), some (vi first_0), some (vi last_0), some (vi distance_0), some (vi i_2), none, none, none, none] [] σ_3 0 0) ?_
    rintro ⟨i_2, σ_3⟩ o_8 H K_9 K_10
    refine z_iload (M := M_X2_markStaying) dX2_markStaying_9 rfl ?_
    refine z_iload_n (M := M_X2_markStaying) dX2_markStaying_11 rfl ?_
    rcases if_e H with ⟨h_11, H⟩ | ⟨h_11, H⟩
    · refine z_icmp_gt_f (M := M_X2_markStaying) (tgt := 29) dX2_markStaying_12 (by decide) rfl rfl h_11 ?_
      refine z_aload_n (M := M_X2_markStaying) dX2_markStaying_15 rfl ?_
      refine z_getR (M := M_X2_markStaying) (ci := 5) (C := RX2) (T := TX2) (Nf := 17) (ty := tyX2) cl5 dX2_markStaying_16 ly_238 15 (by decide) t_500 rfl ?_
      refine z_iload (M := M_X2_markStaying) dX2_markStaying_19 rfl ?_
      refine z_zconst (M := M_X2_markStaying) (b := false) dX2_markStaying_21 rfl ?_
      obtain ⟨σ_12, σ_12_e, hi_13, H⟩ := wa_e H
      refine z_zast (M := M_X2_markStaying) dX2_markStaying_22 ly_250 rfl rfl rfl hi_13 σ_12_e ?_
      refine z_iinc (M := M_X2_markStaying) (lv' := [some (vr 238), some (vr shape_0), some (vi first_0), some (vi last_0), some (vi distance_0), some (vi (i_2 + 1)), none, none, none, none]) dX2_markStaying_23 rfl (Nat.le_of_ble_eq_true rfl) rfl rfl ?_
      refine z_goto (M := M_X2_markStaying) (tgt := 9) dX2_markStaying_26 (by decide) ?_
      exact K_9 _ (Option.some.inj H).symm
    · refine z_icmp_gt_t (M := M_X2_markStaying) (tgt := 29) dX2_markStaying_12 (by decide) rfl rfl (Int.not_le.mp h_11) ?_
      exact J_70 _ _ (K_10 _ (Option.some.inj H).symm).symm
theorem c_X2_thinRow (hl : l.stackTraces = false) {σ : SG} {shape_0 : Nat} {into_0 : Nat} {from_0 : Int} {length_0 : Int} {distance_0 : Int} {r : Int} {σ' : SG} (h_shape : isS shape_0) (h_into : isS into_0) (H : fP_thinRow σ shape_0 into_0 from_0 length_0 distance_0 = some (r, σ')) : en_S l E M_X2_thinRow 6 0 0 [vr 238, vr shape_0, vr into_0, vi from_0, vi length_0, vi distance_0] σ (pS (some (vi r)) σ') := by
  unfold fP_thinRow at H
  refine z_mk (lv := [some (vr 238), some (vr shape_0), some (vr into_0), some (vi from_0), some (vi length_0), some (vi distance_0), none, none]) m_X2_thinRow rfl hl (Nat.le_of_ble_eq_true rfl) rfl ?_
  refine z_aload_n (M := M_X2_thinRow) dX2_thinRow_0 rfl ?_
  refine z_getI (M := M_X2_thinRow) (ci := 9) (C := RX6) (T := TX6) (Nf := 5) (ty := tyX6) cl9 dX2_thinRow_1 (ly_S h_into) 4 (by decide) t_82 rfl rfl ?_
  refine z_istore (M := M_X2_thinRow) (lv' := [some (vr 238), some (vr shape_0), some (vr into_0), some (vi from_0), some (vi length_0), some (vi distance_0), some (vi (σ (kA_points into_0) 0)), none]) dX2_thinRow_4 (Nat.le_of_ble_eq_true rfl) rfl rfl ?_
  refine z_aload_n (M := M_X2_thinRow) dX2_thinRow_6 rfl ?_
  refine z_aload_n (M := M_X2_thinRow) dX2_thinRow_7 rfl ?_
  refine z_iload_n (M := M_X2_thinRow) dX2_thinRow_8 rfl ?_
  refine z_iload_n (M := M_X2_thinRow) dX2_thinRow_9 rfl ?_
  refine z_iload (M := M_X2_thinRow) dX2_thinRow_10 rfl ?_
  refine z_iadd (M := M_X2_thinRow) dX2_thinRow_12 ?_
  refine z_iconst (M := M_X2_thinRow) dX2_thinRow_13 ?_
  refine z_isub (M := M_X2_thinRow) dX2_thinRow_14 ?_
  refine z_iload (M := M_X2_thinRow) dX2_thinRow_15 rfl ?_
  obtain ⟨σ_2, hc_1, H⟩ := bd_e H
  refine z_callV (M := M_X2_thinRow) (M' := M_X2_markStaying) (as := [vr shape_0, vi from_0, vi ((from_0 + length_0) - 1), vi distance_0]) (rest := []) rfl rfl dX2_thinRow_17 m_X2_markStaying t_2202 t_2204 s_143 (c_X2_markStaying hl h_shape hc_1) rfl rfl ly_238 rfl (Nat.le_of_ble_eq_true rfl) (Nat.le_of_ble_eq_true rfl) (Nat.le_of_ble_eq_true rfl) (Nat.le_of_ble_eq_true rfl) ?_
  refine z_st (st' := []) rfl ?_
  refine z_iload_n (M := M_X2_thinRow) dX2_thinRow_20 rfl ?_
  refine z_istore (M := M_X2_thinRow) (lv' := [some (vr 238), some (vr shape_0), some (vr into_0), some (vi from_0), some (vi length_0), some (vi distance_0), some (vi (σ (kA_points into_0) 0)), some (vi from_0)]) dX2_thinRow_21 (Nat.le_of_ble_eq_true rfl) rfl rfl ?_
  obtain ⟨rl_8, hw_5, hk_6⟩ := bd_e H
  have J_35 : ∀ i_33 σ_34, rl_8 = (i_33, σ_34) → YY l E M_X2_thinRow 6 0 0 (pS (some (vi r)) σ') 67 [some (vr 238), some (vr shape_0), some (vr into_0), some (vi from_0), some (vi length_0), some (vi distance_0), some (vi (σ (kA_points into_0) 0)), some (vi i_33)] [] σ_34 0 0 := by
    intro i_33 σ_34 e
    have H := hk_6
    rw [e] at H
    refine z_aload_n (M := M_X2_thinRow) dX2_thinRow_67 rfl ?_
    refine z_getI (M := M_X2_thinRow) (ci := 9) (C := RX6) (T := TX6) (Nf := 5) (ty := tyX6) cl9 dX2_thinRow_68 (ly_S h_into) 4 (by decide) t_82 rfl rfl ?_
    refine z_iload (M := M_X2_thinRow) dX2_thinRow_71 rfl ?_
    refine z_isub (M := M_X2_thinRow) dX2_thinRow_73 ?_
    cases H
    exact z_iret (M := M_X2_thinRow) dX2_thinRow_74 rfl (Nat.le_of_ble_eq_true rfl) (Nat.le_of_ble_eq_true rfl) ⟨rfl, rfl⟩
  refine whl_go hw_5 (fun (i_3, σ_4) => YY l E M_X2_thinRow 6 0 0 (pS (some (vi r)) σ') 23 [some (vr 238), some (vr shape_0), some (vr into_0), some (vi from_0), some (vi length_0), some (vi distance_0), some (vi (σ (kA_points into_0) 0)), some (vi i_3)] [] σ_4 0 0) ?_
  rintro ⟨i_3, σ_4⟩ o_9 H K_10 K_11
  refine z_iload (M := M_X2_thinRow) dX2_thinRow_23 rfl ?_
  refine z_iload_n (M := M_X2_thinRow) dX2_thinRow_25 rfl ?_
  refine z_iload (M := M_X2_thinRow) dX2_thinRow_26 rfl ?_
  refine z_iadd (M := M_X2_thinRow) dX2_thinRow_28 ?_
  rcases if_e H with ⟨h_12, H⟩ | ⟨h_12, H⟩
  · refine z_icmp_ge_f (M := M_X2_thinRow) (tgt := 67) dX2_thinRow_29 (by decide) rfl rfl h_12 ?_
    obtain ⟨v_16, he_13, hk_14⟩ := bd_e H
    have J_31 : ∀ σ_29, v_16 = σ_29 → YY l E M_X2_thinRow 6 0 0 (pS (some (vi r)) σ') 61 [some (vr 238), some (vr shape_0), some (vr into_0), some (vi from_0), some (vi length_0), some (vi distance_0), some (vi (σ (kA_points into_0) 0)), some (vi i_3)] [] σ_29 0 0 := by
      intro σ_29 e
      have H := hk_14
      rw [e] at H
      refine z_iinc (M := M_X2_thinRow) (lv' := [some (vr 238), some (vr shape_0), some (vr into_0), some (vi from_0), some (vi length_0), some (vi distance_0), some (vi (σ (kA_points into_0) 0)), some (vi (i_3 + 1))]) dX2_thinRow_61 rfl (Nat.le_of_ble_eq_true rfl) rfl rfl ?_
      refine z_goto (M := M_X2_thinRow) (tgt := 23) dX2_thinRow_64 (by decide) ?_
      exact K_10 _ (Option.some.inj H).symm
    have H := he_13
    refine z_aload_n (M := M_X2_thinRow) dX2_thinRow_32 rfl ?_
    refine z_getR (M := M_X2_thinRow) (ci := 5) (C := RX2) (T := TX2) (Nf := 17) (ty := tyX2) cl5 dX2_thinRow_33 ly_238 15 (by decide) t_500 rfl ?_
    refine z_iload (M := M_X2_thinRow) dX2_thinRow_36 rfl ?_
    obtain ⟨x_17, x_17_e, hi_18, H⟩ := rd_e H
    refine z_zald (M := M_X2_thinRow) dX2_thinRow_38 ly_250 rfl rfl rfl hi_18 x_17_e ?_
    rcases if_e H with ⟨h_19, H⟩ | ⟨h_19, H⟩
    · refine z_zeq_f (M := M_X2_thinRow) (tgt := 61) dX2_thinRow_39 (by decide) h_19 ?_
      refine z_aload_n (M := M_X2_thinRow) dX2_thinRow_42 rfl ?_
      refine z_aload_n (M := M_X2_thinRow) dX2_thinRow_43 rfl ?_
      refine z_getR (M := M_X2_thinRow) (ci := 9) (C := RX6) (T := TX6) (Nf := 5) (ty := tyX6) cl9 dX2_thinRow_44 (ly_S h_shape) 1 (by decide) t_59 rfl ?_
      refine z_iload (M := M_X2_thinRow) dX2_thinRow_47 rfl ?_
      obtain ⟨x_20, x_20_e, hi_21, H⟩ := rd_e H
      refine z_iald (M := M_X2_thinRow) dX2_thinRow_49 (ly_Sx h_shape) rfl rfl rfl hi_21 x_20_e ?_
      refine z_aload_n (M := M_X2_thinRow) dX2_thinRow_50 rfl ?_
      refine z_getR (M := M_X2_thinRow) (ci := 9) (C := RX6) (T := TX6) (Nf := 5) (ty := tyX6) cl9 dX2_thinRow_51 (ly_S h_shape) 2 (by decide) t_66 rfl ?_
      refine z_iload (M := M_X2_thinRow) dX2_thinRow_54 rfl ?_
      obtain ⟨x_22, x_22_e, hi_23, H⟩ := rd_e H
      refine z_iald (M := M_X2_thinRow) dX2_thinRow_56 (ly_Sy h_shape) rfl rfl rfl hi_23 x_22_e ?_
      obtain ⟨⟨x_26, σ_25⟩, hc_24, H⟩ := bd_e H
      refine z_callV (M := M_X2_thinRow) (M' := M_X6_addPoint) (as := [vi x_20, vi x_22]) (rest := []) rfl rfl dX2_thinRow_57 m_X6_addPoint t_2121 t_938 t_939 (c_X6_addPoint hl h_into hc_24) rfl rfl (ly_S h_into) rfl (Nat.le_of_ble_eq_true rfl) (Nat.le_of_ble_eq_true rfl) (Nat.le_of_ble_eq_true rfl) (Nat.le_of_ble_eq_true rfl) ?_
      refine z_st (st' := [zv x_26]) rfl ?_
      refine z_pop (M := M_X2_thinRow) dX2_thinRow_60 rfl ?_
      exact J_31 _ (Option.some.inj H).symm
    · refine z_zeq_t (M := M_X2_thinRow) (tgt := 61) dX2_thinRow_39 (by decide) h_19 ?_
      exact J_31 _ (Option.some.inj H).symm
  · refine z_icmp_ge_t (M := M_X2_thinRow) (tgt := 67) dX2_thinRow_29 (by decide) rfl rfl (Int.not_lt.mp h_12) ?_
    exact J_35 _ _ (K_11 _ (Option.some.inj H).symm).symm
theorem c_X2_thin (hl : l.stackTraces = false) {σ : SG} {shape_0 : Nat} {into_0 : Nat} {distance_0 : Int} {r : Int} {σ' : SG} (h_shape : isS shape_0) (h_into : isS into_0) (H : fP_thin σ shape_0 into_0 distance_0 = some (r, σ')) : en_S l E M_X2_thin 7 0 0 [vr 238, vr shape_0, vr into_0, vi distance_0] σ (pS (some (vi r)) σ') := by
  unfold fP_thin at H
  refine z_mk (lv := [some (vr 238), some (vr shape_0), some (vr into_0), some (vi distance_0), none, none, none, none, none]) m_X2_thin rfl hl (Nat.le_of_ble_eq_true rfl) rfl ?_
  refine z_aload_n (M := M_X2_thin) dX2_thin_0 rfl ?_
  obtain ⟨σ_2, hc_1, H⟩ := bd_e H
  refine z_callV (M := M_X2_thin) (M' := M_X6_clear) (as := []) (rest := []) rfl rfl dX2_thin_1 m_X6_clear t_2118 t_768 t_769 (c_X6_clear hl h_into hc_1) rfl rfl (ly_S h_into) rfl (Nat.le_of_ble_eq_true rfl) (Nat.le_of_ble_eq_true rfl) (Nat.le_of_ble_eq_true rfl) (Nat.le_of_ble_eq_true rfl) ?_
  refine z_st (st' := []) rfl ?_
  refine z_iconst (M := M_X2_thin) dX2_thin_4 ?_
  refine z_istore (M := M_X2_thin) (lv' := [some (vr 238), some (vr shape_0), some (vr into_0), some (vi distance_0), some (vi 0), none, none, none, none]) dX2_thin_5 (Nat.le_of_ble_eq_true rfl) rfl rfl ?_
  refine z_iconst (M := M_X2_thin) dX2_thin_7 ?_
  refine z_istore (M := M_X2_thin) (lv' := [some (vr 238), some (vr shape_0), some (vr into_0), some (vi distance_0), some (vi 0), some (vi 0), none, none, none]) dX2_thin_8 (Nat.le_of_ble_eq_true rfl) rfl rfl ?_
  obtain ⟨rl_9, hw_6, hk_7⟩ := bd_e H
  have J_68 : ∀ from_65 at_66 σ_67, rl_9 = (from_65, at_66, σ_67) → YY l E M_X2_thin 7 0 0 (pS (some (vi r)) σ') 137 [some (vr 238), some (vr shape_0), some (vr into_0), some (vi distance_0), some (vi from_65), some (vi at_66), none, none, none] [] σ_67 0 0 := by
    intro from_65 at_66 σ_67 e
    have H := hk_7
    rw [e] at H
    refine z_aload_n (M := M_X2_thin) dX2_thin_137 rfl ?_
    refine z_getI (M := M_X2_thin) (ci := 9) (C := RX6) (T := TX6) (Nf := 5) (ty := tyX6) cl9 dX2_thin_138 (ly_S h_shape) 4 (by decide) t_82 rfl rfl ?_
    refine z_aload_n (M := M_X2_thin) dX2_thin_141 rfl ?_
    refine z_getI (M := M_X2_thin) (ci := 9) (C := RX6) (T := TX6) (Nf := 5) (ty := tyX6) cl9 dX2_thin_142 (ly_S h_into) 4 (by decide) t_82 rfl rfl ?_
    refine z_isub (M := M_X2_thin) dX2_thin_145 ?_
    cases H
    exact z_iret (M := M_X2_thin) dX2_thin_146 rfl (Nat.le_of_ble_eq_true rfl) (Nat.le_of_ble_eq_true rfl) ⟨rfl, rfl⟩
  refine whl_go hw_6 (fun (from_3, at_4, σ_5) => YY l E M_X2_thin 7 0 0 (pS (some (vi r)) σ') 10 [some (vr 238), some (vr shape_0), some (vr into_0), some (vi distance_0), some (vi from_3), some (vi at_4), none, none, none] [] σ_5 0 0) ?_
  rintro ⟨from_3, at_4, σ_5⟩ o_10 H K_11 K_12
  refine z_iload (M := M_X2_thin) dX2_thin_10 rfl ?_
  refine z_iconst (M := M_X2_thin) dX2_thin_12 ?_
  refine z_iadd (M := M_X2_thin) dX2_thin_13 ?_
  refine z_aload_n (M := M_X2_thin) dX2_thin_14 rfl ?_
  refine z_getI (M := M_X2_thin) (ci := 9) (C := RX6) (T := TX6) (Nf := 5) (ty := tyX6) cl9 dX2_thin_15 (ly_S h_shape) 3 (by decide) t_80 rfl rfl ?_
  rcases if_e H with ⟨h_13, H⟩ | ⟨h_13, H⟩
  · refine z_icmp_ge_f (M := M_X2_thin) (tgt := 137) dX2_thin_18 (by decide) rfl rfl h_13 ?_
    refine z_aload_n (M := M_X2_thin) dX2_thin_21 rfl ?_
    refine z_aload_n (M := M_X2_thin) dX2_thin_22 rfl ?_
    refine z_getR (M := M_X2_thin) (ci := 9) (C := RX6) (T := TX6) (Nf := 5) (ty := tyX6) cl9 dX2_thin_23 (ly_S h_shape) 0 (by decide) t_56 rfl ?_
    refine z_iload (M := M_X2_thin) dX2_thin_26 rfl ?_
    obtain ⟨x_14, x_14_e, hi_15, H⟩ := rd_e H
    refine z_iald (M := M_X2_thin) dX2_thin_28 (ly_Sp h_shape) rfl rfl rfl hi_15 x_14_e ?_
    refine z_aload_n (M := M_X2_thin) dX2_thin_29 rfl ?_
    refine z_getR (M := M_X2_thin) (ci := 9) (C := RX6) (T := TX6) (Nf := 5) (ty := tyX6) cl9 dX2_thin_30 (ly_S h_shape) 0 (by decide) t_56 rfl ?_
    refine z_iload (M := M_X2_thin) dX2_thin_33 rfl ?_
    refine z_iconst (M := M_X2_thin) dX2_thin_35 ?_
    refine z_iadd (M := M_X2_thin) dX2_thin_36 ?_
    obtain ⟨x_16, x_16_e, hi_17, H⟩ := rd_e H
    refine z_iald (M := M_X2_thin) dX2_thin_37 (ly_Sp h_shape) rfl rfl rfl hi_17 x_16_e ?_
    obtain ⟨⟨x_20, σ_19⟩, hc_18, H⟩ := bd_e H
    refine z_callV (M := M_X2_thin) (M' := M_X6_addShape) (as := [vi x_14, vi x_16]) (rest := []) rfl rfl dX2_thin_38 m_X6_addShape t_2119 t_872 t_873 (c_X6_addShape hl h_into hc_18) rfl rfl (ly_S h_into) rfl (Nat.le_of_ble_eq_true rfl) (Nat.le_of_ble_eq_true rfl) (Nat.le_of_ble_eq_true rfl) (Nat.le_of_ble_eq_true rfl) ?_
    refine z_st (st' := [zv x_20]) rfl ?_
    refine z_pop (M := M_X2_thin) dX2_thin_41 rfl ?_
    refine z_iconst (M := M_X2_thin) dX2_thin_42 ?_
    refine z_istore (M := M_X2_thin) (lv' := [some (vr 238), some (vr shape_0), some (vr into_0), some (vi distance_0), some (vi from_3), some (vi at_4), some (vi 0), none, none]) dX2_thin_43 (Nat.le_of_ble_eq_true rfl) rfl rfl ?_
    obtain ⟨rl_27, hw_24, hk_25⟩ := bd_e H
    have J_63 : ∀ from_57 row_58 σ_59, rl_27 = (from_57, row_58, σ_59) → YY l E M_X2_thin 7 0 0 (pS (some (vi r)) σ') 126 [some (vr 238), some (vr shape_0), some (vr into_0), some (vi distance_0), some (vi from_57), some (vi at_4), some (vi row_58), none, none] [] σ_59 0 0 := by
      intro from_57 row_58 σ_59 e
      have H := hk_25
      rw [e] at H
      refine z_aload_n (M := M_X2_thin) dX2_thin_126 rfl ?_
      refine z_iload (M := M_X2_thin) dX2_thin_127 rfl ?_
      obtain ⟨x_61, hc_60, H⟩ := bd_e H
      refine z_callV (M := M_X2_thin) (M' := M_X6_behind) (as := [vi at_4]) (rest := []) rfl rfl dX2_thin_129 m_X6_behind t_2216 t_1107 t_1108 (c_X6_behind hl h_shape hc_60) rfl rfl (ly_S h_shape) rfl (Nat.le_of_ble_eq_true rfl) (Nat.le_of_ble_eq_true rfl) (Nat.le_of_ble_eq_true rfl) (Nat.le_of_ble_eq_true rfl) ?_
      refine z_st (st' := [vi x_61]) rfl ?_
      refine z_istore (M := M_X2_thin) (lv' := [some (vr 238), some (vr shape_0), some (vr into_0), some (vi distance_0), some (vi from_57), some (vi x_61), some (vi row_58), none, none]) dX2_thin_132 (Nat.le_of_ble_eq_true rfl) rfl rfl ?_
      refine z_goto (M := M_X2_thin) (tgt := 10) dX2_thin_134 (by decide) ?_
      refine z_le (lv' := [some (vr 238), some (vr shape_0), some (vr into_0), some (vi distance_0), some (vi from_57), some (vi x_61), none, none, none]) ⟨Or.inr rfl, Or.inr rfl, Or.inr rfl, Or.inr rfl, Or.inr rfl, Or.inr rfl, Or.inl rfl, Or.inl rfl, Or.inl rfl, trivial⟩ ?_
      exact K_11 _ (Option.some.inj H).symm
    refine whl_go hw_24 (fun (from_21, row_22, σ_23) => YY l E M_X2_thin 7 0 0 (pS (some (vi r)) σ') 45 [some (vr 238), some (vr shape_0), some (vr into_0), some (vi distance_0), some (vi from_21), some (vi at_4), some (vi row_22), none, none] [] σ_23 0 0) ?_
    rintro ⟨from_21, row_22, σ_23⟩ o_28 H K_29 K_30
    refine z_iload (M := M_X2_thin) dX2_thin_45 rfl ?_
    refine z_aload_n (M := M_X2_thin) dX2_thin_47 rfl ?_
    refine z_iload (M := M_X2_thin) dX2_thin_48 rfl ?_
    obtain ⟨x_32, hc_31, H⟩ := bd_e H
    refine z_callV (M := M_X2_thin) (M' := M_X6_rows) (as := [vi at_4]) (rest := [vi row_22]) rfl rfl dX2_thin_50 m_X6_rows t_2196 t_1075 t_1076 (c_X6_rows hl h_shape hc_31) rfl rfl (ly_S h_shape) rfl (Nat.le_of_ble_eq_true rfl) (Nat.le_of_ble_eq_true rfl) (Nat.le_of_ble_eq_true rfl) (Nat.le_of_ble_eq_true rfl) ?_
    refine z_st (st' := [vi x_32, vi row_22]) rfl ?_
    rcases if_e H with ⟨h_33, H⟩ | ⟨h_33, H⟩
    · refine z_icmp_ge_f (M := M_X2_thin) (tgt := 126) dX2_thin_53 (by decide) rfl rfl h_33 ?_
      refine z_aload_n (M := M_X2_thin) dX2_thin_56 rfl ?_
      refine z_iload (M := M_X2_thin) dX2_thin_57 rfl ?_
      refine z_iload (M := M_X2_thin) dX2_thin_59 rfl ?_
      obtain ⟨x_35, hc_34, H⟩ := bd_e H
      refine z_callV (M := M_X2_thin) (M' := M_X6_rowLength) (as := [vi at_4, vi row_22]) (rest := []) rfl rfl dX2_thin_61 m_X6_rowLength t_2197 t_1080 t_1081 (c_X6_rowLength hl h_shape hc_34) rfl rfl (ly_S h_shape) rfl (Nat.le_of_ble_eq_true rfl) (Nat.le_of_ble_eq_true rfl) (Nat.le_of_ble_eq_true rfl) (Nat.le_of_ble_eq_true rfl) ?_
      refine z_st (st' := [vi x_35]) rfl ?_
      refine z_istore (M := M_X2_thin) (lv' := [some (vr 238), some (vr shape_0), some (vr into_0), some (vi distance_0), some (vi from_21), some (vi at_4), some (vi row_22), some (vi x_35), none]) dX2_thin_64 (Nat.le_of_ble_eq_true rfl) rfl rfl ?_
      refine z_aload_n (M := M_X2_thin) dX2_thin_66 rfl ?_
      refine z_aload_n (M := M_X2_thin) dX2_thin_67 rfl ?_
      refine z_aload_n (M := M_X2_thin) dX2_thin_68 rfl ?_
      refine z_iload (M := M_X2_thin) dX2_thin_69 rfl ?_
      refine z_iload (M := M_X2_thin) dX2_thin_71 rfl ?_
      refine z_iload_n (M := M_X2_thin) dX2_thin_73 rfl ?_
      obtain ⟨⟨x_38, σ_37⟩, hc_36, H⟩ := bd_e H
      refine z_callV (M := M_X2_thin) (M' := M_X2_thinRow) (as := [vr shape_0, vr into_0, vi from_21, vi x_35, vi distance_0]) (rest := []) rfl rfl dX2_thin_74 m_X2_thinRow t_2198 t_2200 s_142 (c_X2_thinRow hl h_shape h_into hc_36) rfl rfl ly_238 rfl (Nat.le_of_ble_eq_true rfl) (Nat.le_of_ble_eq_true rfl) (Nat.le_of_ble_eq_true rfl) (Nat.le_of_ble_eq_true rfl) ?_
      refine z_st (st' := [vi x_38]) rfl ?_
      refine z_istore (M := M_X2_thin) (lv' := [some (vr 238), some (vr shape_0), some (vr into_0), some (vi distance_0), some (vi from_21), some (vi at_4), some (vi row_22), some (vi x_35), some (vi x_38)]) dX2_thin_77 (Nat.le_of_ble_eq_true rfl) rfl rfl ?_
      obtain ⟨v_42, he_39, hk_40⟩ := bd_e H
      have J_55 : ∀ σ_53, v_42 = σ_53 → YY l E M_X2_thin 7 0 0 (pS (some (vi r)) σ') 113 [some (vr 238), some (vr shape_0), some (vr into_0), some (vi distance_0), some (vi from_21), some (vi at_4), some (vi row_22), some (vi x_35), some (vi x_38)] [] σ_53 0 0 := by
        intro σ_53 e
        have H := hk_40
        rw [e] at H
        refine z_iload (M := M_X2_thin) dX2_thin_113 rfl ?_
        refine z_iload (M := M_X2_thin) dX2_thin_115 rfl ?_
        refine z_iadd (M := M_X2_thin) dX2_thin_117 ?_
        refine z_istore (M := M_X2_thin) (lv' := [some (vr 238), some (vr shape_0), some (vr into_0), some (vi distance_0), some (vi (from_21 + x_35)), some (vi at_4), some (vi row_22), some (vi x_35), some (vi x_38)]) dX2_thin_118 (Nat.le_of_ble_eq_true rfl) rfl rfl ?_
        refine z_iinc (M := M_X2_thin) (lv' := [some (vr 238), some (vr shape_0), some (vr into_0), some (vi distance_0), some (vi (from_21 + x_35)), some (vi at_4), some (vi (row_22 + 1)), some (vi x_35), some (vi x_38)]) dX2_thin_120 rfl (Nat.le_of_ble_eq_true rfl) rfl rfl ?_
        refine z_goto (M := M_X2_thin) (tgt := 45) dX2_thin_123 (by decide) ?_
        refine z_le (lv' := [some (vr 238), some (vr shape_0), some (vr into_0), some (vi distance_0), some (vi (from_21 + x_35)), some (vi at_4), some (vi (row_22 + 1)), none, none]) ⟨Or.inr rfl, Or.inr rfl, Or.inr rfl, Or.inr rfl, Or.inr rfl, Or.inr rfl, Or.inr rfl, Or.inl rfl, Or.inl rfl, trivial⟩ ?_
        exact K_29 _ (Option.some.inj H).symm
      have H := he_39
      refine z_aload_n (M := M_X2_thin) dX2_thin_79 rfl ?_
      refine z_getR (M := M_X2_thin) (ci := 9) (C := RX6) (T := TX6) (Nf := 5) (ty := tyX6) cl9 dX2_thin_80 (ly_S h_shape) 0 (by decide) t_56 rfl ?_
      refine z_iload (M := M_X2_thin) dX2_thin_83 rfl ?_
      obtain ⟨x_43, x_43_e, hi_44, H⟩ := rd_e H
      refine z_iald (M := M_X2_thin) dX2_thin_85 (ly_Sp h_shape) rfl rfl rfl hi_44 x_43_e ?_
      refine z_iconst (M := M_X2_thin) dX2_thin_86 ?_
      rcases if_e H with ⟨h_45, H⟩ | ⟨h_45, H⟩
      · refine z_icmp_ne_f (M := M_X2_thin) (tgt := 100) dX2_thin_87 (by decide) rfl (by decide +kernel) h_45 ?_
        refine z_aload_n (M := M_X2_thin) dX2_thin_90 rfl ?_
        refine z_iload (M := M_X2_thin) dX2_thin_91 rfl ?_
        obtain ⟨⟨x_48, σ_47⟩, hc_46, H⟩ := bd_e H
        refine z_callV (M := M_X2_thin) (M' := M_X6_addRing) (as := [vi x_38]) (rest := []) rfl rfl dX2_thin_93 m_X6_addRing t_2120 t_893 t_894 (c_X6_addRing hl h_into hc_46) rfl rfl (ly_S h_into) rfl (Nat.le_of_ble_eq_true rfl) (Nat.le_of_ble_eq_true rfl) (Nat.le_of_ble_eq_true rfl) (Nat.le_of_ble_eq_true rfl) ?_
        refine z_st (st' := [zv x_48]) rfl ?_
        refine z_pop (M := M_X2_thin) dX2_thin_96 rfl ?_
        refine z_goto (M := M_X2_thin) (tgt := 113) dX2_thin_97 (by decide) ?_
        exact J_55 _ (Option.some.inj H).symm
      · refine z_icmp_ne_t (M := M_X2_thin) (tgt := 100) dX2_thin_87 (by decide) rfl (by decide +kernel) h_45 ?_
        refine z_aload_n (M := M_X2_thin) dX2_thin_100 rfl ?_
        refine z_getR (M := M_X2_thin) (ci := 9) (C := RX6) (T := TX6) (Nf := 5) (ty := tyX6) cl9 dX2_thin_101 (ly_S h_into) 0 (by decide) t_56 rfl ?_
        refine z_aload_n (M := M_X2_thin) dX2_thin_104 rfl ?_
        refine z_getI (M := M_X2_thin) (ci := 9) (C := RX6) (T := TX6) (Nf := 5) (ty := tyX6) cl9 dX2_thin_105 (ly_S h_into) 3 (by decide) t_80 rfl rfl ?_
        refine z_iconst (M := M_X2_thin) dX2_thin_108 ?_
        refine z_isub (M := M_X2_thin) dX2_thin_109 ?_
        refine z_iload (M := M_X2_thin) dX2_thin_110 rfl ?_
        obtain ⟨σ_50, σ_50_e, hi_51, H⟩ := wa_e H
        refine z_iast (M := M_X2_thin) dX2_thin_112 (ly_Sp h_into) rfl rfl rfl hi_51 σ_50_e ?_
        exact J_55 _ (Option.some.inj H).symm
    · refine z_icmp_ge_t (M := M_X2_thin) (tgt := 126) dX2_thin_53 (by decide) rfl rfl (Int.not_lt.mp h_33) ?_
      exact J_63 _ _ _ (K_30 _ (Option.some.inj H).symm).symm
  · refine z_icmp_ge_t (M := M_X2_thin) (tgt := 137) dX2_thin_18 (by decide) rfl rfl (Int.not_lt.mp h_13) ?_
    exact J_68 _ _ _ (K_12 _ (Option.some.inj H).symm).symm
theorem c_X11_simplify (hl : l.stackTraces = false) {σ : SG} {slot_0 : Int} {to_0 : Int} {distance_0 : Int} {r : Int ⊕ Nat} {σ' : SG}  (H : fQ_simplify σ slot_0 to_0 distance_0 = some (r, σ')) : en_S l E M_X11_simplify 8 4 24 [vr 32, vi slot_0, vi to_0, vi distance_0] σ (pT (riT r) σ') := by
  unfold fQ_simplify at H
  refine z_mk (lv := [some (vr 32), some (vi slot_0), some (vi to_0), some (vi distance_0), none, none, none]) m_X11_simplify rfl hl (Nat.le_of_ble_eq_true rfl) rfl ?_
  refine z_aload_n (M := M_X11_simplify) dX11_simplify_0 rfl ?_
  refine z_iload_n (M := M_X11_simplify) dX11_simplify_1 rfl ?_
  obtain ⟨z_32, σ_2, hc_1, K_4, K_5⟩ := bt_e H
  rcases z_32 with x_3 | z_32
  · have H := K_4 _ rfl
    refine z_callV (M := M_X11_simplify) (M' := M_X11_slotNumbered) (as := [vi slot_0]) (rest := []) rfl rfl dX11_simplify_2 m_X11_slotNumbered t_744 t_746 s_2 (v := some (vr x_3)) (c_X11_slotNumbered hl  hc_1) rfl rfl ly_32 rfl (Nat.le_of_ble_eq_true rfl) (Nat.le_of_ble_eq_true rfl) (Nat.le_of_ble_eq_true rfl) (Nat.le_of_ble_eq_true rfl) ?_
    refine z_st (st' := [vr x_3]) rfl ?_
    obtain ⟨hs_6, H⟩ := ck_e H
    refine z_astore (M := M_X11_simplify) (lv' := [some (vr 32), some (vi slot_0), some (vi to_0), some (vi distance_0), some (vr x_3), none, none]) dX11_simplify_5 (Nat.le_of_ble_eq_true rfl) rfl rfl ?_
    refine z_aload_n (M := M_X11_simplify) dX11_simplify_7 rfl ?_
    refine z_iload_n (M := M_X11_simplify) dX11_simplify_8 rfl ?_
    obtain ⟨z_31, σ_8, hc_7, K_10, K_11⟩ := bt_e H
    rcases z_31 with x_9 | z_31
    · have H := K_10 _ rfl
      refine z_callV (M := M_X11_simplify) (M' := M_X11_slotNumbered) (as := [vi to_0]) (rest := []) rfl rfl dX11_simplify_9 m_X11_slotNumbered t_744 t_746 s_2 (v := some (vr x_9)) (c_X11_slotNumbered hl  hc_7) rfl rfl ly_32 rfl (Nat.le_of_ble_eq_true rfl) (Nat.le_of_ble_eq_true rfl) (Nat.le_of_ble_eq_true rfl) (Nat.le_of_ble_eq_true rfl) ?_
      refine z_st (st' := [vr x_9]) rfl ?_
      obtain ⟨hs_12, H⟩ := ck_e H
      refine z_astore (M := M_X11_simplify) (lv' := [some (vr 32), some (vi slot_0), some (vi to_0), some (vi distance_0), some (vr x_3), some (vr x_9), none]) dX11_simplify_12 (Nat.le_of_ble_eq_true rfl) rfl rfl ?_
      refine z_aload (M := M_X11_simplify) dX11_simplify_14 rfl ?_
      obtain ⟨z_30, σ_14, hc_13, K_16, K_17⟩ := bt_e H
      rcases z_30 with x_15 | z_30
      · have H := K_16 _ rfl
        refine z_callS (M := M_X11_simplify) (M' := M_X11_mustBeThere) (as := [vr x_3]) (rest := []) rfl rfl dX11_simplify_16 m_X11_mustBeThere t_1047 t_1048 (v := none) (c_X11_mustBeThere hl hs_6 hc_13) rfl rfl (Nat.le_of_ble_eq_true rfl) (Nat.le_of_ble_eq_true rfl) (Nat.le_of_ble_eq_true rfl) (Nat.le_of_ble_eq_true rfl) ?_
        refine z_st (st' := []) rfl ?_
        rcases if_e H with ⟨h_23, H⟩ | ⟨h_23, H⟩
        · have J_24 : YY l E M_X11_simplify 8 4 24 (pT (riT r) σ') 30 [some (vr 32), some (vi slot_0), some (vi to_0), some (vi distance_0), some (vr x_3), some (vr x_9), none] [] σ_14 3 18 := by
            cases H
            exact z_throw (M := M_X11_simplify) (names := en_nm) rfl dX11_simplify_30 dX11_simplify_33 dX11_simplify_34 dX11_simplify_37 (by decide +kernel) en_nm_ok (Or.inl t_721) (Or.inl t_19) at_X11_IllegalArgumentException_118 (Nat.le_of_ble_eq_true rfl) (Nat.le_of_ble_eq_true rfl) (Nat.le_of_ble_eq_true rfl) (Nat.le_of_ble_eq_true rfl) ⟨rfl, rfl⟩
          refine z_iload_n (M := M_X11_simplify) dX11_simplify_19 rfl ?_
          by_cases h_26 : (w32 distance_0) < 0
          · refine z_if_lt_t (M := M_X11_simplify) (tgt := 30) dX11_simplify_20 (by decide) rfl h_26 ?_
            exact J_24
          · refine z_if_lt_f (M := M_X11_simplify) (tgt := 30) dX11_simplify_20 (by decide) rfl (Int.not_lt.mp h_26) ?_
            refine z_iload_n (M := M_X11_simplify) dX11_simplify_23 rfl ?_
            refine z_ldcw (M := M_X11_simplify) (n := 1000000000) dX11_simplify_24 t_2191 (by decide +kernel) ?_
            by_cases h_27 : 1000000000 < (w32 distance_0)
            · refine z_icmp_le_f (M := M_X11_simplify) (tgt := 38) dX11_simplify_27 (by decide) rfl (by decide +kernel) h_27 ?_
              exact J_24
            · refine z_icmp_le_t (M := M_X11_simplify) (tgt := 38) dX11_simplify_27 (by decide) rfl (by decide +kernel) (Int.not_lt.mp h_27) ?_
              exact absurd h_23 (fun q => q.elim h_26 h_27)
        · have J_25 : YY l E M_X11_simplify 8 4 24 (pT (riT r) σ') 38 [some (vr 32), some (vi slot_0), some (vi to_0), some (vi distance_0), some (vr x_3), some (vr x_9), none] [] σ_14 3 18 := by
            refine z_aload_n (M := M_X11_simplify) dX11_simplify_38 rfl ?_
            refine z_getR (M := M_X11_simplify) (ci := 14) (C := RX11) (T := TX11) (Nf := 19) (ty := tyX11) cl14 dX11_simplify_39 ly_32 13 (by decide) t_576 rfl ?_
            refine z_aload (M := M_X11_simplify) dX11_simplify_42 rfl ?_
            refine z_aload_n (M := M_X11_simplify) dX11_simplify_44 rfl ?_
            refine z_getR (M := M_X11_simplify) (ci := 14) (C := RX11) (T := TX11) (Nf := 19) (ty := tyX11) cl14 dX11_simplify_45 ly_32 1 (by decide) t_564 rfl ?_
            refine z_iload_n (M := M_X11_simplify) dX11_simplify_48 rfl ?_
            obtain ⟨⟨x_20, σ_19⟩, hc_18, H⟩ := bd_e H
            refine z_callV (M := M_X11_simplify) (M' := M_X2_thin) (as := [vr x_3, vr 162, vi distance_0]) (rest := []) rfl rfl dX11_simplify_49 m_X2_thin t_2192 t_2193 t_2194 (c_X2_thin hl hs_6 (by decide) hc_18) rfl rfl ly_238 rfl (Nat.le_of_ble_eq_true rfl) (Nat.le_of_ble_eq_true rfl) (Nat.le_of_ble_eq_true rfl) (Nat.le_of_ble_eq_true rfl) ?_
            refine z_st (st' := [vi x_20]) rfl ?_
            refine z_istore (M := M_X11_simplify) (lv' := [some (vr 32), some (vi slot_0), some (vi to_0), some (vi distance_0), some (vr x_3), some (vr x_9), some (vi x_20)]) dX11_simplify_52 (Nat.le_of_ble_eq_true rfl) rfl rfl ?_
            refine z_aload (M := M_X11_simplify) dX11_simplify_54 rfl ?_
            refine z_aload_n (M := M_X11_simplify) dX11_simplify_56 rfl ?_
            refine z_getR (M := M_X11_simplify) (ci := 14) (C := RX11) (T := TX11) (Nf := 19) (ty := tyX11) cl14 dX11_simplify_57 ly_32 1 (by decide) t_564 rfl ?_
            obtain ⟨σ_22, hc_21, H⟩ := bd_e H
            refine z_callV (M := M_X11_simplify) (M' := M_X6_become) (as := [vr 162]) (rest := []) rfl rfl dX11_simplify_60 m_X6_become t_1150 t_1151 t_1152 (c_X6_become hl hs_12 (by decide) hc_21) rfl rfl (ly_S hs_12) rfl (Nat.le_of_ble_eq_true rfl) (Nat.le_of_ble_eq_true rfl) (Nat.le_of_ble_eq_true rfl) (Nat.le_of_ble_eq_true rfl) ?_
            refine z_st (st' := []) rfl ?_
            refine z_iload (M := M_X11_simplify) dX11_simplify_63 rfl ?_
            cases H
            exact z_iret (M := M_X11_simplify) dX11_simplify_65 rfl (Nat.le_of_ble_eq_true rfl) (Nat.le_of_ble_eq_true rfl) ⟨rfl, rfl⟩
          refine z_iload_n (M := M_X11_simplify) dX11_simplify_19 rfl ?_
          by_cases h_28 : (w32 distance_0) < 0
          · refine z_if_lt_t (M := M_X11_simplify) (tgt := 30) dX11_simplify_20 (by decide) rfl h_28 ?_
            exact absurd (Or.inl h_28) h_23
          · refine z_if_lt_f (M := M_X11_simplify) (tgt := 30) dX11_simplify_20 (by decide) rfl (Int.not_lt.mp h_28) ?_
            refine z_iload_n (M := M_X11_simplify) dX11_simplify_23 rfl ?_
            refine z_ldcw (M := M_X11_simplify) (n := 1000000000) dX11_simplify_24 t_2191 (by decide +kernel) ?_
            by_cases h_29 : 1000000000 < (w32 distance_0)
            · refine z_icmp_le_f (M := M_X11_simplify) (tgt := 38) dX11_simplify_27 (by decide) rfl (by decide +kernel) h_29 ?_
              exact absurd (Or.inr h_29) h_23
            · refine z_icmp_le_t (M := M_X11_simplify) (tgt := 38) dX11_simplify_27 (by decide) rfl (by decide +kernel) (Int.not_lt.mp h_29) ?_
              exact J_25
      · have H := K_17 _ rfl
        cases H
        exact z_callSX (M := M_X11_simplify) (M' := M_X11_mustBeThere) (as := [vr x_3]) (rest := []) rfl rfl dX11_simplify_16 m_X11_mustBeThere t_1047 t_1048 (e := z_30) (c_X11_mustBeThere hl hs_6 hc_13) rfl rfl (Nat.le_of_ble_eq_true rfl) (Nat.le_of_ble_eq_true rfl) (Nat.le_of_ble_eq_true rfl) (Nat.le_of_ble_eq_true rfl) ⟨rfl, rfl⟩
    · have H := K_11 _ rfl
      cases H
      exact z_callVX (M := M_X11_simplify) (M' := M_X11_slotNumbered) (as := [vi to_0]) (rest := []) rfl rfl dX11_simplify_9 m_X11_slotNumbered t_744 t_746 s_2 (e := z_31) (c_X11_slotNumbered hl  hc_7) rfl rfl ly_32 rfl (Nat.le_of_ble_eq_true rfl) (Nat.le_of_ble_eq_true rfl) (Nat.le_of_ble_eq_true rfl) (Nat.le_of_ble_eq_true rfl) ⟨rfl, rfl⟩
  · have H := K_5 _ rfl
    cases H
    exact z_callVX (M := M_X11_simplify) (M' := M_X11_slotNumbered) (as := [vi slot_0]) (rest := []) rfl rfl dX11_simplify_2 m_X11_slotNumbered t_744 t_746 s_2 (e := z_32) (c_X11_slotNumbered hl  hc_1) rfl rfl ly_32 rfl (Nat.le_of_ble_eq_true rfl) (Nat.le_of_ble_eq_true rfl) (Nat.le_of_ble_eq_true rfl) (Nat.le_of_ble_eq_true rfl) ⟨rfl, rfl⟩
theorem c_X6_twiceAround (hl : l.stackTraces = false) {σ : SG} {this_0 : Nat} {from_0 : Int} {length_0 : Int} {r : Int} (h_this : isS this_0) (H : fA_twiceAround σ this_0 from_0 length_0 = some r) : en_S l E M_X6_twiceAround 1 0 0 [vr this_0, vi from_0, vi length_0] σ (pS (some (vl r)) σ) := by
  unfold fA_twiceAround at H
  refine z_mk (lv := [some (vr this_0), some (vi from_0), some (vi length_0), none, none, none, none, none]) m_X6_twiceAround rfl hl (Nat.le_of_ble_eq_true rfl) rfl ?_
  refine z_lconst (M := M_X6_twiceAround) (m := 0) dX6_twiceAround_0 (by decide +kernel) ?_
  refine z_lstore_n (M := M_X6_twiceAround) (lv' := [some (vr this_0), some (vi from_0), some (vi length_0), some (vl 0), none, none, none, none]) dX6_twiceAround_1 (Nat.le_of_ble_eq_true rfl) rfl rfl ?_
  refine z_iconst (M := M_X6_twiceAround) dX6_twiceAround_2 ?_
  refine z_istore (M := M_X6_twiceAround) (lv' := [some (vr this_0), some (vi from_0), some (vi length_0), some (vl 0), none, some (vi 0), none, none]) dX6_twiceAround_3 (Nat.le_of_ble_eq_true rfl) rfl rfl ?_
  obtain ⟨rl_6, hw_3, hk_4⟩ := bd_e H
  have J_27 : ∀ total_25 i_26, rl_6 = (total_25, i_26) → YY l E M_X6_twiceAround 1 0 0 (pS (some (vl r)) σ) 79 [some (vr this_0), some (vi from_0), some (vi length_0), some (vl total_25), none, some (vi i_26), none, none] [] σ 0 0 := by
    intro total_25 i_26 e
    have H := hk_4
    rw [e] at H
    refine z_lload_n (M := M_X6_twiceAround) dX6_twiceAround_79 rfl ?_
    cases H
    exact z_lret (M := M_X6_twiceAround) dX6_twiceAround_80 rfl (Nat.le_of_ble_eq_true rfl) (Nat.le_of_ble_eq_true rfl) ⟨rfl, rfl⟩
  refine whl_go hw_3 (fun (total_1, i_2) => YY l E M_X6_twiceAround 1 0 0 (pS (some (vl r)) σ) 5 [some (vr this_0), some (vi from_0), some (vi length_0), some (vl total_1), none, some (vi i_2), none, none] [] σ 0 0) ?_
  rintro ⟨total_1, i_2⟩ o_7 H K_8 K_9
  refine z_iload (M := M_X6_twiceAround) dX6_twiceAround_5 rfl ?_
  refine z_iload_n (M := M_X6_twiceAround) dX6_twiceAround_7 rfl ?_
  rcases if_e H with ⟨h_10, H⟩ | ⟨h_10, H⟩
  · refine z_icmp_ge_f (M := M_X6_twiceAround) (tgt := 79) dX6_twiceAround_8 (by decide) rfl rfl h_10 ?_
    refine z_iload_n (M := M_X6_twiceAround) dX6_twiceAround_11 rfl ?_
    refine z_iload (M := M_X6_twiceAround) dX6_twiceAround_12 rfl ?_
    refine z_iadd (M := M_X6_twiceAround) dX6_twiceAround_14 ?_
    refine z_istore (M := M_X6_twiceAround) (lv' := [some (vr this_0), some (vi from_0), some (vi length_0), some (vl total_1), none, some (vi i_2), some (vi (from_0 + i_2)), none]) dX6_twiceAround_15 (Nat.le_of_ble_eq_true rfl) rfl rfl ?_
    have J_11 : YY l E M_X6_twiceAround 1 0 0 (pS (some (vl r)) σ) 33 [some (vr this_0), some (vi from_0), some (vi length_0), some (vl total_1), none, some (vi i_2), some (vi (from_0 + i_2)), none] [vi (if (w32 (i_2 + 1)) < (w32 length_0) then ((from_0 + i_2) + 1) else from_0)] σ 0 0 := by
      obtain ⟨x_12, x_12_e, H⟩ := lt_e H
      refine z_st (congrArg (fun z => vi z :: []) x_12_e) ?_
      refine z_istore (M := M_X6_twiceAround) (lv' := [some (vr this_0), some (vi from_0), some (vi length_0), some (vl total_1), none, some (vi i_2), some (vi (from_0 + i_2)), some (vi x_12)]) dX6_twiceAround_33 (Nat.le_of_ble_eq_true rfl) rfl rfl ?_
      refine z_lload_n (M := M_X6_twiceAround) dX6_twiceAround_35 rfl ?_
      refine z_aload_n (M := M_X6_twiceAround) dX6_twiceAround_36 rfl ?_
      refine z_getR (M := M_X6_twiceAround) (ci := 9) (C := RX6) (T := TX6) (Nf := 5) (ty := tyX6) cl9 dX6_twiceAround_37 (ly_S h_this) 1 (by decide) t_58 rfl ?_
      refine z_iload (M := M_X6_twiceAround) dX6_twiceAround_40 rfl ?_
      obtain ⟨x_13, x_13_e, hi_14, H⟩ := rd_e H
      refine z_iald (M := M_X6_twiceAround) dX6_twiceAround_42 (ly_Sx h_this) rfl rfl rfl hi_14 x_13_e ?_
      refine z_i2l (M := M_X6_twiceAround) dX6_twiceAround_43 ?_
      refine z_aload_n (M := M_X6_twiceAround) dX6_twiceAround_44 rfl ?_
      refine z_getR (M := M_X6_twiceAround) (ci := 9) (C := RX6) (T := TX6) (Nf := 5) (ty := tyX6) cl9 dX6_twiceAround_45 (ly_S h_this) 2 (by decide) t_65 rfl ?_
      refine z_iload (M := M_X6_twiceAround) dX6_twiceAround_48 rfl ?_
      obtain ⟨x_15, x_15_e, hi_16, H⟩ := rd_e H
      refine z_iald (M := M_X6_twiceAround) dX6_twiceAround_50 (ly_Sy h_this) rfl rfl rfl hi_16 x_15_e ?_
      refine z_i2l (M := M_X6_twiceAround) dX6_twiceAround_51 ?_
      refine z_lmul (M := M_X6_twiceAround) dX6_twiceAround_52 ?_
      refine z_aload_n (M := M_X6_twiceAround) dX6_twiceAround_53 rfl ?_
      refine z_getR (M := M_X6_twiceAround) (ci := 9) (C := RX6) (T := TX6) (Nf := 5) (ty := tyX6) cl9 dX6_twiceAround_54 (ly_S h_this) 1 (by decide) t_58 rfl ?_
      refine z_iload (M := M_X6_twiceAround) dX6_twiceAround_57 rfl ?_
      obtain ⟨x_17, x_17_e, hi_18, H⟩ := rd_e H
      refine z_iald (M := M_X6_twiceAround) dX6_twiceAround_59 (ly_Sx h_this) rfl rfl rfl hi_18 x_17_e ?_
      refine z_i2l (M := M_X6_twiceAround) dX6_twiceAround_60 ?_
      refine z_aload_n (M := M_X6_twiceAround) dX6_twiceAround_61 rfl ?_
      refine z_getR (M := M_X6_twiceAround) (ci := 9) (C := RX6) (T := TX6) (Nf := 5) (ty := tyX6) cl9 dX6_twiceAround_62 (ly_S h_this) 2 (by decide) t_65 rfl ?_
      refine z_iload (M := M_X6_twiceAround) dX6_twiceAround_65 rfl ?_
      obtain ⟨x_19, x_19_e, hi_20, H⟩ := rd_e H
      refine z_iald (M := M_X6_twiceAround) dX6_twiceAround_67 (ly_Sy h_this) rfl rfl rfl hi_20 x_19_e ?_
      refine z_i2l (M := M_X6_twiceAround) dX6_twiceAround_68 ?_
      refine z_lmul (M := M_X6_twiceAround) dX6_twiceAround_69 ?_
      refine z_lsub (M := M_X6_twiceAround) dX6_twiceAround_70 ?_
      refine z_ladd (M := M_X6_twiceAround) dX6_twiceAround_71 ?_
      obtain ⟨x_21, x_21_e, H⟩ := lt_e H
      refine z_st (congrArg (fun z => vl z :: []) x_21_e) ?_
      refine z_lstore_n (M := M_X6_twiceAround) (lv' := [some (vr this_0), some (vi from_0), some (vi length_0), some (vl x_21), none, some (vi i_2), some (vi (from_0 + i_2)), some (vi x_12)]) dX6_twiceAround_72 (Nat.le_of_ble_eq_true rfl) rfl rfl ?_
      refine z_iinc (M := M_X6_twiceAround) (lv' := [some (vr this_0), some (vi from_0), some (vi length_0), some (vl x_21), none, some (vi (i_2 + 1)), some (vi (from_0 + i_2)), some (vi x_12)]) dX6_twiceAround_73 rfl (Nat.le_of_ble_eq_true rfl) rfl rfl ?_
      refine z_goto (M := M_X6_twiceAround) (tgt := 5) dX6_twiceAround_76 (by decide) ?_
      refine z_le (lv' := [some (vr this_0), some (vi from_0), some (vi length_0), some (vl x_21), none, some (vi (i_2 + 1)), none, none]) ⟨Or.inr rfl, Or.inr rfl, Or.inr rfl, Or.inr rfl, Or.inl rfl, Or.inr rfl, Or.inl rfl, Or.inl rfl, trivial⟩ ?_
      exact K_8 _ (Option.some.inj H).symm
    refine z_iload (M := M_X6_twiceAround) dX6_twiceAround_17 rfl ?_
    refine z_iconst (M := M_X6_twiceAround) dX6_twiceAround_19 ?_
    refine z_iadd (M := M_X6_twiceAround) dX6_twiceAround_20 ?_
    refine z_iload_n (M := M_X6_twiceAround) dX6_twiceAround_21 rfl ?_
    by_cases h_23 : (w32 (i_2 + 1)) < (w32 length_0)
    · refine z_icmp_ge_f (M := M_X6_twiceAround) (tgt := 32) dX6_twiceAround_22 (by decide) rfl rfl h_23 ?_
      refine z_iload (M := M_X6_twiceAround) dX6_twiceAround_25 rfl ?_
      refine z_iconst (M := M_X6_twiceAround) dX6_twiceAround_27 ?_
      refine z_iadd (M := M_X6_twiceAround) dX6_twiceAround_28 ?_
      refine z_goto (M := M_X6_twiceAround) (tgt := 33) dX6_twiceAround_29 (by decide) ?_
      exact z_st (by rw [if_pos (c := (w32 (i_2 + 1)) < (w32 length_0)) h_23]) J_11
    · refine z_icmp_ge_t (M := M_X6_twiceAround) (tgt := 32) dX6_twiceAround_22 (by decide) rfl rfl (Int.not_lt.mp h_23) ?_
      refine z_iload_n (M := M_X6_twiceAround) dX6_twiceAround_32 rfl ?_
      exact z_st (by rw [if_neg (c := (w32 (i_2 + 1)) < (w32 length_0)) h_23]) J_11
  · refine z_icmp_ge_t (M := M_X6_twiceAround) (tgt := 79) dX6_twiceAround_8 (by decide) rfl rfl (Int.not_lt.mp h_10) ?_
    exact J_27 _ _ (K_9 _ (Option.some.inj H).symm).symm
end LFAM
