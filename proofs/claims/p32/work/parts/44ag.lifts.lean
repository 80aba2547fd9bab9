section LFAG
variable {l : Launch} {E : EE}
theorem c_X4_liesIn (hl : l.stackTraces = false) {σ : SG} {hole_0 : Int} {shell_0 : Int} {r : Bool}  (H : fG_liesIn σ hole_0 shell_0 = some r) : en_S l E M_X4_liesIn 5 0 0 [vr 208, vi hole_0, vi shell_0] σ (pS (some (zv r)) σ) := by
  unfold fG_liesIn at H
  refine z_mk (lv := [some (vr 208), some (vi hole_0), some (vi shell_0), none, none]) m_X4_liesIn rfl hl (Nat.le_of_ble_eq_true rfl) rfl ?_
  refine z_aload_n (M := M_X4_liesIn) dX4_liesIn_0 rfl ?_
  refine z_getR (M := M_X4_liesIn) (ci := 7) (C := RX4) (T := TX4) (Nf := 17) (ty := tyX4) cl7 dX4_liesIn_1 ly_208 12 (by decide) t_393 rfl ?_
  refine z_iload_n (M := M_X4_liesIn) dX4_liesIn_4 rfl ?_
  obtain ⟨x_1, x_1_e, hi_2, H⟩ := rd_e H
  refine z_iald (M := M_X4_liesIn) dX4_liesIn_5 ly_218 rfl rfl rfl hi_2 x_1_e ?_
  refine z_istore_n (M := M_X4_liesIn) (lv' := [some (vr 208), some (vi hole_0), some (vi shell_0), some (vi x_1), none]) dX4_liesIn_6 (Nat.le_of_ble_eq_true rfl) rfl rfl ?_
  obtain ⟨rl_7, hw_4, hk_5, hk_6⟩ := bx_e H
  have J_30 : ∀ k_29, rl_7 = (.inl k_29) → YY l E M_X4_liesIn 5 0 0 (pS (some (zv r)) σ) 77 [some (vr 208), some (vi hole_0), some (vi shell_0), some (vi k_29), none] [] σ 0 0 := by
    intro k_29 e
    have H := hk_5 _ e
    refine z_zconst (M := M_X4_liesIn) (b := false) dX4_liesIn_77 rfl ?_
    cases H
    exact z_zret (M := M_X4_liesIn) dX4_liesIn_78 rfl (Nat.le_of_ble_eq_true rfl) (Nat.le_of_ble_eq_true rfl) ⟨rfl, rfl⟩
  refine whl_go hw_4 (fun k_3 => YY l E M_X4_liesIn 5 0 0 (pS (some (zv r)) σ) 7 [some (vr 208), some (vi hole_0), some (vi shell_0), some (vi k_3), none] [] σ 0 0) ?_
  rintro k_3 o_8 H K_9 K_10
  refine z_iload_n (M := M_X4_liesIn) dX4_liesIn_7 rfl ?_
  refine z_aload_n (M := M_X4_liesIn) dX4_liesIn_8 rfl ?_
  refine z_getR (M := M_X4_liesIn) (ci := 7) (C := RX4) (T := TX4) (Nf := 17) (ty := tyX4) cl7 dX4_liesIn_9 ly_208 12 (by decide) t_393 rfl ?_
  refine z_iload_n (M := M_X4_liesIn) dX4_liesIn_12 rfl ?_
  refine z_iconst (M := M_X4_liesIn) dX4_liesIn_13 ?_
  refine z_iadd (M := M_X4_liesIn) dX4_liesIn_14 ?_
  obtain ⟨x_11, x_11_e, hi_12, H⟩ := rd_e H
  refine z_iald (M := M_X4_liesIn) dX4_liesIn_15 ly_218 rfl rfl rfl hi_12 x_11_e ?_
  rcases if_e H with ⟨h_13, H⟩ | ⟨h_13, H⟩
  · refine z_icmp_ge_f (M := M_X4_liesIn) (tgt := 77) dX4_liesIn_16 (by decide) rfl rfl h_13 ?_
    refine z_aload_n (M := M_X4_liesIn) dX4_liesIn_19 rfl ?_
    refine z_iload_n (M := M_X4_liesIn) dX4_liesIn_20 rfl ?_
    refine z_aload_n (M := M_X4_liesIn) dX4_liesIn_21 rfl ?_
    refine z_getR (M := M_X4_liesIn) (ci := 7) (C := RX4) (T := TX4) (Nf := 17) (ty := tyX4) cl7 dX4_liesIn_22 ly_208 0 (by decide) t_381 rfl ?_
    refine z_getR (M := M_X4_liesIn) (ci := 11) (C := RX8) (T := TX8) (Nf := 13) (ty := tyX8) cl11 dX4_liesIn_25 ly_193 6 (by decide) t_334 rfl ?_
    refine z_aload_n (M := M_X4_liesIn) dX4_liesIn_28 rfl ?_
    refine z_getR (M := M_X4_liesIn) (ci := 7) (C := RX4) (T := TX4) (Nf := 17) (ty := tyX4) cl7 dX4_liesIn_29 ly_208 10 (by decide) t_391 rfl ?_
    refine z_iload_n (M := M_X4_liesIn) dX4_liesIn_32 rfl ?_
    obtain ⟨x_14, x_14_e, hi_15, H⟩ := rd_e H
    refine z_iald (M := M_X4_liesIn) dX4_liesIn_33 ly_217 rfl rfl rfl hi_15 x_14_e ?_
    obtain ⟨x_16, x_16_e, hi_17, H⟩ := rd_e H
    refine z_iald (M := M_X4_liesIn) dX4_liesIn_34 ly_203 rfl rfl rfl hi_17 x_16_e ?_
    refine z_aload_n (M := M_X4_liesIn) dX4_liesIn_35 rfl ?_
    refine z_getR (M := M_X4_liesIn) (ci := 7) (C := RX4) (T := TX4) (Nf := 17) (ty := tyX4) cl7 dX4_liesIn_36 ly_208 0 (by decide) t_381 rfl ?_
    refine z_getR (M := M_X4_liesIn) (ci := 11) (C := RX8) (T := TX8) (Nf := 13) (ty := tyX8) cl11 dX4_liesIn_39 ly_193 7 (by decide) t_336 rfl ?_
    refine z_aload_n (M := M_X4_liesIn) dX4_liesIn_42 rfl ?_
    refine z_getR (M := M_X4_liesIn) (ci := 7) (C := RX4) (T := TX4) (Nf := 17) (ty := tyX4) cl7 dX4_liesIn_43 ly_208 10 (by decide) t_391 rfl ?_
    refine z_iload_n (M := M_X4_liesIn) dX4_liesIn_46 rfl ?_
    obtain ⟨x_18, x_18_e, hi_19, H⟩ := rd_e H
    refine z_iald (M := M_X4_liesIn) dX4_liesIn_47 ly_217 rfl rfl rfl hi_19 x_18_e ?_
    obtain ⟨x_20, x_20_e, hi_21, H⟩ := rd_e H
    refine z_iald (M := M_X4_liesIn) dX4_liesIn_48 ly_204 rfl rfl rfl hi_21 x_20_e ?_
    obtain ⟨x_23, hc_22, H⟩ := bd_e H
    refine z_callV (M := M_X4_liesIn) (M' := M_X4_whereIs) (as := [vi shell_0, vi x_16, vi x_20]) (rest := []) rfl rfl dX4_liesIn_49 m_X4_whereIs t_1829 t_1831 s_99 (c_X4_whereIs hl  hc_22) rfl rfl ly_208 rfl (Nat.le_of_ble_eq_true rfl) (Nat.le_of_ble_eq_true rfl) (Nat.le_of_ble_eq_true rfl) (Nat.le_of_ble_eq_true rfl) ?_
    refine z_st (st' := [vi x_23]) rfl ?_
    refine z_istore (M := M_X4_liesIn) (lv' := [some (vr 208), some (vi hole_0), some (vi shell_0), some (vi k_3), some (vi x_23)]) dX4_liesIn_52 (Nat.le_of_ble_eq_true rfl) rfl rfl ?_
    refine z_iload (M := M_X4_liesIn) dX4_liesIn_54 rfl ?_
    refine z_iconst (M := M_X4_liesIn) dX4_liesIn_56 ?_
    rcases if_e H with ⟨h_24, H⟩ | ⟨h_24, H⟩
    · refine z_icmp_eq_f (M := M_X4_liesIn) (tgt := 71) dX4_liesIn_57 (by decide) rfl (by decide +kernel) h_24 ?_
      have J_25 : YY l E M_X4_liesIn 5 0 0 (pS (some (zv r)) σ) 70 [some (vr 208), some (vi hole_0), some (vi shell_0), some (vi k_3), some (vi x_23)] [zv (decide ((w32 x_23) = 0))] σ 0 0 := by
        have H := congrArg some (hk_6 _ ((K_10 _ (Option.some.inj H).symm).symm))
        cases H
        exact z_zret (M := M_X4_liesIn) dX4_liesIn_70 rfl (Nat.le_of_ble_eq_true rfl) (Nat.le_of_ble_eq_true rfl) ⟨rfl, rfl⟩
      refine z_iload (M := M_X4_liesIn) dX4_liesIn_60 rfl ?_
      by_cases h_26 : (w32 x_23) = 0
      · refine z_if_ne_f (M := M_X4_liesIn) (tgt := 69) dX4_liesIn_62 (by decide) rfl h_26 ?_
        refine z_iconst (M := M_X4_liesIn) dX4_liesIn_65 ?_
        refine z_goto (M := M_X4_liesIn) (tgt := 70) dX4_liesIn_66 (by decide) ?_
        exact z_st (by rw [zv_t (p := (w32 x_23) = 0) h_26]) J_25
      · refine z_if_ne_t (M := M_X4_liesIn) (tgt := 69) dX4_liesIn_62 (by decide) rfl h_26 ?_
        refine z_iconst (M := M_X4_liesIn) dX4_liesIn_69 ?_
        exact z_st (by rw [zv_f (p := (w32 x_23) = 0) h_26]) J_25
    · refine z_icmp_eq_t (M := M_X4_liesIn) (tgt := 71) dX4_liesIn_57 (by decide) rfl (by decide +kernel) (Decidable.not_not.mp h_24) ?_
      refine z_iinc (M := M_X4_liesIn) (lv' := [some (vr 208), some (vi hole_0), some (vi shell_0), some (vi (k_3 + 1)), some (vi x_23)]) dX4_liesIn_71 rfl (Nat.le_of_ble_eq_true rfl) rfl rfl ?_
      refine z_goto (M := M_X4_liesIn) (tgt := 7) dX4_liesIn_74 (by decide) ?_
      refine z_le (lv' := [some (vr 208), some (vi hole_0), some (vi shell_0), some (vi (k_3 + 1)), none]) ⟨Or.inr rfl, Or.inr rfl, Or.inr rfl, Or.inr rfl, Or.inl rfl, trivial⟩ ?_
      exact K_9 _ (Option.some.inj H).symm
  · refine z_icmp_ge_t (M := M_X4_liesIn) (tgt := 77) dX4_liesIn_16 (by decide) rfl rfl (Int.not_lt.mp h_13) ?_
    exact J_30 _ (K_10 _ (Option.some.inj H).symm).symm
theorem c_X4_giveHolesToShells (hl : l.stackTraces = false) {σ : SG} {σ' : SG}  (H : fG_giveHolesToShells σ = some σ') : en_S l E M_X4_giveHolesToShells 6 0 0 [vr 208] σ (pS (none) σ') := by
  unfold fG_giveHolesToShells at H
  refine z_mk (lv := [some (vr 208), none, none, none]) m_X4_giveHolesToShells rfl hl (Nat.le_of_ble_eq_true rfl) rfl ?_
  refine z_iconst (M := M_X4_giveHolesToShells) dX4_giveHolesToShells_0 ?_
  refine z_istore_n (M := M_X4_giveHolesToShells) (lv' := [some (vr 208), some (vi 0), none, none]) dX4_giveHolesToShells_1 (Nat.le_of_ble_eq_true rfl) rfl rfl ?_
  obtain ⟨rl_6, hw_3, hk_4⟩ := bd_e H
  have J_105 : ∀ hole_103 σ_104, rl_6 = (hole_103, σ_104) → YY l E M_X4_giveHolesToShells 6 0 0 (pS (none) σ') 129 [some (vr 208), some (vi hole_103), none, none] [] σ_104 0 0 := by
    intro hole_103 σ_104 e
    have H := hk_4
    rw [e] at H
    cases H
    exact z_vret (M := M_X4_giveHolesToShells) dX4_giveHolesToShells_129 rfl (Nat.le_of_ble_eq_true rfl) (Nat.le_of_ble_eq_true rfl) ⟨rfl, rfl⟩
  refine whl_go hw_3 (fun (hole_1, σ_2) => YY l E M_X4_giveHolesToShells 6 0 0 (pS (none) σ') 2 [some (vr 208), some (vi hole_1), none, none] [] σ_2 0 0) ?_
  rintro ⟨hole_1, σ_2⟩ o_7 H K_8 K_9
  refine z_iload_n (M := M_X4_giveHolesToShells) dX4_giveHolesToShells_2 rfl ?_
  refine z_aload_n (M := M_X4_giveHolesToShells) dX4_giveHolesToShells_3 rfl ?_
  refine z_getI (M := M_X4_giveHolesToShells) (ci := 7) (C := RX4) (T := TX4) (Nf := 17) (ty := tyX4) cl7 dX4_giveHolesToShells_4 ly_208 16 (by decide) t_397 rfl rfl ?_
  rcases if_e H with ⟨h_10, H⟩ | ⟨h_10, H⟩
  · refine z_icmp_ge_f (M := M_X4_giveHolesToShells) (tgt := 129) dX4_giveHolesToShells_7 (by decide) rfl rfl h_10 ?_
    refine z_aload_n (M := M_X4_giveHolesToShells) dX4_giveHolesToShells_10 rfl ?_
    refine z_getR (M := M_X4_giveHolesToShells) (ci := 7) (C := RX4) (T := TX4) (Nf := 17) (ty := tyX4) cl7 dX4_giveHolesToShells_11 ly_208 14 (by decide) t_395 rfl ?_
    refine z_iload_n (M := M_X4_giveHolesToShells) dX4_giveHolesToShells_14 rfl ?_
    refine z_iconst (M := M_X4_giveHolesToShells) dX4_giveHolesToShells_15 ?_
    obtain ⟨σ_11, σ_11_e, hi_12, H⟩ := wa_e H
    refine z_iast (M := M_X4_giveHolesToShells) dX4_giveHolesToShells_16 ly_220 rfl rfl rfl hi_12 σ_11_e ?_
    refine z_iconst (M := M_X4_giveHolesToShells) dX4_giveHolesToShells_17 ?_
    refine z_istore_n (M := M_X4_giveHolesToShells) (lv' := [some (vr 208), some (vi hole_1), some (vi 0), none]) dX4_giveHolesToShells_18 (Nat.le_of_ble_eq_true rfl) rfl rfl ?_
    obtain ⟨rl_18, hw_15, hk_16⟩ := bd_e H
    have J_101 : ∀ shell_98 σ_99, rl_18 = (shell_98, σ_99) → YY l E M_X4_giveHolesToShells 6 0 0 (pS (none) σ') 123 [some (vr 208), some (vi hole_1), some (vi shell_98), none] [] σ_99 0 0 := by
      intro shell_98 σ_99 e
      have H := hk_16
      rw [e] at H
      refine z_iinc (M := M_X4_giveHolesToShells) (lv' := [some (vr 208), some (vi (hole_1 + 1)), some (vi shell_98), none]) dX4_giveHolesToShells_123 rfl (Nat.le_of_ble_eq_true rfl) rfl rfl ?_
      refine z_goto (M := M_X4_giveHolesToShells) (tgt := 2) dX4_giveHolesToShells_126 (by decide) ?_
      refine z_le (lv' := [some (vr 208), some (vi (hole_1 + 1)), none, none]) ⟨Or.inr rfl, Or.inr rfl, Or.inl rfl, Or.inl rfl, trivial⟩ ?_
      exact K_8 _ (Option.some.inj H).symm
    refine whl_go hw_15 (fun (shell_13, σ_14) => YY l E M_X4_giveHolesToShells 6 0 0 (pS (none) σ') 19 [some (vr 208), some (vi hole_1), some (vi shell_13), none] [] σ_14 0 0) ?_
    rintro ⟨shell_13, σ_14⟩ o_19 H K_20 K_21
    refine z_iload_n (M := M_X4_giveHolesToShells) dX4_giveHolesToShells_19 rfl ?_
    refine z_aload_n (M := M_X4_giveHolesToShells) dX4_giveHolesToShells_20 rfl ?_
    refine z_getI (M := M_X4_giveHolesToShells) (ci := 7) (C := RX4) (T := TX4) (Nf := 17) (ty := tyX4) cl7 dX4_giveHolesToShells_21 ly_208 16 (by decide) t_397 rfl rfl ?_
    rcases if_e H with ⟨h_30, H⟩ | ⟨h_30, H⟩
    · refine z_icmp_ge_f (M := M_X4_giveHolesToShells) (tgt := 123) dX4_giveHolesToShells_24 (by decide) rfl rfl h_30 ?_
      refine z_aload_n (M := M_X4_giveHolesToShells) dX4_giveHolesToShells_27 rfl ?_
      refine z_iload_n (M := M_X4_giveHolesToShells) dX4_giveHolesToShells_28 rfl ?_
      obtain ⟨x_32, hc_31, H⟩ := bd_e H
      refine z_callV (M := M_X4_giveHolesToShells) (M' := M_X4_isShell) (as := [vi hole_1]) (rest := []) rfl rfl dX4_giveHolesToShells_29 m_X4_isShell t_1821 t_1823 s_97 (c_X4_isShell hl  hc_31) rfl rfl ly_208 rfl (Nat.le_of_ble_eq_true rfl) (Nat.le_of_ble_eq_true rfl) (Nat.le_of_ble_eq_true rfl) (Nat.le_of_ble_eq_true rfl) ?_
      refine z_st (st' := [zv x_32]) rfl ?_
      rcases if_e H with ⟨h_33, H⟩ | ⟨h_33, H⟩
      · refine z_zne_t (M := M_X4_giveHolesToShells) (tgt := 123) dX4_giveHolesToShells_32 (by decide) h_33 ?_
        exact J_101 _ _ (K_21 _ (Option.some.inj H).symm).symm
      · refine z_zne_f (M := M_X4_giveHolesToShells) (tgt := 123) dX4_giveHolesToShells_32 (by decide) h_33 ?_
        obtain ⟨v_93, he_94, hk_95⟩ := bd_e H
        have J_96 : ∀ x_48, v_93 = x_48 → YY l E M_X4_giveHolesToShells 6 0 0 (pS (none) σ') 71 [some (vr 208), some (vi hole_1), some (vi shell_13), none] [zv x_48] σ_14 0 0 := by
          intro x_48 e
          have H := hk_95
          rw [e] at H
          refine z_zstore_n (M := M_X4_giveHolesToShells) (lv' := [some (vr 208), some (vi hole_1), some (vi shell_13), some (zv x_48)]) dX4_giveHolesToShells_71 (Nat.le_of_ble_eq_true rfl) rfl rfl ?_
          obtain ⟨v_52, he_49, hk_50⟩ := bd_e H
          have J_92 : ∀ σ_90, v_52 = σ_90 → YY l E M_X4_giveHolesToShells 6 0 0 (pS (none) σ') 117 [some (vr 208), some (vi hole_1), some (vi shell_13), some (zv x_48)] [] σ_90 0 0 := by
            intro σ_90 e
            have H := hk_50
            rw [e] at H
            refine z_iinc (M := M_X4_giveHolesToShells) (lv' := [some (vr 208), some (vi hole_1), some (vi (shell_13 + 1)), some (zv x_48)]) dX4_giveHolesToShells_117 rfl (Nat.le_of_ble_eq_true rfl) rfl rfl ?_
            refine z_goto (M := M_X4_giveHolesToShells) (tgt := 19) dX4_giveHolesToShells_120 (by decide) ?_
            refine z_le (lv' := [some (vr 208), some (vi hole_1), some (vi (shell_13 + 1)), none]) ⟨Or.inr rfl, Or.inr rfl, Or.inr rfl, Or.inl rfl, trivial⟩ ?_
            exact K_20 _ (Option.some.inj H).symm
          have H := he_49
          refine z_aload_n (M := M_X4_giveHolesToShells) dX4_giveHolesToShells_72 rfl ?_
          refine z_iload_n (M := M_X4_giveHolesToShells) dX4_giveHolesToShells_73 rfl ?_
          obtain ⟨x_72, hc_71, H⟩ := bd_e H
          refine z_callV (M := M_X4_giveHolesToShells) (M' := M_X4_isShell) (as := [vi shell_13]) (rest := []) rfl rfl dX4_giveHolesToShells_74 m_X4_isShell t_1821 t_1823 s_97 (c_X4_isShell hl  hc_71) rfl rfl ly_208 rfl (Nat.le_of_ble_eq_true rfl) (Nat.le_of_ble_eq_true rfl) (Nat.le_of_ble_eq_true rfl) (Nat.le_of_ble_eq_true rfl) ?_
          refine z_st (st' := [zv x_72]) rfl ?_
          rcases if_e H with ⟨h_73, H⟩ | ⟨h_73, H⟩
          · refine z_zeq_f (M := M_X4_giveHolesToShells) (tgt := 117) dX4_giveHolesToShells_77 (by decide) h_73 ?_
            refine z_zload_n (M := M_X4_giveHolesToShells) dX4_giveHolesToShells_80 rfl ?_
            rcases if_e H with ⟨h_74, H⟩ | ⟨h_74, H⟩
            · refine z_zeq_f (M := M_X4_giveHolesToShells) (tgt := 117) dX4_giveHolesToShells_81 (by decide) h_74 ?_
              refine z_aload_n (M := M_X4_giveHolesToShells) dX4_giveHolesToShells_84 rfl ?_
              refine z_getR (M := M_X4_giveHolesToShells) (ci := 7) (C := RX4) (T := TX4) (Nf := 17) (ty := tyX4) cl7 dX4_giveHolesToShells_85 ly_208 13 (by decide) t_394 rfl ?_
              refine z_iload_n (M := M_X4_giveHolesToShells) dX4_giveHolesToShells_88 rfl ?_
              obtain ⟨x_75, x_75_e, hi_76, H⟩ := rd_e H
              refine z_lald (M := M_X4_giveHolesToShells) dX4_giveHolesToShells_89 ly_219 rfl rfl rfl hi_76 x_75_e ?_
              refine z_aload_n (M := M_X4_giveHolesToShells) dX4_giveHolesToShells_90 rfl ?_
              refine z_getR (M := M_X4_giveHolesToShells) (ci := 7) (C := RX4) (T := TX4) (Nf := 17) (ty := tyX4) cl7 dX4_giveHolesToShells_91 ly_208 13 (by decide) t_394 rfl ?_
              refine z_iload_n (M := M_X4_giveHolesToShells) dX4_giveHolesToShells_94 rfl ?_
              obtain ⟨x_77, x_77_e, hi_78, H⟩ := rd_e H
              refine z_lald (M := M_X4_giveHolesToShells) dX4_giveHolesToShells_95 ly_219 rfl rfl rfl hi_78 x_77_e ?_
              refine z_lneg (M := M_X4_giveHolesToShells) dX4_giveHolesToShells_96 ?_
              refine z_lcmp (M := M_X4_giveHolesToShells) dX4_giveHolesToShells_97 ?_
              rcases if_e H with ⟨h_79, H⟩ | ⟨h_79, H⟩
              · refine z_lif_le_f (M := M_X4_giveHolesToShells) (tgt := 117) dX4_giveHolesToShells_98 (by decide) rfl rfl h_79 ?_
                refine z_aload_n (M := M_X4_giveHolesToShells) dX4_giveHolesToShells_101 rfl ?_
                refine z_iload_n (M := M_X4_giveHolesToShells) dX4_giveHolesToShells_102 rfl ?_
                refine z_iload_n (M := M_X4_giveHolesToShells) dX4_giveHolesToShells_103 rfl ?_
                obtain ⟨x_81, hc_80, H⟩ := bd_e H
                refine z_callV (M := M_X4_giveHolesToShells) (M' := M_X4_liesIn) (as := [vi hole_1, vi shell_13]) (rest := []) rfl rfl dX4_giveHolesToShells_104 m_X4_liesIn t_1825 t_1827 s_98 (c_X4_liesIn hl  hc_80) rfl rfl ly_208 rfl (Nat.le_of_ble_eq_true rfl) (Nat.le_of_ble_eq_true rfl) (Nat.le_of_ble_eq_true rfl) (Nat.le_of_ble_eq_true rfl) ?_
                refine z_st (st' := [zv x_81]) rfl ?_
                rcases if_e H with ⟨h_82, H⟩ | ⟨h_82, H⟩
                · refine z_zeq_f (M := M_X4_giveHolesToShells) (tgt := 117) dX4_giveHolesToShells_107 (by decide) h_82 ?_
                  refine z_aload_n (M := M_X4_giveHolesToShells) dX4_giveHolesToShells_110 rfl ?_
                  refine z_getR (M := M_X4_giveHolesToShells) (ci := 7) (C := RX4) (T := TX4) (Nf := 17) (ty := tyX4) cl7 dX4_giveHolesToShells_111 ly_208 14 (by decide) t_395 rfl ?_
                  refine z_iload_n (M := M_X4_giveHolesToShells) dX4_giveHolesToShells_114 rfl ?_
                  refine z_iload_n (M := M_X4_giveHolesToShells) dX4_giveHolesToShells_115 rfl ?_
                  obtain ⟨σ_83, σ_83_e, hi_84, H⟩ := wa_e H
                  refine z_iast (M := M_X4_giveHolesToShells) dX4_giveHolesToShells_116 ly_220 rfl rfl rfl hi_84 σ_83_e ?_
                  exact J_92 _ (Option.some.inj H).symm
                · refine z_zeq_t (M := M_X4_giveHolesToShells) (tgt := 117) dX4_giveHolesToShells_107 (by decide) h_82 ?_
                  exact J_92 _ (Option.some.inj H).symm
              · refine z_lif_le_t (M := M_X4_giveHolesToShells) (tgt := 117) dX4_giveHolesToShells_98 (by decide) rfl rfl (Int.not_lt.mp h_79) ?_
                exact J_92 _ (Option.some.inj H).symm
            · refine z_zeq_t (M := M_X4_giveHolesToShells) (tgt := 117) dX4_giveHolesToShells_81 (by decide) h_74 ?_
              exact J_92 _ (Option.some.inj H).symm
          · refine z_zeq_t (M := M_X4_giveHolesToShells) (tgt := 117) dX4_giveHolesToShells_77 (by decide) h_73 ?_
            exact J_92 _ (Option.some.inj H).symm
        have H := he_94
        refine z_aload_n (M := M_X4_giveHolesToShells) dX4_giveHolesToShells_35 rfl ?_
        refine z_getR (M := M_X4_giveHolesToShells) (ci := 7) (C := RX4) (T := TX4) (Nf := 17) (ty := tyX4) cl7 dX4_giveHolesToShells_36 ly_208 14 (by decide) t_395 rfl ?_
        refine z_iload_n (M := M_X4_giveHolesToShells) dX4_giveHolesToShells_39 rfl ?_
        obtain ⟨x_35, x_35_e, hi_36, H⟩ := rd_e H
        refine z_iald (M := M_X4_giveHolesToShells) dX4_giveHolesToShells_40 ly_220 rfl rfl rfl hi_36 x_35_e ?_
        refine z_iconst (M := M_X4_giveHolesToShells) dX4_giveHolesToShells_41 ?_
        rcases if_e H with ⟨h_37, H⟩ | ⟨h_37, H⟩
        · refine z_icmp_eq_t (M := M_X4_giveHolesToShells) (tgt := 66) dX4_giveHolesToShells_42 (by decide) rfl (by decide +kernel) h_37 ?_
          refine z_zconst (M := M_X4_giveHolesToShells) (b := true) dX4_giveHolesToShells_66 rfl ?_
          refine z_goto (M := M_X4_giveHolesToShells) (tgt := 71) dX4_giveHolesToShells_67 (by decide) ?_
          exact J_96 _ (Option.some.inj H).symm
        · refine z_icmp_eq_f (M := M_X4_giveHolesToShells) (tgt := 66) dX4_giveHolesToShells_42 (by decide) rfl (by decide +kernel) h_37 ?_
          refine z_aload_n (M := M_X4_giveHolesToShells) dX4_giveHolesToShells_45 rfl ?_
          refine z_getR (M := M_X4_giveHolesToShells) (ci := 7) (C := RX4) (T := TX4) (Nf := 17) (ty := tyX4) cl7 dX4_giveHolesToShells_46 ly_208 13 (by decide) t_394 rfl ?_
          refine z_iload_n (M := M_X4_giveHolesToShells) dX4_giveHolesToShells_49 rfl ?_
          obtain ⟨x_39, x_39_e, hi_40, H⟩ := rd_e H
          refine z_lald (M := M_X4_giveHolesToShells) dX4_giveHolesToShells_50 ly_219 rfl rfl rfl hi_40 x_39_e ?_
          refine z_aload_n (M := M_X4_giveHolesToShells) dX4_giveHolesToShells_51 rfl ?_
          refine z_getR (M := M_X4_giveHolesToShells) (ci := 7) (C := RX4) (T := TX4) (Nf := 17) (ty := tyX4) cl7 dX4_giveHolesToShells_52 ly_208 13 (by decide) t_394 rfl ?_
          refine z_aload_n (M := M_X4_giveHolesToShells) dX4_giveHolesToShells_55 rfl ?_
          refine z_getR (M := M_X4_giveHolesToShells) (ci := 7) (C := RX4) (T := TX4) (Nf := 17) (ty := tyX4) cl7 dX4_giveHolesToShells_56 ly_208 14 (by decide) t_395 rfl ?_
          refine z_iload_n (M := M_X4_giveHolesToShells) dX4_giveHolesToShells_59 rfl ?_
          obtain ⟨x_41, x_41_e, hi_42, H⟩ := rd_e H
          refine z_iald (M := M_X4_giveHolesToShells) dX4_giveHolesToShells_60 ly_220 rfl rfl rfl hi_42 x_41_e ?_
          obtain ⟨x_43, x_43_e, hi_44, H⟩ := rd_e H
          refine z_lald (M := M_X4_giveHolesToShells) dX4_giveHolesToShells_61 ly_219 rfl rfl rfl hi_44 x_43_e ?_
          refine z_lcmp (M := M_X4_giveHolesToShells) dX4_giveHolesToShells_62 ?_
          rcases if_e H with ⟨h_45, H⟩ | ⟨h_45, H⟩
          · refine z_lif_ge_f (M := M_X4_giveHolesToShells) (tgt := 70) dX4_giveHolesToShells_63 (by decide) rfl rfl h_45 ?_
            refine z_zconst (M := M_X4_giveHolesToShells) (b := true) dX4_giveHolesToShells_66 rfl ?_
            refine z_goto (M := M_X4_giveHolesToShells) (tgt := 71) dX4_giveHolesToShells_67 (by decide) ?_
            exact J_96 _ (Option.some.inj H).symm
          · refine z_lif_ge_t (M := M_X4_giveHolesToShells) (tgt := 70) dX4_giveHolesToShells_63 (by decide) rfl rfl (Int.not_lt.mp h_45) ?_
            refine z_zconst (M := M_X4_giveHolesToShells) (b := false) dX4_giveHolesToShells_70 rfl ?_
            exact J_96 _ (Option.some.inj H).symm
    · refine z_icmp_ge_t (M := M_X4_giveHolesToShells) (tgt := 123) dX4_giveHolesToShells_24 (by decide) rfl rfl (Int.not_lt.mp h_30) ?_
      exact J_101 _ _ (K_21 _ (Option.some.inj H).symm).symm
  · refine z_icmp_ge_t (M := M_X4_giveHolesToShells) (tgt := 129) dX4_giveHolesToShells_7 (by decide) rfl rfl (Int.not_lt.mp h_10) ?_
    exact J_105 _ _ (K_9 _ (Option.some.inj H).symm).symm
theorem c_J7_rangeCheck_23922 (hl : l.stackTraces = false) {σ : SG} {arrayLength_0 : Int} {fromIndex_0 : Int} {toIndex_0 : Int} {r : Unit}  (H : fU_rangeCheck arrayLength_0 fromIndex_0 toIndex_0 = some r) : en_S l E M_J7_rangeCheck_23922 1 0 0 [vi arrayLength_0, vi fromIndex_0, vi toIndex_0] σ (pS (none) σ) := by
  unfold fU_rangeCheck at H
  refine z_mk (lv := [some (vi arrayLength_0), some (vi fromIndex_0), some (vi toIndex_0)]) m_J7_rangeCheck_23922 rfl hl (Nat.le_of_ble_eq_true rfl) rfl ?_
  refine z_iload_n (M := M_J7_rangeCheck_23922) dJ7_rangeCheck_23922_0 rfl ?_
  refine z_iload_n (M := M_J7_rangeCheck_23922) dJ7_rangeCheck_23922_1 rfl ?_
  rcases if_e H with ⟨h_1, H⟩ | ⟨h_1, H⟩
  · refine z_icmp_le_f (M := M_J7_rangeCheck_23922) (tgt := 46) dJ7_rangeCheck_23922_2 (by decide) rfl rfl h_1 ?_
    cases H
  · refine z_icmp_le_t (M := M_J7_rangeCheck_23922) (tgt := 46) dJ7_rangeCheck_23922_2 (by decide) rfl rfl (Int.not_lt.mp h_1) ?_
    refine z_iload_n (M := M_J7_rangeCheck_23922) dJ7_rangeCheck_23922_46 rfl ?_
    rcases if_e H with ⟨h_2, H⟩ | ⟨h_2, H⟩
    · refine z_if_ge_f (M := M_J7_rangeCheck_23922) (tgt := 59) dJ7_rangeCheck_23922_47 (by decide) rfl h_2 ?_
      cases H
    · refine z_if_ge_t (M := M_J7_rangeCheck_23922) (tgt := 59) dJ7_rangeCheck_23922_47 (by decide) rfl (Int.not_lt.mp h_2) ?_
      refine z_iload_n (M := M_J7_rangeCheck_23922) dJ7_rangeCheck_23922_59 rfl ?_
      refine z_iload_n (M := M_J7_rangeCheck_23922) dJ7_rangeCheck_23922_60 rfl ?_
      rcases if_e H with ⟨h_3, H⟩ | ⟨h_3, H⟩
      · refine z_icmp_le_f (M := M_J7_rangeCheck_23922) (tgt := 73) dJ7_rangeCheck_23922_61 (by decide) rfl rfl h_3 ?_
        cases H
      · refine z_icmp_le_t (M := M_J7_rangeCheck_23922) (tgt := 73) dJ7_rangeCheck_23922_61 (by decide) rfl rfl (Int.not_lt.mp h_3) ?_
        cases H
        exact z_vret (M := M_J7_rangeCheck_23922) dJ7_rangeCheck_23922_73 rfl (Nat.le_of_ble_eq_true rfl) (Nat.le_of_ble_eq_true rfl) ⟨rfl, rfl⟩
theorem c_J7_fill_fda19 (hl : l.stackTraces = false) {σ : SG} {a_0 : Nat} {a_n : Nat} {fromIndex_0 : Int} {toIndex_0 : Int} {val_0 : Int} {σ' : SG} (h_a : lay a_0 = some (.inr (0, a_n, 0, 0))) (H : fU_fillIR σ a_0 a_n fromIndex_0 toIndex_0 val_0 = some σ') : en_S l E M_J7_fill_fda19 2 0 0 [vr a_0, vi fromIndex_0, vi toIndex_0, vi val_0] σ (pS (none) σ') := by
  unfold fU_fillIR at H
  refine z_mk (lv := [some (vr a_0), some (vi fromIndex_0), some (vi toIndex_0), some (vi val_0), none]) m_J7_fill_fda19 rfl hl (Nat.le_of_ble_eq_true rfl) rfl ?_
  refine z_aload_n (M := M_J7_fill_fda19) dJ7_fill_fda19_0 rfl ?_
  refine z_alen (M := M_J7_fill_fda19) (N := (a_n : Int)) dJ7_fill_fda19_1 h_a (by decide) rfl ?_
  refine z_iload_n (M := M_J7_fill_fda19) dJ7_fill_fda19_2 rfl ?_
  refine z_iload_n (M := M_J7_fill_fda19) dJ7_fill_fda19_3 rfl ?_
  obtain ⟨_, hc_1, H⟩ := bd_e H
  refine z_callS (M := M_J7_fill_fda19) (M' := M_J7_rangeCheck_23922) (as := [vi (a_n : Int), vi fromIndex_0, vi toIndex_0]) (rest := []) rfl rfl dJ7_fill_fda19_4 m_J7_rangeCheck_23922 t_1524 t_1525 (c_J7_rangeCheck_23922 hl  hc_1) rfl rfl (Nat.le_of_ble_eq_true rfl) (Nat.le_of_ble_eq_true rfl) (Nat.le_of_ble_eq_true rfl) (Nat.le_of_ble_eq_true rfl) ?_
  refine z_st (st' := []) rfl ?_
  refine z_iload_n (M := M_J7_fill_fda19) dJ7_fill_fda19_7 rfl ?_
  refine z_istore (M := M_J7_fill_fda19) (lv' := [some (vr a_0), some (vi fromIndex_0), some (vi toIndex_0), some (vi val_0), some (vi fromIndex_0)]) dJ7_fill_fda19_8 (Nat.le_of_ble_eq_true rfl) rfl rfl ?_
  obtain ⟨rl_7, hw_4, hk_5⟩ := bd_e H
  have J_18 : ∀ i_16 σ_17, rl_7 = (i_16, σ_17) → YY l E M_J7_fill_fda19 2 0 0 (pS (none) σ') 27 [some (vr a_0), some (vi fromIndex_0), some (vi toIndex_0), some (vi val_0), some (vi i_16)] [] σ_17 0 0 := by
    intro i_16 σ_17 e
    have H := hk_5
    rw [e] at H
    cases H
    exact z_vret (M := M_J7_fill_fda19) dJ7_fill_fda19_27 rfl (Nat.le_of_ble_eq_true rfl) (Nat.le_of_ble_eq_true rfl) ⟨rfl, rfl⟩
  refine whl_go hw_4 (fun (i_2, σ_3) => YY l E M_J7_fill_fda19 2 0 0 (pS (none) σ') 10 [some (vr a_0), some (vi fromIndex_0), some (vi toIndex_0), some (vi val_0), some (vi i_2)] [] σ_3 0 0) ?_
  rintro ⟨i_2, σ_3⟩ o_8 H K_9 K_10
  refine z_iload (M := M_J7_fill_fda19) dJ7_fill_fda19_10 rfl ?_
  refine z_iload_n (M := M_J7_fill_fda19) dJ7_fill_fda19_12 rfl ?_
  rcases if_e H with ⟨h_11, H⟩ | ⟨h_11, H⟩
  · refine z_icmp_ge_f (M := M_J7_fill_fda19) (tgt := 27) dJ7_fill_fda19_13 (by decide) rfl rfl h_11 ?_
    refine z_aload_n (M := M_J7_fill_fda19) dJ7_fill_fda19_16 rfl ?_
    refine z_iload (M := M_J7_fill_fda19) dJ7_fill_fda19_17 rfl ?_
    refine z_iload_n (M := M_J7_fill_fda19) dJ7_fill_fda19_19 rfl ?_
    obtain ⟨σ_12, σ_12_e, hi_13, H⟩ := wa_e H
    refine z_iast (M := M_J7_fill_fda19) dJ7_fill_fda19_20 h_a rfl rfl rfl hi_13 σ_12_e ?_
    refine z_iinc (M := M_J7_fill_fda19) (lv' := [some (vr a_0), some (vi fromIndex_0), some (vi toIndex_0), some (vi val_0), some (vi (i_2 + 1))]) dJ7_fill_fda19_21 rfl (Nat.le_of_ble_eq_true rfl) rfl rfl ?_
    refine z_goto (M := M_J7_fill_fda19) (tgt := 10) dJ7_fill_fda19_24 (by decide) ?_
    exact K_9 _ (Option.some.inj H).symm
  · refine z_icmp_ge_t (M := M_J7_fill_fda19) (tgt := 27) dJ7_fill_fda19_13 (by decide) rfl rfl (Int.not_lt.mp h_11) ?_
    exact J_18 _ _ (K_10 _ (Option.some.inj H).symm).symm
theorem c_X4_addIncident (hl : l.stackTraces = false) {σ : SG} {h_0 : Int} {piece_0 : Int} {σ' : SG}  (H : fG_addIncident σ h_0 piece_0 = some σ') : en_S l E M_X4_addIncident 1 0 0 [vr 208, vi h_0, vi piece_0] σ (pS (none) σ') := by
  unfold fG_addIncident at H
  refine z_mk (lv := [some (vr 208), some (vi h_0), some (vi piece_0)]) m_X4_addIncident rfl hl (Nat.le_of_ble_eq_true rfl) rfl ?_
  refine z_aload_n (M := M_X4_addIncident) dX4_addIncident_0 rfl ?_
  refine z_getR (M := M_X4_addIncident) (ci := 7) (C := RX4) (T := TX4) (Nf := 17) (ty := tyX4) cl7 dX4_addIncident_1 ly_208 7 (by decide) t_388 rfl ?_
  refine z_aload_n (M := M_X4_addIncident) dX4_addIncident_4 rfl ?_
  refine z_getR (M := M_X4_addIncident) (ci := 7) (C := RX4) (T := TX4) (Nf := 17) (ty := tyX4) cl7 dX4_addIncident_5 ly_208 6 (by decide) t_387 rfl ?_
  refine z_iload_n (M := M_X4_addIncident) dX4_addIncident_8 rfl ?_
  refine z_iconst (M := M_X4_addIncident) dX4_addIncident_9 ?_
  refine z_iadd (M := M_X4_addIncident) dX4_addIncident_10 ?_
  obtain ⟨x_1, x_1_e, hi_2, H⟩ := rd_e H
  refine z_iald (M := M_X4_addIncident) dX4_addIncident_11 ly_213 rfl rfl rfl hi_2 x_1_e ?_
  refine z_iload_n (M := M_X4_addIncident) dX4_addIncident_12 rfl ?_
  obtain ⟨σ_3, σ_3_e, hi_4, H⟩ := wa_e H
  refine z_iast (M := M_X4_addIncident) dX4_addIncident_13 ly_214 rfl rfl rfl hi_4 σ_3_e ?_
  refine z_aload_n (M := M_X4_addIncident) dX4_addIncident_14 rfl ?_
  refine z_getR (M := M_X4_addIncident) (ci := 7) (C := RX4) (T := TX4) (Nf := 17) (ty := tyX4) cl7 dX4_addIncident_15 ly_208 6 (by decide) t_387 rfl ?_
  refine z_iload_n (M := M_X4_addIncident) dX4_addIncident_18 rfl ?_
  refine z_iconst (M := M_X4_addIncident) dX4_addIncident_19 ?_
  refine z_iadd (M := M_X4_addIncident) dX4_addIncident_20 ?_
  refine z_dup2 (M := M_X4_addIncident) dX4_addIncident_21 rfl rfl ?_
  obtain ⟨x_5, x_5_e, hi_6, H⟩ := rd_e H
  refine z_iald (M := M_X4_addIncident) dX4_addIncident_22 ly_213 rfl rfl rfl hi_6 x_5_e ?_
  refine z_iconst (M := M_X4_addIncident) dX4_addIncident_23 ?_
  refine z_iadd (M := M_X4_addIncident) dX4_addIncident_24 ?_
  obtain ⟨σ_7, σ_7_e, hi_8, H⟩ := wa_e H
  refine z_iast (M := M_X4_addIncident) dX4_addIncident_25 ly_213 rfl rfl rfl hi_8 σ_7_e ?_
  cases H
  exact z_vret (M := M_X4_addIncident) dX4_addIncident_26 rfl (Nat.le_of_ble_eq_true rfl) (Nat.le_of_ble_eq_true rfl) ⟨rfl, rfl⟩
theorem c_X4_listIncident (hl : l.stackTraces = false) {σ : SG} {σ' : SG}  (H : fG_listIncident σ = some σ') : en_S l E M_X4_listIncident 3 0 0 [vr 208] σ (pS (none) σ') := by
  unfold fG_listIncident at H
  refine z_mk (lv := [some (vr 208), none, none]) m_X4_listIncident rfl hl (Nat.le_of_ble_eq_true rfl) rfl ?_
  refine z_aload_n (M := M_X4_listIncident) dX4_listIncident_0 rfl ?_
  refine z_getR (M := M_X4_listIncident) (ci := 7) (C := RX4) (T := TX4) (Nf := 17) (ty := tyX4) cl7 dX4_listIncident_1 ly_208 0 (by decide) t_381 rfl ?_
  refine z_getI (M := M_X4_listIncident) (ci := 11) (C := RX8) (T := TX8) (Nf := 13) (ty := tyX8) cl11 dX4_listIncident_4 ly_193 8 (by decide) t_337 rfl rfl ?_
  refine z_iconst (M := M_X4_listIncident) dX4_listIncident_7 ?_
  refine z_iadd (M := M_X4_listIncident) dX4_listIncident_8 ?_
  refine z_istore_n (M := M_X4_listIncident) (lv' := [some (vr 208), some (vi ((σ kN_hot 0) + 2)), none]) dX4_listIncident_9 (Nat.le_of_ble_eq_true rfl) rfl rfl ?_
  refine z_aload_n (M := M_X4_listIncident) dX4_listIncident_10 rfl ?_
  refine z_getR (M := M_X4_listIncident) (ci := 7) (C := RX4) (T := TX4) (Nf := 17) (ty := tyX4) cl7 dX4_listIncident_11 ly_208 6 (by decide) t_387 rfl ?_
  refine z_iconst (M := M_X4_listIncident) dX4_listIncident_14 ?_
  refine z_iload_n (M := M_X4_listIncident) dX4_listIncident_15 rfl ?_
  refine z_iconst (M := M_X4_listIncident) dX4_listIncident_16 ?_
  obtain ⟨σ_2, hc_1, H⟩ := bd_e H
  refine z_callS (M := M_X4_listIncident) (M' := M_J7_fill_fda19) (as := [vr 213, vi 0, vi ((σ kN_hot 0) + 2), vi 0]) (rest := []) rfl rfl dX4_listIncident_17 m_J7_fill_fda19 t_1521 t_1522 (c_J7_fill_fda19 hl ly_213 hc_1) rfl rfl (Nat.le_of_ble_eq_true rfl) (Nat.le_of_ble_eq_true rfl) (Nat.le_of_ble_eq_true rfl) (Nat.le_of_ble_eq_true rfl) ?_
  refine z_st (st' := []) rfl ?_
  refine z_iconst (M := M_X4_listIncident) dX4_listIncident_20 ?_
  refine z_istore_n (M := M_X4_listIncident) (lv' := [some (vr 208), some (vi ((σ kN_hot 0) + 2)), some (vi 0)]) dX4_listIncident_21 (Nat.le_of_ble_eq_true rfl) rfl rfl ?_
  obtain ⟨rl_8, hw_5, hk_6⟩ := bd_e H
  have J_95 : ∀ piece_38 σ_39, rl_8 = (piece_38, σ_39) → YY l E M_X4_listIncident 3 0 0 (pS (none) σ') 88 [some (vr 208), some (vi ((σ kN_hot 0) + 2)), some (vi piece_38)] [] σ_39 0 0 := by
    intro piece_38 σ_39 e
    have H := hk_6
    rw [e] at H
    refine z_iconst (M := M_X4_listIncident) dX4_listIncident_88 ?_
    refine z_istore_n (M := M_X4_listIncident) (lv' := [some (vr 208), some (vi ((σ kN_hot 0) + 2)), some (vi 2)]) dX4_listIncident_89 (Nat.le_of_ble_eq_true rfl) rfl rfl ?_
    obtain ⟨rl_45, hw_42, hk_43⟩ := bd_e H
    have J_94 : ∀ h_58 σ_59, rl_45 = (h_58, σ_59) → YY l E M_X4_listIncident 3 0 0 (pS (none) σ') 118 [some (vr 208), some (vi ((σ kN_hot 0) + 2)), some (vi h_58)] [] σ_59 0 0 := by
      intro h_58 σ_59 e
      have H := hk_43
      rw [e] at H
      refine z_iconst (M := M_X4_listIncident) dX4_listIncident_118 ?_
      refine z_istore_n (M := M_X4_listIncident) (lv' := [some (vr 208), some (vi ((σ kN_hot 0) + 2)), some (vi 0)]) dX4_listIncident_119 (Nat.le_of_ble_eq_true rfl) rfl rfl ?_
      obtain ⟨rl_65, hw_62, hk_63⟩ := bd_e H
      have J_93 : ∀ piece_91 σ_92, rl_65 = (piece_91, σ_92) → YY l E M_X4_listIncident 3 0 0 (pS (none) σ') 174 [some (vr 208), some (vi ((σ kN_hot 0) + 2)), some (vi piece_91)] [] σ_92 0 0 := by
        intro piece_91 σ_92 e
        have H := hk_63
        rw [e] at H
        cases H
        exact z_vret (M := M_X4_listIncident) dX4_listIncident_174 rfl (Nat.le_of_ble_eq_true rfl) (Nat.le_of_ble_eq_true rfl) ⟨rfl, rfl⟩
      refine whl_go hw_62 (fun (piece_60, σ_61) => YY l E M_X4_listIncident 3 0 0 (pS (none) σ') 120 [some (vr 208), some (vi ((σ kN_hot 0) + 2)), some (vi piece_60)] [] σ_61 0 0) ?_
      rintro ⟨piece_60, σ_61⟩ o_66 H K_67 K_68
      refine z_iload_n (M := M_X4_listIncident) dX4_listIncident_120 rfl ?_
      refine z_aload_n (M := M_X4_listIncident) dX4_listIncident_121 rfl ?_
      refine z_getR (M := M_X4_listIncident) (ci := 7) (C := RX4) (T := TX4) (Nf := 17) (ty := tyX4) cl7 dX4_listIncident_122 ly_208 0 (by decide) t_381 rfl ?_
      refine z_getI (M := M_X4_listIncident) (ci := 11) (C := RX8) (T := TX8) (Nf := 13) (ty := tyX8) cl11 dX4_listIncident_125 ly_193 12 (by decide) t_345 rfl rfl ?_
      rcases if_e H with ⟨h_69, H⟩ | ⟨h_69, H⟩
      · refine z_icmp_ge_f (M := M_X4_listIncident) (tgt := 174) dX4_listIncident_128 (by decide) rfl rfl h_69 ?_
        obtain ⟨v_73, he_70, hk_71⟩ := bd_e H
        have J_89 : ∀ σ_87, v_73 = σ_87 → YY l E M_X4_listIncident 3 0 0 (pS (none) σ') 168 [some (vr 208), some (vi ((σ kN_hot 0) + 2)), some (vi piece_60)] [] σ_87 0 0 := by
          intro σ_87 e
          have H := hk_71
          rw [e] at H
          refine z_iinc (M := M_X4_listIncident) (lv' := [some (vr 208), some (vi ((σ kN_hot 0) + 2)), some (vi (piece_60 + 1))]) dX4_listIncident_168 rfl (Nat.le_of_ble_eq_true rfl) rfl rfl ?_
          refine z_goto (M := M_X4_listIncident) (tgt := 120) dX4_listIncident_171 (by decide) ?_
          exact K_67 _ (Option.some.inj H).symm
        have H := he_70
        refine z_aload_n (M := M_X4_listIncident) dX4_listIncident_131 rfl ?_
        refine z_getR (M := M_X4_listIncident) (ci := 7) (C := RX4) (T := TX4) (Nf := 17) (ty := tyX4) cl7 dX4_listIncident_132 ly_208 4 (by decide) t_385 rfl ?_
        refine z_iload_n (M := M_X4_listIncident) dX4_listIncident_135 rfl ?_
        obtain ⟨x_74, x_74_e, hi_75, H⟩ := rd_e H
        refine z_zald (M := M_X4_listIncident) dX4_listIncident_136 ly_211 rfl rfl rfl hi_75 x_74_e ?_
        rcases if_e H with ⟨h_76, H⟩ | ⟨h_76, H⟩
        · refine z_zeq_f (M := M_X4_listIncident) (tgt := 168) dX4_listIncident_137 (by decide) h_76 ?_
          refine z_aload_n (M := M_X4_listIncident) dX4_listIncident_140 rfl ?_
          refine z_aload_n (M := M_X4_listIncident) dX4_listIncident_141 rfl ?_
          refine z_getR (M := M_X4_listIncident) (ci := 7) (C := RX4) (T := TX4) (Nf := 17) (ty := tyX4) cl7 dX4_listIncident_142 ly_208 0 (by decide) t_381 rfl ?_
          refine z_getR (M := M_X4_listIncident) (ci := 11) (C := RX8) (T := TX8) (Nf := 13) (ty := tyX8) cl11 dX4_listIncident_145 ly_193 9 (by decide) t_340 rfl ?_
          refine z_iload_n (M := M_X4_listIncident) dX4_listIncident_148 rfl ?_
          obtain ⟨x_77, x_77_e, hi_78, H⟩ := rd_e H
          refine z_iald (M := M_X4_listIncident) dX4_listIncident_149 ly_205 rfl rfl rfl hi_78 x_77_e ?_
          refine z_iload_n (M := M_X4_listIncident) dX4_listIncident_150 rfl ?_
          obtain ⟨σ_80, hc_79, H⟩ := bd_e H
          refine z_callV (M := M_X4_listIncident) (M' := M_X4_addIncident) (as := [vi x_77, vi piece_60]) (rest := []) rfl rfl dX4_listIncident_151 m_X4_addIncident t_1777 t_1779 s_86 (c_X4_addIncident hl  hc_79) rfl rfl ly_208 rfl (Nat.le_of_ble_eq_true rfl) (Nat.le_of_ble_eq_true rfl) (Nat.le_of_ble_eq_true rfl) (Nat.le_of_ble_eq_true rfl) ?_
          refine z_st (st' := []) rfl ?_
          refine z_aload_n (M := M_X4_listIncident) dX4_listIncident_154 rfl ?_
          refine z_aload_n (M := M_X4_listIncident) dX4_listIncident_155 rfl ?_
          refine z_getR (M := M_X4_listIncident) (ci := 7) (C := RX4) (T := TX4) (Nf := 17) (ty := tyX4) cl7 dX4_listIncident_156 ly_208 0 (by decide) t_381 rfl ?_
          refine z_getR (M := M_X4_listIncident) (ci := 11) (C := RX8) (T := TX8) (Nf := 13) (ty := tyX8) cl11 dX4_listIncident_159 ly_193 10 (by decide) t_342 rfl ?_
          refine z_iload_n (M := M_X4_listIncident) dX4_listIncident_162 rfl ?_
          obtain ⟨x_81, x_81_e, hi_82, H⟩ := rd_e H
          refine z_iald (M := M_X4_listIncident) dX4_listIncident_163 ly_206 rfl rfl rfl hi_82 x_81_e ?_
          refine z_iload_n (M := M_X4_listIncident) dX4_listIncident_164 rfl ?_
          obtain ⟨σ_84, hc_83, H⟩ := bd_e H
          refine z_callV (M := M_X4_listIncident) (M' := M_X4_addIncident) (as := [vi x_81, vi piece_60]) (rest := []) rfl rfl dX4_listIncident_165 m_X4_addIncident t_1777 t_1779 s_86 (c_X4_addIncident hl  hc_83) rfl rfl ly_208 rfl (Nat.le_of_ble_eq_true rfl) (Nat.le_of_ble_eq_true rfl) (Nat.le_of_ble_eq_true rfl) (Nat.le_of_ble_eq_true rfl) ?_
          refine z_st (st' := []) rfl ?_
          exact J_89 _ (Option.some.inj H).symm
        · refine z_zeq_t (M := M_X4_listIncident) (tgt := 168) dX4_listIncident_137 (by decide) h_76 ?_
          exact J_89 _ (Option.some.inj H).symm
      · refine z_icmp_ge_t (M := M_X4_listIncident) (tgt := 174) dX4_listIncident_128 (by decide) rfl rfl (Int.not_lt.mp h_69) ?_
        exact J_93 _ _ (K_68 _ (Option.some.inj H).symm).symm
    refine whl_go hw_42 (fun (h_40, σ_41) => YY l E M_X4_listIncident 3 0 0 (pS (none) σ') 90 [some (vr 208), some (vi ((σ kN_hot 0) + 2)), some (vi h_40)] [] σ_41 0 0) ?_
    rintro ⟨h_40, σ_41⟩ o_46 H K_47 K_48
    refine z_iload_n (M := M_X4_listIncident) dX4_listIncident_90 rfl ?_
    refine z_iload_n (M := M_X4_listIncident) dX4_listIncident_91 rfl ?_
    rcases if_e H with ⟨h_49, H⟩ | ⟨h_49, H⟩
    · refine z_icmp_ge_f (M := M_X4_listIncident) (tgt := 118) dX4_listIncident_92 (by decide) rfl rfl h_49 ?_
      refine z_aload_n (M := M_X4_listIncident) dX4_listIncident_95 rfl ?_
      refine z_getR (M := M_X4_listIncident) (ci := 7) (C := RX4) (T := TX4) (Nf := 17) (ty := tyX4) cl7 dX4_listIncident_96 ly_208 6 (by decide) t_387 rfl ?_
      refine z_iload_n (M := M_X4_listIncident) dX4_listIncident_99 rfl ?_
      refine z_dup2 (M := M_X4_listIncident) dX4_listIncident_100 rfl rfl ?_
      obtain ⟨x_50, x_50_e, hi_51, H⟩ := rd_e H
      refine z_iald (M := M_X4_listIncident) dX4_listIncident_101 ly_213 rfl rfl rfl hi_51 x_50_e ?_
      refine z_aload_n (M := M_X4_listIncident) dX4_listIncident_102 rfl ?_
      refine z_getR (M := M_X4_listIncident) (ci := 7) (C := RX4) (T := TX4) (Nf := 17) (ty := tyX4) cl7 dX4_listIncident_103 ly_208 6 (by decide) t_387 rfl ?_
      refine z_iload_n (M := M_X4_listIncident) dX4_listIncident_106 rfl ?_
      refine z_iconst (M := M_X4_listIncident) dX4_listIncident_107 ?_
      refine z_isub (M := M_X4_listIncident) dX4_listIncident_108 ?_
      obtain ⟨x_52, x_52_e, hi_53, H⟩ := rd_e H
      refine z_iald (M := M_X4_listIncident) dX4_listIncident_109 ly_213 rfl rfl rfl hi_53 x_52_e ?_
      refine z_iadd (M := M_X4_listIncident) dX4_listIncident_110 ?_
      obtain ⟨σ_54, σ_54_e, hi_55, H⟩ := wa_e H
      refine z_iast (M := M_X4_listIncident) dX4_listIncident_111 ly_213 rfl rfl rfl hi_55 σ_54_e ?_
      refine z_iinc (M := M_X4_listIncident) (lv' := [some (vr 208), some (vi ((σ kN_hot 0) + 2)), some (vi (h_40 + 1))]) dX4_listIncident_112 rfl (Nat.le_of_ble_eq_true rfl) rfl rfl ?_
      refine z_goto (M := M_X4_listIncident) (tgt := 90) dX4_listIncident_115 (by decide) ?_
      exact K_47 _ (Option.some.inj H).symm
    · refine z_icmp_ge_t (M := M_X4_listIncident) (tgt := 118) dX4_listIncident_92 (by decide) rfl rfl (Int.not_lt.mp h_49) ?_
      exact J_94 _ _ (K_48 _ (Option.some.inj H).symm).symm
  refine whl_go hw_5 (fun (piece_3, σ_4) => YY l E M_X4_listIncident 3 0 0 (pS (none) σ') 22 [some (vr 208), some (vi ((σ kN_hot 0) + 2)), some (vi piece_3)] [] σ_4 0 0) ?_
  rintro ⟨piece_3, σ_4⟩ o_9 H K_10 K_11
  refine z_iload_n (M := M_X4_listIncident) dX4_listIncident_22 rfl ?_
  refine z_aload_n (M := M_X4_listIncident) dX4_listIncident_23 rfl ?_
  refine z_getR (M := M_X4_listIncident) (ci := 7) (C := RX4) (T := TX4) (Nf := 17) (ty := tyX4) cl7 dX4_listIncident_24 ly_208 0 (by decide) t_381 rfl ?_
  refine z_getI (M := M_X4_listIncident) (ci := 11) (C := RX8) (T := TX8) (Nf := 13) (ty := tyX8) cl11 dX4_listIncident_27 ly_193 12 (by decide) t_345 rfl rfl ?_
  rcases if_e H with ⟨h_12, H⟩ | ⟨h_12, H⟩
  · refine z_icmp_ge_f (M := M_X4_listIncident) (tgt := 88) dX4_listIncident_30 (by decide) rfl rfl h_12 ?_
    obtain ⟨v_16, he_13, hk_14⟩ := bd_e H
    have J_36 : ∀ σ_34, v_16 = σ_34 → YY l E M_X4_listIncident 3 0 0 (pS (none) σ') 82 [some (vr 208), some (vi ((σ kN_hot 0) + 2)), some (vi piece_3)] [] σ_34 0 0 := by
      intro σ_34 e
      have H := hk_14
      rw [e] at H
      refine z_iinc (M := M_X4_listIncident) (lv' := [some (vr 208), some (vi ((σ kN_hot 0) + 2)), some (vi (piece_3 + 1))]) dX4_listIncident_82 rfl (Nat.le_of_ble_eq_true rfl) rfl rfl ?_
      refine z_goto (M := M_X4_listIncident) (tgt := 22) dX4_listIncident_85 (by decide) ?_
      exact K_10 _ (Option.some.inj H).symm
    have H := he_13
    refine z_aload_n (M := M_X4_listIncident) dX4_listIncident_33 rfl ?_
    refine z_getR (M := M_X4_listIncident) (ci := 7) (C := RX4) (T := TX4) (Nf := 17) (ty := tyX4) cl7 dX4_listIncident_34 ly_208 4 (by decide) t_385 rfl ?_
    refine z_iload_n (M := M_X4_listIncident) dX4_listIncident_37 rfl ?_
    obtain ⟨x_17, x_17_e, hi_18, H⟩ := rd_e H
    refine z_zald (M := M_X4_listIncident) dX4_listIncident_38 ly_211 rfl rfl rfl hi_18 x_17_e ?_
    rcases if_e H with ⟨h_19, H⟩ | ⟨h_19, H⟩
    · refine z_zeq_f (M := M_X4_listIncident) (tgt := 82) dX4_listIncident_39 (by decide) h_19 ?_
      refine z_aload_n (M := M_X4_listIncident) dX4_listIncident_42 rfl ?_
      refine z_getR (M := M_X4_listIncident) (ci := 7) (C := RX4) (T := TX4) (Nf := 17) (ty := tyX4) cl7 dX4_listIncident_43 ly_208 6 (by decide) t_387 rfl ?_
      refine z_aload_n (M := M_X4_listIncident) dX4_listIncident_46 rfl ?_
      refine z_getR (M := M_X4_listIncident) (ci := 7) (C := RX4) (T := TX4) (Nf := 17) (ty := tyX4) cl7 dX4_listIncident_47 ly_208 0 (by decide) t_381 rfl ?_
      refine z_getR (M := M_X4_listIncident) (ci := 11) (C := RX8) (T := TX8) (Nf := 13) (ty := tyX8) cl11 dX4_listIncident_50 ly_193 9 (by decide) t_340 rfl ?_
      refine z_iload_n (M := M_X4_listIncident) dX4_listIncident_53 rfl ?_
      obtain ⟨x_20, x_20_e, hi_21, H⟩ := rd_e H
      refine z_iald (M := M_X4_listIncident) dX4_listIncident_54 ly_205 rfl rfl rfl hi_21 x_20_e ?_
      refine z_iconst (M := M_X4_listIncident) dX4_listIncident_55 ?_
      refine z_iadd (M := M_X4_listIncident) dX4_listIncident_56 ?_
      refine z_dup2 (M := M_X4_listIncident) dX4_listIncident_57 rfl rfl ?_
      obtain ⟨x_22, x_22_e, hi_23, H⟩ := rd_e H
      refine z_iald (M := M_X4_listIncident) dX4_listIncident_58 ly_213 rfl rfl rfl hi_23 x_22_e ?_
      refine z_iconst (M := M_X4_listIncident) dX4_listIncident_59 ?_
      refine z_iadd (M := M_X4_listIncident) dX4_listIncident_60 ?_
      obtain ⟨σ_24, σ_24_e, hi_25, H⟩ := wa_e H
      refine z_iast (M := M_X4_listIncident) dX4_listIncident_61 ly_213 rfl rfl rfl hi_25 σ_24_e ?_
      refine z_aload_n (M := M_X4_listIncident) dX4_listIncident_62 rfl ?_
      refine z_getR (M := M_X4_listIncident) (ci := 7) (C := RX4) (T := TX4) (Nf := 17) (ty := tyX4) cl7 dX4_listIncident_63 ly_208 6 (by decide) t_387 rfl ?_
      refine z_aload_n (M := M_X4_listIncident) dX4_listIncident_66 rfl ?_
      refine z_getR (M := M_X4_listIncident) (ci := 7) (C := RX4) (T := TX4) (Nf := 17) (ty := tyX4) cl7 dX4_listIncident_67 ly_208 0 (by decide) t_381 rfl ?_
      refine z_getR (M := M_X4_listIncident) (ci := 11) (C := RX8) (T := TX8) (Nf := 13) (ty := tyX8) cl11 dX4_listIncident_70 ly_193 10 (by decide) t_342 rfl ?_
      refine z_iload_n (M := M_X4_listIncident) dX4_listIncident_73 rfl ?_
      obtain ⟨x_26, x_26_e, hi_27, H⟩ := rd_e H
      refine z_iald (M := M_X4_listIncident) dX4_listIncident_74 ly_206 rfl rfl rfl hi_27 x_26_e ?_
      refine z_iconst (M := M_X4_listIncident) dX4_listIncident_75 ?_
      refine z_iadd (M := M_X4_listIncident) dX4_listIncident_76 ?_
      refine z_dup2 (M := M_X4_listIncident) dX4_listIncident_77 rfl rfl ?_
      obtain ⟨x_28, x_28_e, hi_29, H⟩ := rd_e H
      refine z_iald (M := M_X4_listIncident) dX4_listIncident_78 ly_213 rfl rfl rfl hi_29 x_28_e ?_
      refine z_iconst (M := M_X4_listIncident) dX4_listIncident_79 ?_
      refine z_iadd (M := M_X4_listIncident) dX4_listIncident_80 ?_
      obtain ⟨σ_30, σ_30_e, hi_31, H⟩ := wa_e H
      refine z_iast (M := M_X4_listIncident) dX4_listIncident_81 ly_213 rfl rfl rfl hi_31 σ_30_e ?_
      exact J_36 _ (Option.some.inj H).symm
    · refine z_zeq_t (M := M_X4_listIncident) (tgt := 82) dX4_listIncident_39 (by decide) h_19 ?_
      exact J_36 _ (Option.some.inj H).symm
  · refine z_icmp_ge_t (M := M_X4_listIncident) (tgt := 88) dX4_listIncident_30 (by decide) rfl rfl (Int.not_lt.mp h_12) ?_
    exact J_95 _ _ (K_11 _ (Option.some.inj H).symm).symm
theorem c_X4_isInResult (hl : l.stackTraces = false) {σ : SG} {way_0 : Int} {inside_0 : Int} {r : Bool}  (H : fG_isInResult way_0 inside_0 = r) : en_S l E M_X4_isInResult 1 0 0 [vi way_0, vi inside_0] σ (pS (some (zv r)) σ) := by
  unfold fG_isInResult at H
  refine z_mk (lv := [some (vi way_0), some (vi inside_0), none, none]) m_X4_isInResult rfl hl (Nat.le_of_ble_eq_true rfl) rfl ?_
  have J_1 : YY l E M_X4_isInResult 1 0 0 (pS (some (zv r)) σ) 11 [some (vi way_0), some (vi inside_0), none, none] [zv (decide (¬ (w32 (q_ian inside_0 1)) = 0))] σ 0 0 := by
    refine z_zstore_n (M := M_X4_isInResult) (lv' := [some (vi way_0), some (vi inside_0), some (zv (decide (¬ (w32 (q_ian inside_0 1)) = 0))), none]) dX4_isInResult_11 (Nat.le_of_ble_eq_true rfl) rfl rfl ?_
    have J_2 : YY l E M_X4_isInResult 1 0 0 (pS (some (zv r)) σ) 23 [some (vi way_0), some (vi inside_0), some (zv (decide (¬ (w32 (q_ian inside_0 1)) = 0))), none] [zv (decide (¬ (w32 (q_ian inside_0 2)) = 0))] σ 0 0 := by
      refine z_zstore_n (M := M_X4_isInResult) (lv' := [some (vi way_0), some (vi inside_0), some (zv (decide (¬ (w32 (q_ian inside_0 1)) = 0))), some (zv (decide (¬ (w32 (q_ian inside_0 2)) = 0)))]) dX4_isInResult_23 (Nat.le_of_ble_eq_true rfl) rfl rfl ?_
      refine z_iload_n (M := M_X4_isInResult) dX4_isInResult_24 rfl ?_
      rcases if_e H with ⟨h_3, H⟩ | ⟨h_3, H⟩
      · refine z_tabIn (M := M_X4_isInResult) (tgt := 56) (off := 31) dX4_isInResult_25 h_3 (by decide) (by decide) rfl (by decide) ?_
        have J_4 : YY l E M_X4_isInResult 1 0 0 (pS (some (zv r)) σ) 69 [some (vi way_0), some (vi inside_0), some (zv (decide (¬ (w32 (q_ian inside_0 1)) = 0))), some (zv (decide (¬ (w32 (q_ian inside_0 2)) = 0)))] [zv (decide (((decide (¬ (w32 (q_ian inside_0 1)) = 0)) = true) ∧ ((decide (¬ (w32 (q_ian inside_0 2)) = 0)) = true)))] σ 0 0 := by
          cases H
          exact z_zret (M := M_X4_isInResult) dX4_isInResult_69 rfl (Nat.le_of_ble_eq_true rfl) (Nat.le_of_ble_eq_true rfl) ⟨rfl, rfl⟩
        refine z_zload_n (M := M_X4_isInResult) dX4_isInResult_56 rfl ?_
        by_cases h_5 : (decide (¬ (w32 (q_ian inside_0 1)) = 0)) = true
        · refine z_zeq_f (M := M_X4_isInResult) (tgt := 68) dX4_isInResult_57 (by decide) h_5 ?_
          refine z_zload_n (M := M_X4_isInResult) dX4_isInResult_60 rfl ?_
          by_cases h_6 : (decide (¬ (w32 (q_ian inside_0 2)) = 0)) = true
          · refine z_zeq_f (M := M_X4_isInResult) (tgt := 68) dX4_isInResult_61 (by decide) h_6 ?_
            refine z_iconst (M := M_X4_isInResult) dX4_isInResult_64 ?_
            refine z_goto (M := M_X4_isInResult) (tgt := 69) dX4_isInResult_65 (by decide) ?_
            exact z_st (by rw [zv_t (p := ((decide (¬ (w32 (q_ian inside_0 1)) = 0)) = true) ∧ ((decide (¬ (w32 (q_ian inside_0 2)) = 0)) = true)) ⟨h_5, h_6⟩]) J_4
          · refine z_zeq_t (M := M_X4_isInResult) (tgt := 68) dX4_isInResult_61 (by decide) h_6 ?_
            refine z_iconst (M := M_X4_isInResult) dX4_isInResult_68 ?_
            exact z_st (by rw [zv_f (p := ((decide (¬ (w32 (q_ian inside_0 1)) = 0)) = true) ∧ ((decide (¬ (w32 (q_ian inside_0 2)) = 0)) = true)) (fun q => h_6 q.2)]) J_4
        · refine z_zeq_t (M := M_X4_isInResult) (tgt := 68) dX4_isInResult_57 (by decide) h_5 ?_
          refine z_iconst (M := M_X4_isInResult) dX4_isInResult_68 ?_
          exact z_st (by rw [zv_f (p := ((decide (¬ (w32 (q_ian inside_0 1)) = 0)) = true) ∧ ((decide (¬ (w32 (q_ian inside_0 2)) = 0)) = true)) (fun q => h_5 q.1)]) J_4
      · rcases if_e H with ⟨h_7, H⟩ | ⟨h_7, H⟩
        · refine z_tabIn (M := M_X4_isInResult) (tgt := 70) (off := 45) dX4_isInResult_25 h_7 (by decide) (by decide) rfl (by decide) ?_
          have J_8 : YY l E M_X4_isInResult 1 0 0 (pS (some (zv r)) σ) 83 [some (vi way_0), some (vi inside_0), some (zv (decide (¬ (w32 (q_ian inside_0 1)) = 0))), some (zv (decide (¬ (w32 (q_ian inside_0 2)) = 0)))] [zv (decide (((decide (¬ (w32 (q_ian inside_0 1)) = 0)) = true) ∨ ((decide (¬ (w32 (q_ian inside_0 2)) = 0)) = true)))] σ 0 0 := by
            cases H
            exact z_zret (M := M_X4_isInResult) dX4_isInResult_83 rfl (Nat.le_of_ble_eq_true rfl) (Nat.le_of_ble_eq_true rfl) ⟨rfl, rfl⟩
          refine z_zload_n (M := M_X4_isInResult) dX4_isInResult_70 rfl ?_
          by_cases h_9 : (decide (¬ (w32 (q_ian inside_0 1)) = 0)) = true
          · refine z_zne_t (M := M_X4_isInResult) (tgt := 78) dX4_isInResult_71 (by decide) h_9 ?_
            refine z_iconst (M := M_X4_isInResult) dX4_isInResult_78 ?_
            refine z_goto (M := M_X4_isInResult) (tgt := 83) dX4_isInResult_79 (by decide) ?_
            exact z_st (by rw [zv_t (p := ((decide (¬ (w32 (q_ian inside_0 1)) = 0)) = true) ∨ ((decide (¬ (w32 (q_ian inside_0 2)) = 0)) = true)) (Or.inl h_9)]) J_8
          · refine z_zne_f (M := M_X4_isInResult) (tgt := 78) dX4_isInResult_71 (by decide) h_9 ?_
            refine z_zload_n (M := M_X4_isInResult) dX4_isInResult_74 rfl ?_
            by_cases h_10 : (decide (¬ (w32 (q_ian inside_0 2)) = 0)) = true
            · refine z_zeq_f (M := M_X4_isInResult) (tgt := 82) dX4_isInResult_75 (by decide) h_10 ?_
              refine z_iconst (M := M_X4_isInResult) dX4_isInResult_78 ?_
              refine z_goto (M := M_X4_isInResult) (tgt := 83) dX4_isInResult_79 (by decide) ?_
              exact z_st (by rw [zv_t (p := ((decide (¬ (w32 (q_ian inside_0 1)) = 0)) = true) ∨ ((decide (¬ (w32 (q_ian inside_0 2)) = 0)) = true)) (Or.inr h_10)]) J_8
            · refine z_zeq_t (M := M_X4_isInResult) (tgt := 82) dX4_isInResult_75 (by decide) h_10 ?_
              refine z_iconst (M := M_X4_isInResult) dX4_isInResult_82 ?_
              exact z_st (by rw [zv_f (p := ((decide (¬ (w32 (q_ian inside_0 1)) = 0)) = true) ∨ ((decide (¬ (w32 (q_ian inside_0 2)) = 0)) = true)) (fun q => q.elim h_9 h_10)]) J_8
        · rcases if_e H with ⟨h_11, H⟩ | ⟨h_11, H⟩
          · refine z_tabIn (M := M_X4_isInResult) (tgt := 84) (off := 59) dX4_isInResult_25 h_11 (by decide) (by decide) rfl (by decide) ?_
            have J_12 : YY l E M_X4_isInResult 1 0 0 (pS (some (zv r)) σ) 97 [some (vi way_0), some (vi inside_0), some (zv (decide (¬ (w32 (q_ian inside_0 1)) = 0))), some (zv (decide (¬ (w32 (q_ian inside_0 2)) = 0)))] [zv (decide (((decide (¬ (w32 (q_ian inside_0 1)) = 0)) = true) ∧ (¬ ((decide (¬ (w32 (q_ian inside_0 2)) = 0)) = true))))] σ 0 0 := by
              cases H
              exact z_zret (M := M_X4_isInResult) dX4_isInResult_97 rfl (Nat.le_of_ble_eq_true rfl) (Nat.le_of_ble_eq_true rfl) ⟨rfl, rfl⟩
            refine z_zload_n (M := M_X4_isInResult) dX4_isInResult_84 rfl ?_
            by_cases h_13 : (decide (¬ (w32 (q_ian inside_0 1)) = 0)) = true
            · refine z_zeq_f (M := M_X4_isInResult) (tgt := 96) dX4_isInResult_85 (by decide) h_13 ?_
              refine z_zload_n (M := M_X4_isInResult) dX4_isInResult_88 rfl ?_
              by_cases h_14 : (decide (¬ (w32 (q_ian inside_0 2)) = 0)) = true
              · refine z_zne_t (M := M_X4_isInResult) (tgt := 96) dX4_isInResult_89 (by decide) h_14 ?_
                refine z_iconst (M := M_X4_isInResult) dX4_isInResult_96 ?_
                exact z_st (by rw [zv_f (p := ((decide (¬ (w32 (q_ian inside_0 1)) = 0)) = true) ∧ (¬ ((decide (¬ (w32 (q_ian inside_0 2)) = 0)) = true))) (fun q => (not_not_intro h_14) q.2)]) J_12
              · refine z_zne_f (M := M_X4_isInResult) (tgt := 96) dX4_isInResult_89 (by decide) h_14 ?_
                refine z_iconst (M := M_X4_isInResult) dX4_isInResult_92 ?_
                refine z_goto (M := M_X4_isInResult) (tgt := 97) dX4_isInResult_93 (by decide) ?_
                exact z_st (by rw [zv_t (p := ((decide (¬ (w32 (q_ian inside_0 1)) = 0)) = true) ∧ (¬ ((decide (¬ (w32 (q_ian inside_0 2)) = 0)) = true))) ⟨h_13, h_14⟩]) J_12
            · refine z_zeq_t (M := M_X4_isInResult) (tgt := 96) dX4_isInResult_85 (by decide) h_13 ?_
              refine z_iconst (M := M_X4_isInResult) dX4_isInResult_96 ?_
              exact z_st (by rw [zv_f (p := ((decide (¬ (w32 (q_ian inside_0 1)) = 0)) = true) ∧ (¬ ((decide (¬ (w32 (q_ian inside_0 2)) = 0)) = true))) (fun q => h_13 q.1)]) J_12
          · rcases if_e H with ⟨h_15, H⟩ | ⟨h_15, H⟩
            · refine z_tabIn (M := M_X4_isInResult) (tgt := 98) (off := 73) dX4_isInResult_25 h_15 (by decide) (by decide) rfl (by decide) ?_
              have J_16 : YY l E M_X4_isInResult 1 0 0 (pS (some (zv r)) σ) 108 [some (vi way_0), some (vi inside_0), some (zv (decide (¬ (w32 (q_ian inside_0 1)) = 0))), some (zv (decide (¬ (w32 (q_ian inside_0 2)) = 0)))] [zv (decide (¬ (decide (¬ (w32 (q_ian inside_0 1)) = 0)) = (decide (¬ (w32 (q_ian inside_0 2)) = 0))))] σ 0 0 := by
                cases H
                exact z_zret (M := M_X4_isInResult) dX4_isInResult_108 rfl (Nat.le_of_ble_eq_true rfl) (Nat.le_of_ble_eq_true rfl) ⟨rfl, rfl⟩
              refine z_zload_n (M := M_X4_isInResult) dX4_isInResult_98 rfl ?_
              refine z_zload_n (M := M_X4_isInResult) dX4_isInResult_99 rfl ?_
              by_cases h_17 : ¬ (decide (¬ (w32 (q_ian inside_0 1)) = 0)) = (decide (¬ (w32 (q_ian inside_0 2)) = 0))
              · refine z_ceq_f (M := M_X4_isInResult) (tgt := 107) dX4_isInResult_100 (by decide)  h_17 ?_
                refine z_iconst (M := M_X4_isInResult) dX4_isInResult_103 ?_
                refine z_goto (M := M_X4_isInResult) (tgt := 108) dX4_isInResult_104 (by decide) ?_
                exact z_st (by rw [zv_t (p := ¬ (decide (¬ (w32 (q_ian inside_0 1)) = 0)) = (decide (¬ (w32 (q_ian inside_0 2)) = 0))) h_17]) J_16
              · refine z_ceq_t (M := M_X4_isInResult) (tgt := 107) dX4_isInResult_100 (by decide)  (Decidable.not_not.mp h_17) ?_
                refine z_iconst (M := M_X4_isInResult) dX4_isInResult_107 ?_
                exact z_st (by rw [zv_f (p := ¬ (decide (¬ (w32 (q_ian inside_0 1)) = 0)) = (decide (¬ (w32 (q_ian inside_0 2)) = 0))) h_17]) J_16
            · refine z_tabOut (M := M_X4_isInResult) (tgt := 109) dX4_isInResult_25 rfl (by omega) (by decide) ?_
              have J_18 : YY l E M_X4_isInResult 1 0 0 (pS (some (zv r)) σ) 122 [some (vi way_0), some (vi inside_0), some (zv (decide (¬ (w32 (q_ian inside_0 1)) = 0))), some (zv (decide (¬ (w32 (q_ian inside_0 2)) = 0)))] [zv (decide (((decide (¬ (w32 (q_ian inside_0 2)) = 0)) = true) ∧ (¬ ((decide (¬ (w32 (q_ian inside_0 1)) = 0)) = true))))] σ 0 0 := by
                cases H
                exact z_zret (M := M_X4_isInResult) dX4_isInResult_122 rfl (Nat.le_of_ble_eq_true rfl) (Nat.le_of_ble_eq_true rfl) ⟨rfl, rfl⟩
              refine z_zload_n (M := M_X4_isInResult) dX4_isInResult_109 rfl ?_
              by_cases h_19 : (decide (¬ (w32 (q_ian inside_0 2)) = 0)) = true
              · refine z_zeq_f (M := M_X4_isInResult) (tgt := 121) dX4_isInResult_110 (by decide) h_19 ?_
                refine z_zload_n (M := M_X4_isInResult) dX4_isInResult_113 rfl ?_
                by_cases h_20 : (decide (¬ (w32 (q_ian inside_0 1)) = 0)) = true
                · refine z_zne_t (M := M_X4_isInResult) (tgt := 121) dX4_isInResult_114 (by decide) h_20 ?_
                  refine z_iconst (M := M_X4_isInResult) dX4_isInResult_121 ?_
                  exact z_st (by rw [zv_f (p := ((decide (¬ (w32 (q_ian inside_0 2)) = 0)) = true) ∧ (¬ ((decide (¬ (w32 (q_ian inside_0 1)) = 0)) = true))) (fun q => (not_not_intro h_20) q.2)]) J_18
                · refine z_zne_f (M := M_X4_isInResult) (tgt := 121) dX4_isInResult_114 (by decide) h_20 ?_
                  refine z_iconst (M := M_X4_isInResult) dX4_isInResult_117 ?_
                  refine z_goto (M := M_X4_isInResult) (tgt := 122) dX4_isInResult_118 (by decide) ?_
                  exact z_st (by rw [zv_t (p := ((decide (¬ (w32 (q_ian inside_0 2)) = 0)) = true) ∧ (¬ ((decide (¬ (w32 (q_ian inside_0 1)) = 0)) = true))) ⟨h_19, h_20⟩]) J_18
              · refine z_zeq_t (M := M_X4_isInResult) (tgt := 121) dX4_isInResult_110 (by decide) h_19 ?_
                refine z_iconst (M := M_X4_isInResult) dX4_isInResult_121 ?_
                exact z_st (by rw [zv_f (p := ((decide (¬ (w32 (q_ian inside_0 2)) = 0)) = true) ∧ (¬ ((decide (¬ (w32 (q_ian inside_0 1)) = 0)) = true))) (fun q => h_19 q.1)]) J_18
    refine z_iload_n (M := M_X4_isInResult) dX4_isInResult_12 rfl ?_
    refine z_iconst (M := M_X4_isInResult) dX4_isInResult_13 ?_
    refine z_iand (M := M_X4_isInResult) dX4_isInResult_14 ?_
    by_cases h_21 : ¬ (w32 (q_ian inside_0 2)) = 0
    · refine z_if_eq_f (M := M_X4_isInResult) (tgt := 22) dX4_isInResult_15 (by decide) rfl h_21 ?_
      refine z_iconst (M := M_X4_isInResult) dX4_isInResult_18 ?_
      refine z_goto (M := M_X4_isInResult) (tgt := 23) dX4_isInResult_19 (by decide) ?_
      exact z_st (by rw [zv_t (p := ¬ (w32 (q_ian inside_0 2)) = 0) h_21]) J_2
    · refine z_if_eq_t (M := M_X4_isInResult) (tgt := 22) dX4_isInResult_15 (by decide) rfl (Decidable.not_not.mp h_21) ?_
      refine z_iconst (M := M_X4_isInResult) dX4_isInResult_22 ?_
      exact z_st (by rw [zv_f (p := ¬ (w32 (q_ian inside_0 2)) = 0) h_21]) J_2
  refine z_iload_n (M := M_X4_isInResult) dX4_isInResult_0 rfl ?_
  refine z_iconst (M := M_X4_isInResult) dX4_isInResult_1 ?_
  refine z_iand (M := M_X4_isInResult) dX4_isInResult_2 ?_
  by_cases h_22 : ¬ (w32 (q_ian inside_0 1)) = 0
  · refine z_if_eq_f (M := M_X4_isInResult) (tgt := 10) dX4_isInResult_3 (by decide) rfl h_22 ?_
    refine z_iconst (M := M_X4_isInResult) dX4_isInResult_6 ?_
    refine z_goto (M := M_X4_isInResult) (tgt := 11) dX4_isInResult_7 (by decide) ?_
    exact z_st (by rw [zv_t (p := ¬ (w32 (q_ian inside_0 1)) = 0) h_22]) J_1
  · refine z_if_eq_t (M := M_X4_isInResult) (tgt := 10) dX4_isInResult_3 (by decide) rfl (Decidable.not_not.mp h_22) ?_
    refine z_iconst (M := M_X4_isInResult) dX4_isInResult_10 ?_
    exact z_st (by rw [zv_f (p := ¬ (w32 (q_ian inside_0 1)) = 0) h_22]) J_1
theorem c_X4_markBoundary (hl : l.stackTraces = false) {σ : SG} {way_0 : Int} {σ' : SG}  (H : fG_markBoundary σ way_0 = some σ') : en_S l E M_X4_markBoundary 2 0 0 [vr 208, vi way_0] σ (pS (none) σ') := by
  unfold fG_markBoundary at H
  refine z_mk (lv := [some (vr 208), some (vi way_0), none, none, none]) m_X4_markBoundary rfl hl (Nat.le_of_ble_eq_true rfl) rfl ?_
  refine z_iconst (M := M_X4_markBoundary) dX4_markBoundary_0 ?_
  refine z_istore_n (M := M_X4_markBoundary) (lv' := [some (vr 208), some (vi way_0), some (vi 0), none, none]) dX4_markBoundary_1 (Nat.le_of_ble_eq_true rfl) rfl rfl ?_
  obtain ⟨rl_6, hw_3, hk_4⟩ := bd_e H
  have J_27 : ∀ piece_25 σ_26, rl_6 = (piece_25, σ_26) → YY l E M_X4_markBoundary 2 0 0 (pS (none) σ') 77 [some (vr 208), some (vi way_0), some (vi piece_25), none, none] [] σ_26 0 0 := by
    intro piece_25 σ_26 e
    have H := hk_4
    rw [e] at H
    cases H
    exact z_vret (M := M_X4_markBoundary) dX4_markBoundary_77 rfl (Nat.le_of_ble_eq_true rfl) (Nat.le_of_ble_eq_true rfl) ⟨rfl, rfl⟩
  refine whl_go hw_3 (fun (piece_1, σ_2) => YY l E M_X4_markBoundary 2 0 0 (pS (none) σ') 2 [some (vr 208), some (vi way_0), some (vi piece_1), none, none] [] σ_2 0 0) ?_
  rintro ⟨piece_1, σ_2⟩ o_7 H K_8 K_9
  refine z_iload_n (M := M_X4_markBoundary) dX4_markBoundary_2 rfl ?_
  refine z_aload_n (M := M_X4_markBoundary) dX4_markBoundary_3 rfl ?_
  refine z_getR (M := M_X4_markBoundary) (ci := 7) (C := RX4) (T := TX4) (Nf := 17) (ty := tyX4) cl7 dX4_markBoundary_4 ly_208 0 (by decide) t_381 rfl ?_
  refine z_getI (M := M_X4_markBoundary) (ci := 11) (C := RX8) (T := TX8) (Nf := 13) (ty := tyX8) cl11 dX4_markBoundary_7 ly_193 12 (by decide) t_345 rfl rfl ?_
  rcases if_e H with ⟨h_10, H⟩ | ⟨h_10, H⟩
  · refine z_icmp_ge_f (M := M_X4_markBoundary) (tgt := 77) dX4_markBoundary_10 (by decide) rfl rfl h_10 ?_
    refine z_iload_n (M := M_X4_markBoundary) dX4_markBoundary_13 rfl ?_
    refine z_aload_n (M := M_X4_markBoundary) dX4_markBoundary_14 rfl ?_
    refine z_getR (M := M_X4_markBoundary) (ci := 7) (C := RX4) (T := TX4) (Nf := 17) (ty := tyX4) cl7 dX4_markBoundary_15 ly_208 1 (by decide) t_382 rfl ?_
    refine z_iload_n (M := M_X4_markBoundary) dX4_markBoundary_18 rfl ?_
    obtain ⟨x_11, x_11_e, hi_12, H⟩ := rd_e H
    refine z_iald (M := M_X4_markBoundary) dX4_markBoundary_19 ly_209 rfl rfl rfl hi_12 x_11_e ?_
    refine z_callS (M := M_X4_markBoundary) (M' := M_X4_isInResult) (as := [vi way_0, vi x_11]) (rest := []) rfl rfl dX4_markBoundary_20 m_X4_isInResult t_1514 t_1515 (c_X4_isInResult hl  rfl) rfl rfl (Nat.le_of_ble_eq_true rfl) (Nat.le_of_ble_eq_true rfl) (Nat.le_of_ble_eq_true rfl) (Nat.le_of_ble_eq_true rfl) ?_
    refine z_st (st' := [zv (fG_isInResult way_0 x_11)]) rfl ?_
    refine z_zstore_n (M := M_X4_markBoundary) (lv' := [some (vr 208), some (vi way_0), some (vi piece_1), some (zv (fG_isInResult way_0 x_11)), none]) dX4_markBoundary_23 (Nat.le_of_ble_eq_true rfl) rfl rfl ?_
    refine z_iload_n (M := M_X4_markBoundary) dX4_markBoundary_24 rfl ?_
    refine z_aload_n (M := M_X4_markBoundary) dX4_markBoundary_25 rfl ?_
    refine z_getR (M := M_X4_markBoundary) (ci := 7) (C := RX4) (T := TX4) (Nf := 17) (ty := tyX4) cl7 dX4_markBoundary_26 ly_208 1 (by decide) t_382 rfl ?_
    refine z_iload_n (M := M_X4_markBoundary) dX4_markBoundary_29 rfl ?_
    obtain ⟨x_13, x_13_e, hi_14, H⟩ := rd_e H
    refine z_iald (M := M_X4_markBoundary) dX4_markBoundary_30 ly_209 rfl rfl rfl hi_14 x_13_e ?_
    refine z_aload_n (M := M_X4_markBoundary) dX4_markBoundary_31 rfl ?_
    refine z_getR (M := M_X4_markBoundary) (ci := 7) (C := RX4) (T := TX4) (Nf := 17) (ty := tyX4) cl7 dX4_markBoundary_32 ly_208 0 (by decide) t_381 rfl ?_
    refine z_getR (M := M_X4_markBoundary) (ci := 11) (C := RX8) (T := TX8) (Nf := 13) (ty := tyX8) cl11 dX4_markBoundary_35 ly_193 11 (by decide) t_344 rfl ?_
    refine z_iload_n (M := M_X4_markBoundary) dX4_markBoundary_38 rfl ?_
    obtain ⟨x_15, x_15_e, hi_16, H⟩ := rd_e H
    refine z_iald (M := M_X4_markBoundary) dX4_markBoundary_39 ly_207 rfl rfl rfl hi_16 x_15_e ?_
    refine z_ixor (M := M_X4_markBoundary) dX4_markBoundary_40 ?_
    refine z_callS (M := M_X4_markBoundary) (M' := M_X4_isInResult) (as := [vi way_0, vi (q_ixo x_13 x_15)]) (rest := []) rfl rfl dX4_markBoundary_41 m_X4_isInResult t_1514 t_1515 (c_X4_isInResult hl  rfl) rfl rfl (Nat.le_of_ble_eq_true rfl) (Nat.le_of_ble_eq_true rfl) (Nat.le_of_ble_eq_true rfl) (Nat.le_of_ble_eq_true rfl) ?_
    refine z_st (st' := [zv (fG_isInResult way_0 (q_ixo x_13 x_15))]) rfl ?_
    refine z_zstore (M := M_X4_markBoundary) (lv' := [some (vr 208), some (vi way_0), some (vi piece_1), some (zv (fG_isInResult way_0 x_11)), some (zv (fG_isInResult way_0 (q_ixo x_13 x_15)))]) dX4_markBoundary_44 (Nat.le_of_ble_eq_true rfl) rfl rfl ?_
    refine z_aload_n (M := M_X4_markBoundary) dX4_markBoundary_46 rfl ?_
    refine z_getR (M := M_X4_markBoundary) (ci := 7) (C := RX4) (T := TX4) (Nf := 17) (ty := tyX4) cl7 dX4_markBoundary_47 ly_208 4 (by decide) t_385 rfl ?_
    refine z_iload_n (M := M_X4_markBoundary) dX4_markBoundary_50 rfl ?_
    have J_17 : YY l E M_X4_markBoundary 2 0 0 (pS (none) σ') 62 [some (vr 208), some (vi way_0), some (vi piece_1), some (zv (fG_isInResult way_0 x_11)), some (zv (fG_isInResult way_0 (q_ixo x_13 x_15)))] [zv (decide (¬ (fG_isInResult way_0 x_11) = (fG_isInResult way_0 (q_ixo x_13 x_15)))), vi piece_1, vr 211] σ_2 0 0 := by
      obtain ⟨σ_18, σ_18_e, hi_19, H⟩ := wa_e H
      refine z_zast (M := M_X4_markBoundary) dX4_markBoundary_62 ly_211 rfl rfl rfl hi_19 σ_18_e ?_
      refine z_aload_n (M := M_X4_markBoundary) dX4_markBoundary_63 rfl ?_
      refine z_getR (M := M_X4_markBoundary) (ci := 7) (C := RX4) (T := TX4) (Nf := 17) (ty := tyX4) cl7 dX4_markBoundary_64 ly_208 5 (by decide) t_386 rfl ?_
      refine z_iload_n (M := M_X4_markBoundary) dX4_markBoundary_67 rfl ?_
      refine z_zload (M := M_X4_markBoundary) dX4_markBoundary_68 rfl ?_
      obtain ⟨σ_20, σ_20_e, hi_21, H⟩ := wa_e H
      refine z_zast (M := M_X4_markBoundary) dX4_markBoundary_70 ly_212 rfl rfl rfl hi_21 σ_20_e ?_
      refine z_iinc (M := M_X4_markBoundary) (lv' := [some (vr 208), some (vi way_0), some (vi (piece_1 + 1)), some (zv (fG_isInResult way_0 x_11)), some (zv (fG_isInResult way_0 (q_ixo x_13 x_15)))]) dX4_markBoundary_71 rfl (Nat.le_of_ble_eq_true rfl) rfl rfl ?_
      refine z_goto (M := M_X4_markBoundary) (tgt := 2) dX4_markBoundary_74 (by decide) ?_
      refine z_le (lv' := [some (vr 208), some (vi way_0), some (vi (piece_1 + 1)), none, none]) ⟨Or.inr rfl, Or.inr rfl, Or.inr rfl, Or.inl rfl, Or.inl rfl, trivial⟩ ?_
      exact K_8 _ (Option.some.inj H).symm
    refine z_zload_n (M := M_X4_markBoundary) dX4_markBoundary_51 rfl ?_
    refine z_zload (M := M_X4_markBoundary) dX4_markBoundary_52 rfl ?_
    by_cases h_23 : ¬ (fG_isInResult way_0 x_11) = (fG_isInResult way_0 (q_ixo x_13 x_15))
    · refine z_ceq_f (M := M_X4_markBoundary) (tgt := 61) dX4_markBoundary_54 (by decide)  h_23 ?_
      refine z_iconst (M := M_X4_markBoundary) dX4_markBoundary_57 ?_
      refine z_goto (M := M_X4_markBoundary) (tgt := 62) dX4_markBoundary_58 (by decide) ?_
      exact z_st (by rw [zv_t (p := ¬ (fG_isInResult way_0 x_11) = (fG_isInResult way_0 (q_ixo x_13 x_15))) h_23]) J_17
    · refine z_ceq_t (M := M_X4_markBoundary) (tgt := 61) dX4_markBoundary_54 (by decide)  (Decidable.not_not.mp h_23) ?_
      refine z_iconst (M := M_X4_markBoundary) dX4_markBoundary_61 ?_
      exact z_st (by rw [zv_f (p := ¬ (fG_isInResult way_0 x_11) = (fG_isInResult way_0 (q_ixo x_13 x_15))) h_23]) J_17
  · refine z_icmp_ge_t (M := M_X4_markBoundary) (tgt := 77) dX4_markBoundary_10 (by decide) rfl rfl (Int.not_lt.mp h_10) ?_
    exact J_27 _ _ (K_9 _ (Option.some.inj H).symm).symm
theorem c_X11_sift (hl : l.stackTraces = false) {σ : SG} {row_0 : Nat} {row_n : Nat} {root_0 : Int} {size_0 : Int} {σ' : SG} (h_row : lay row_0 = some (.inr (1, row_n, 0, 0))) (H : fQ_sift σ row_0 row_n root_0 size_0 = some σ') : en_S l E M_X11_sift 1 0 0 [vr row_0, vi root_0, vi size_0] σ (pS (none) σ') := by
  unfold fQ_sift at H
  refine z_mk (lv := [some (vr row_0), some (vi root_0), some (vi size_0), none, none, none, none]) m_X11_sift rfl hl (Nat.le_of_ble_eq_true rfl) rfl ?_
  refine z_aload_n (M := M_X11_sift) dX11_sift_0 rfl ?_
  refine z_iload_n (M := M_X11_sift) dX11_sift_1 rfl ?_
  obtain ⟨x_1, x_1_e, hi_2, H⟩ := rd_e H
  refine z_lald (M := M_X11_sift) dX11_sift_2 h_row rfl rfl rfl hi_2 x_1_e ?_
  refine z_lstore_n (M := M_X11_sift) (lv' := [some (vr row_0), some (vi root_0), some (vi size_0), some (vl x_1), none, none, none]) dX11_sift_3 (Nat.le_of_ble_eq_true rfl) rfl rfl ?_
  refine z_iload_n (M := M_X11_sift) dX11_sift_4 rfl ?_
  refine z_istore (M := M_X11_sift) (lv' := [some (vr row_0), some (vi root_0), some (vi size_0), some (vl x_1), none, some (vi root_0), none]) dX11_sift_5 (Nat.le_of_ble_eq_true rfl) rfl rfl ?_
  refine z_iconst (M := M_X11_sift) dX11_sift_7 ?_
  refine z_iload (M := M_X11_sift) dX11_sift_8 rfl ?_
  refine z_imul (M := M_X11_sift) dX11_sift_10 ?_
  refine z_iconst (M := M_X11_sift) dX11_sift_11 ?_
  refine z_iadd (M := M_X11_sift) dX11_sift_12 ?_
  refine z_istore (M := M_X11_sift) (lv' := [some (vr row_0), some (vi root_0), some (vi size_0), some (vl x_1), none, some (vi root_0), some (vi ((2 * root_0) + 1))]) dX11_sift_13 (Nat.le_of_ble_eq_true rfl) rfl rfl ?_
  obtain ⟨rl_9, hw_6, hk_7⟩ := bd_e H
  have J_54 : ∀ at_49 child_50 σ_51, rl_9 = (at_49, child_50, σ_51) → YY l E M_X11_sift 1 0 0 (pS (none) σ') 81 [some (vr row_0), some (vi root_0), some (vi size_0), some (vl x_1), none, some (vi at_49), some (vi child_50)] [] σ_51 0 0 := by
    intro at_49 child_50 σ_51 e
    have H := hk_7
    rw [e] at H
    refine z_aload_n (M := M_X11_sift) dX11_sift_81 rfl ?_
    refine z_iload (M := M_X11_sift) dX11_sift_82 rfl ?_
    refine z_lload_n (M := M_X11_sift) dX11_sift_84 rfl ?_
    obtain ⟨σ_52, σ_52_e, hi_53, H⟩ := wa_e H
    refine z_last (M := M_X11_sift) dX11_sift_85 h_row rfl rfl rfl hi_53 σ_52_e ?_
    cases H
    exact z_vret (M := M_X11_sift) dX11_sift_86 rfl (Nat.le_of_ble_eq_true rfl) (Nat.le_of_ble_eq_true rfl) ⟨rfl, rfl⟩
  refine whl_go hw_6 (fun (at_3, child_4, σ_5) => YY l E M_X11_sift 1 0 0 (pS (none) σ') 15 [some (vr row_0), some (vi root_0), some (vi size_0), some (vl x_1), none, some (vi at_3), some (vi child_4)] [] σ_5 0 0) ?_
  rintro ⟨at_3, child_4, σ_5⟩ o_10 H K_11 K_12
  refine z_iload (M := M_X11_sift) dX11_sift_15 rfl ?_
  refine z_iload_n (M := M_X11_sift) dX11_sift_17 rfl ?_
  rcases if_e H with ⟨h_13, H⟩ | ⟨h_13, H⟩
  · refine z_icmp_ge_f (M := M_X11_sift) (tgt := 81) dX11_sift_18 (by decide) rfl rfl h_13 ?_
    obtain ⟨v_17, he_14, hk_15⟩ := bd_e H
    have J_47 : ∀ child_37, v_17 = child_37 → YY l E M_X11_sift 1 0 0 (pS (none) σ') 46 [some (vr row_0), some (vi root_0), some (vi size_0), some (vl x_1), none, some (vi at_3), some (vi child_37)] [] σ_5 0 0 := by
      intro child_37 e
      have H := hk_15
      rw [e] at H
      refine z_aload_n (M := M_X11_sift) dX11_sift_46 rfl ?_
      refine z_iload (M := M_X11_sift) dX11_sift_47 rfl ?_
      obtain ⟨x_38, x_38_e, hi_39, H⟩ := rd_e H
      refine z_lald (M := M_X11_sift) dX11_sift_49 h_row rfl rfl rfl hi_39 x_38_e ?_
      refine z_lload_n (M := M_X11_sift) dX11_sift_50 rfl ?_
      refine z_lcmp (M := M_X11_sift) dX11_sift_51 ?_
      rcases if_e H with ⟨h_40, H⟩ | ⟨h_40, H⟩
      · refine z_lif_gt_f (M := M_X11_sift) (tgt := 58) dX11_sift_52 (by decide) rfl rfl h_40 ?_
        refine z_goto (M := M_X11_sift) (tgt := 81) dX11_sift_55 (by decide) ?_
        exact J_54 _ _ _ (K_12 _ (Option.some.inj H).symm).symm
      · refine z_lif_gt_t (M := M_X11_sift) (tgt := 58) dX11_sift_52 (by decide) rfl rfl (Int.not_le.mp h_40) ?_
        refine z_aload_n (M := M_X11_sift) dX11_sift_58 rfl ?_
        refine z_iload (M := M_X11_sift) dX11_sift_59 rfl ?_
        refine z_aload_n (M := M_X11_sift) dX11_sift_61 rfl ?_
        refine z_iload (M := M_X11_sift) dX11_sift_62 rfl ?_
        obtain ⟨x_42, x_42_e, hi_43, H⟩ := rd_e H
        refine z_lald (M := M_X11_sift) dX11_sift_64 h_row rfl rfl rfl hi_43 x_42_e ?_
        obtain ⟨σ_44, σ_44_e, hi_45, H⟩ := wa_e H
        refine z_last (M := M_X11_sift) dX11_sift_65 h_row rfl rfl rfl hi_45 σ_44_e ?_
        refine z_iload (M := M_X11_sift) dX11_sift_66 rfl ?_
        refine z_istore (M := M_X11_sift) (lv' := [some (vr row_0), some (vi root_0), some (vi size_0), some (vl x_1), none, some (vi child_37), some (vi child_37)]) dX11_sift_68 (Nat.le_of_ble_eq_true rfl) rfl rfl ?_
        refine z_iconst (M := M_X11_sift) dX11_sift_70 ?_
        refine z_iload (M := M_X11_sift) dX11_sift_71 rfl ?_
        refine z_imul (M := M_X11_sift) dX11_sift_73 ?_
        refine z_iconst (M := M_X11_sift) dX11_sift_74 ?_
        refine z_iadd (M := M_X11_sift) dX11_sift_75 ?_
        refine z_istore (M := M_X11_sift) (lv' := [some (vr row_0), some (vi root_0), some (vi size_0), some (vl x_1), none, some (vi child_37), some (vi ((2 * child_37) + 1))]) dX11_sift_76 (Nat.le_of_ble_eq_true rfl) rfl rfl ?_
        refine z_goto (M := M_X11_sift) (tgt := 15) dX11_sift_78 (by decide) ?_
        exact K_11 _ (Option.some.inj H).symm
    have H := he_14
    refine z_iload (M := M_X11_sift) dX11_sift_21 rfl ?_
    refine z_iconst (M := M_X11_sift) dX11_sift_23 ?_
    refine z_iadd (M := M_X11_sift) dX11_sift_24 ?_
    refine z_iload_n (M := M_X11_sift) dX11_sift_25 rfl ?_
    rcases if_e H with ⟨h_28, H⟩ | ⟨h_28, H⟩
    · refine z_icmp_ge_f (M := M_X11_sift) (tgt := 46) dX11_sift_26 (by decide) rfl rfl h_28 ?_
      refine z_aload_n (M := M_X11_sift) dX11_sift_29 rfl ?_
      refine z_iload (M := M_X11_sift) dX11_sift_30 rfl ?_
      refine z_iconst (M := M_X11_sift) dX11_sift_32 ?_
      refine z_iadd (M := M_X11_sift) dX11_sift_33 ?_
      obtain ⟨x_29, x_29_e, hi_30, H⟩ := rd_e H
      refine z_lald (M := M_X11_sift) dX11_sift_34 h_row rfl rfl rfl hi_30 x_29_e ?_
      refine z_aload_n (M := M_X11_sift) dX11_sift_35 rfl ?_
      refine z_iload (M := M_X11_sift) dX11_sift_36 rfl ?_
      obtain ⟨x_31, x_31_e, hi_32, H⟩ := rd_e H
      refine z_lald (M := M_X11_sift) dX11_sift_38 h_row rfl rfl rfl hi_32 x_31_e ?_
      refine z_lcmp (M := M_X11_sift) dX11_sift_39 ?_
      rcases if_e H with ⟨h_33, H⟩ | ⟨h_33, H⟩
      · refine z_lif_le_f (M := M_X11_sift) (tgt := 46) dX11_sift_40 (by decide) rfl rfl h_33 ?_
        refine z_iinc (M := M_X11_sift) (lv' := [some (vr row_0), some (vi root_0), some (vi size_0), some (vl x_1), none, some (vi at_3), some (vi (child_4 + 1))]) dX11_sift_43 rfl (Nat.le_of_ble_eq_true rfl) rfl rfl ?_
        exact J_47 _ (Option.some.inj H).symm
      · refine z_lif_le_t (M := M_X11_sift) (tgt := 46) dX11_sift_40 (by decide) rfl rfl (Int.not_lt.mp h_33) ?_
        exact J_47 _ (Option.some.inj H).symm
    · refine z_icmp_ge_t (M := M_X11_sift) (tgt := 46) dX11_sift_26 (by decide) rfl rfl (Int.not_lt.mp h_28) ?_
      exact J_47 _ (Option.some.inj H).symm
  · refine z_icmp_ge_t (M := M_X11_sift) (tgt := 81) dX11_sift_18 (by decide) rfl rfl (Int.not_lt.mp h_13) ?_
    exact J_54 _ _ _ (K_12 _ (Option.some.inj H).symm).symm
theorem c_X11_sortRow (hl : l.stackTraces = false) {σ : SG} {row_0 : Nat} {row_n : Nat} {size_0 : Int} {σ' : SG} (h_row : lay row_0 = some (.inr (1, row_n, 0, 0))) (H : fQ_sortRow σ row_0 row_n size_0 = some σ') : en_S l E M_X11_sortRow 2 0 0 [vr row_0, vi size_0] σ (pS (none) σ') := by
  unfold fQ_sortRow at H
  refine z_mk (lv := [some (vr row_0), some (vi size_0), none, none, none]) m_X11_sortRow rfl hl (Nat.le_of_ble_eq_true rfl) rfl ?_
  refine z_iload_n (M := M_X11_sortRow) dX11_sortRow_0 rfl ?_
  refine z_iconst (M := M_X11_sortRow) dX11_sortRow_1 ?_
  refine z_idiv (M := M_X11_sortRow) dX11_sortRow_2 (by decide +kernel) ?_
  refine z_iconst (M := M_X11_sortRow) dX11_sortRow_3 ?_
  refine z_isub (M := M_X11_sortRow) dX11_sortRow_4 ?_
  refine z_istore_n (M := M_X11_sortRow) (lv' := [some (vr row_0), some (vi size_0), some (vi ((q_idv size_0 2) - 1)), none, none]) dX11_sortRow_5 (Nat.le_of_ble_eq_true rfl) rfl rfl ?_
  obtain ⟨rl_6, hw_3, hk_4⟩ := bd_e H
  have J_42 : ∀ root_15 σ_16, rl_6 = (root_15, σ_16) → YY l E M_X11_sortRow 2 0 0 (pS (none) σ') 22 [some (vr row_0), some (vi size_0), some (vi root_15), none, none] [] σ_16 0 0 := by
    intro root_15 σ_16 e
    have H := hk_4
    rw [e] at H
    refine z_iload_n (M := M_X11_sortRow) dX11_sortRow_22 rfl ?_
    refine z_iconst (M := M_X11_sortRow) dX11_sortRow_23 ?_
    refine z_isub (M := M_X11_sortRow) dX11_sortRow_24 ?_
    refine z_istore_n (M := M_X11_sortRow) (lv' := [some (vr row_0), some (vi size_0), some (vi (size_0 - 1)), none, none]) dX11_sortRow_25 (Nat.le_of_ble_eq_true rfl) rfl rfl ?_
    obtain ⟨rl_22, hw_19, hk_20⟩ := bd_e H
    have J_41 : ∀ last_39 σ_40, rl_22 = (last_39, σ_40) → YY l E M_X11_sortRow 2 0 0 (pS (none) σ') 56 [some (vr row_0), some (vi size_0), some (vi last_39), none, none] [] σ_40 0 0 := by
      intro last_39 σ_40 e
      have H := hk_20
      rw [e] at H
      cases H
      exact z_vret (M := M_X11_sortRow) dX11_sortRow_56 rfl (Nat.le_of_ble_eq_true rfl) (Nat.le_of_ble_eq_true rfl) ⟨rfl, rfl⟩
    refine whl_go hw_19 (fun (last_17, σ_18) => YY l E M_X11_sortRow 2 0 0 (pS (none) σ') 26 [some (vr row_0), some (vi size_0), some (vi last_17), none, none] [] σ_18 0 0) ?_
    rintro ⟨last_17, σ_18⟩ o_23 H K_24 K_25
    refine z_iload_n (M := M_X11_sortRow) dX11_sortRow_26 rfl ?_
    rcases if_e H with ⟨h_26, H⟩ | ⟨h_26, H⟩
    · refine z_if_le_f (M := M_X11_sortRow) (tgt := 56) dX11_sortRow_27 (by decide) rfl h_26 ?_
      refine z_aload_n (M := M_X11_sortRow) dX11_sortRow_30 rfl ?_
      refine z_iconst (M := M_X11_sortRow) dX11_sortRow_31 ?_
      obtain ⟨x_27, x_27_e, hi_28, H⟩ := rd_e H
      refine z_lald (M := M_X11_sortRow) dX11_sortRow_32 h_row rfl (by decide +kernel) rfl hi_28 x_27_e ?_
      refine z_lstore_n (M := M_X11_sortRow) (lv' := [some (vr row_0), some (vi size_0), some (vi last_17), some (vl x_27), none]) dX11_sortRow_33 (Nat.le_of_ble_eq_true rfl) rfl rfl ?_
      refine z_aload_n (M := M_X11_sortRow) dX11_sortRow_34 rfl ?_
      refine z_iconst (M := M_X11_sortRow) dX11_sortRow_35 ?_
      refine z_aload_n (M := M_X11_sortRow) dX11_sortRow_36 rfl ?_
      refine z_iload_n (M := M_X11_sortRow) dX11_sortRow_37 rfl ?_
      obtain ⟨x_29, x_29_e, hi_30, H⟩ := rd_e H
      refine z_lald (M := M_X11_sortRow) dX11_sortRow_38 h_row rfl rfl rfl hi_30 x_29_e ?_
      obtain ⟨σ_31, σ_31_e, hi_32, H⟩ := wa_e H
      refine z_last (M := M_X11_sortRow) dX11_sortRow_39 h_row rfl (by decide +kernel) rfl hi_32 σ_31_e ?_
      refine z_aload_n (M := M_X11_sortRow) dX11_sortRow_40 rfl ?_
      refine z_iload_n (M := M_X11_sortRow) dX11_sortRow_41 rfl ?_
      refine z_lload_n (M := M_X11_sortRow) dX11_sortRow_42 rfl ?_
      obtain ⟨σ_33, σ_33_e, hi_34, H⟩ := wa_e H
      refine z_last (M := M_X11_sortRow) dX11_sortRow_43 h_row rfl rfl rfl hi_34 σ_33_e ?_
      refine z_aload_n (M := M_X11_sortRow) dX11_sortRow_44 rfl ?_
      refine z_iconst (M := M_X11_sortRow) dX11_sortRow_45 ?_
      refine z_iload_n (M := M_X11_sortRow) dX11_sortRow_46 rfl ?_
      obtain ⟨σ_36, hc_35, H⟩ := bd_e H
      refine z_callS (M := M_X11_sortRow) (M' := M_X11_sift) (as := [vr row_0, vi 0, vi last_17]) (rest := []) rfl rfl dX11_sortRow_47 m_X11_sift t_1419 t_1420 (c_X11_sift hl h_row hc_35) rfl rfl (Nat.le_of_ble_eq_true rfl) (Nat.le_of_ble_eq_true rfl) (Nat.le_of_ble_eq_true rfl) (Nat.le_of_ble_eq_true rfl) ?_
      refine z_st (st' := []) rfl ?_
      refine z_iinc (M := M_X11_sortRow) (lv' := [some (vr row_0), some (vi size_0), some (vi (last_17 + (-1))), some (vl x_27), none]) dX11_sortRow_50 rfl (Nat.le_of_ble_eq_true rfl) rfl rfl ?_
      refine z_goto (M := M_X11_sortRow) (tgt := 26) dX11_sortRow_53 (by decide) ?_
      refine z_le (lv' := [some (vr row_0), some (vi size_0), some (vi (last_17 + (-1))), none, none]) ⟨Or.inr rfl, Or.inr rfl, Or.inr rfl, Or.inl rfl, Or.inl rfl, trivial⟩ ?_
      exact K_24 _ (Option.some.inj H).symm
    · refine z_if_le_t (M := M_X11_sortRow) (tgt := 56) dX11_sortRow_27 (by decide) rfl (Int.not_lt.mp h_26) ?_
      exact J_41 _ _ (K_25 _ (Option.some.inj H).symm).symm
  refine whl_go hw_3 (fun (root_1, σ_2) => YY l E M_X11_sortRow 2 0 0 (pS (none) σ') 6 [some (vr row_0), some (vi size_0), some (vi root_1), none, none] [] σ_2 0 0) ?_
  rintro ⟨root_1, σ_2⟩ o_7 H K_8 K_9
  refine z_iload_n (M := M_X11_sortRow) dX11_sortRow_6 rfl ?_
  rcases if_e H with ⟨h_10, H⟩ | ⟨h_10, H⟩
  · refine z_if_lt_f (M := M_X11_sortRow) (tgt := 22) dX11_sortRow_7 (by decide) rfl h_10 ?_
    refine z_aload_n (M := M_X11_sortRow) dX11_sortRow_10 rfl ?_
    refine z_iload_n (M := M_X11_sortRow) dX11_sortRow_11 rfl ?_
    refine z_iload_n (M := M_X11_sortRow) dX11_sortRow_12 rfl ?_
    obtain ⟨σ_12, hc_11, H⟩ := bd_e H
    refine z_callS (M := M_X11_sortRow) (M' := M_X11_sift) (as := [vr row_0, vi root_1, vi size_0]) (rest := []) rfl rfl dX11_sortRow_13 m_X11_sift t_1419 t_1420 (c_X11_sift hl h_row hc_11) rfl rfl (Nat.le_of_ble_eq_true rfl) (Nat.le_of_ble_eq_true rfl) (Nat.le_of_ble_eq_true rfl) (Nat.le_of_ble_eq_true rfl) ?_
    refine z_st (st' := []) rfl ?_
    refine z_iinc (M := M_X11_sortRow) (lv' := [some (vr row_0), some (vi size_0), some (vi (root_1 + (-1))), none, none]) dX11_sortRow_16 rfl (Nat.le_of_ble_eq_true rfl) rfl rfl ?_
    refine z_goto (M := M_X11_sortRow) (tgt := 6) dX11_sortRow_19 (by decide) ?_
    exact K_8 _ (Option.some.inj H).symm
  · refine z_if_lt_t (M := M_X11_sortRow) (tgt := 22) dX11_sortRow_7 (by decide) rfl (Int.not_le.mp h_10) ?_
    exact J_42 _ _ (K_9 _ (Option.some.inj H).symm).symm
theorem c_X4_sortRings (hl : l.stackTraces = false) {σ : SG} {σ' : SG}  (H : fG_sortRings σ = some σ') : en_S l E M_X4_sortRings 3 0 0 [vr 208] σ (pS (none) σ') := by
  unfold fG_sortRings at H
  refine z_mk (lv := [some (vr 208), none, none, none, none]) m_X4_sortRings rfl hl (Nat.le_of_ble_eq_true rfl) rfl ?_
  refine z_iconst (M := M_X4_sortRings) dX4_sortRings_0 ?_
  refine z_istore_n (M := M_X4_sortRings) (lv' := [some (vr 208), some (vi 0), none, none, none]) dX4_sortRings_1 (Nat.le_of_ble_eq_true rfl) rfl rfl ?_
  obtain ⟨rl_6, hw_3, hk_4⟩ := bd_e H
  have J_42 : ∀ ring_38 σ_39, rl_6 = (ring_38, σ_39) → YY l E M_X4_sortRings 3 0 0 (pS (none) σ') 75 [some (vr 208), some (vi ring_38), none, none, none] [] σ_39 0 0 := by
    intro ring_38 σ_39 e
    have H := hk_4
    rw [e] at H
    refine z_aload_n (M := M_X4_sortRings) dX4_sortRings_75 rfl ?_
    refine z_getR (M := M_X4_sortRings) (ci := 7) (C := RX4) (T := TX4) (Nf := 17) (ty := tyX4) cl7 dX4_sortRings_76 ly_208 15 (by decide) t_396 rfl ?_
    refine z_aload_n (M := M_X4_sortRings) dX4_sortRings_79 rfl ?_
    refine z_getI (M := M_X4_sortRings) (ci := 7) (C := RX4) (T := TX4) (Nf := 17) (ty := tyX4) cl7 dX4_sortRings_80 ly_208 16 (by decide) t_397 rfl rfl ?_
    obtain ⟨σ_41, hc_40, H⟩ := bd_e H
    refine z_callSN (M := M_X4_sortRings) (M' := M_X11_sortRow) (as := [vr 221, vi (σ_39 kG_rings 0)]) (rest := []) rfl rfl dX4_sortRings_83 m_X11_sortRow n_1839 t_1417 (c_X11_sortRow hl ly_221 hc_40) rfl rfl (Nat.le_of_ble_eq_true rfl) (Nat.le_of_ble_eq_true rfl) (Nat.le_of_ble_eq_true rfl) (Nat.le_of_ble_eq_true rfl) ?_
    refine z_st (st' := []) rfl ?_
    cases H
    exact z_vret (M := M_X4_sortRings) dX4_sortRings_86 rfl (Nat.le_of_ble_eq_true rfl) (Nat.le_of_ble_eq_true rfl) ⟨rfl, rfl⟩
  refine whl_go hw_3 (fun (ring_1, σ_2) => YY l E M_X4_sortRings 3 0 0 (pS (none) σ') 2 [some (vr 208), some (vi ring_1), none, none, none] [] σ_2 0 0) ?_
  rintro ⟨ring_1, σ_2⟩ o_7 H K_8 K_9
  refine z_iload_n (M := M_X4_sortRings) dX4_sortRings_2 rfl ?_
  refine z_aload_n (M := M_X4_sortRings) dX4_sortRings_3 rfl ?_
  refine z_getI (M := M_X4_sortRings) (ci := 7) (C := RX4) (T := TX4) (Nf := 17) (ty := tyX4) cl7 dX4_sortRings_4 ly_208 16 (by decide) t_397 rfl rfl ?_
  rcases if_e H with ⟨h_10, H⟩ | ⟨h_10, H⟩
  · refine z_icmp_ge_f (M := M_X4_sortRings) (tgt := 75) dX4_sortRings_7 (by decide) rfl rfl h_10 ?_
    refine z_aload_n (M := M_X4_sortRings) dX4_sortRings_10 rfl ?_
    refine z_getR (M := M_X4_sortRings) (ci := 7) (C := RX4) (T := TX4) (Nf := 17) (ty := tyX4) cl7 dX4_sortRings_11 ly_208 12 (by decide) t_393 rfl ?_
    refine z_iload_n (M := M_X4_sortRings) dX4_sortRings_14 rfl ?_
    obtain ⟨x_11, x_11_e, hi_12, H⟩ := rd_e H
    refine z_iald (M := M_X4_sortRings) dX4_sortRings_15 ly_218 rfl rfl rfl hi_12 x_11_e ?_
    refine z_istore_n (M := M_X4_sortRings) (lv' := [some (vr 208), some (vi ring_1), some (vi x_11), none, none]) dX4_sortRings_16 (Nat.le_of_ble_eq_true rfl) rfl rfl ?_
    obtain ⟨v_33, he_34, hk_35⟩ := bd_e H
    have J_36 : ∀ x_27, v_33 = x_27 → YY l E M_X4_sortRings 3 0 0 (pS (none) σ') 44 [some (vr 208), some (vi ring_1), some (vi x_11), none, none] [vl x_27] σ_2 0 0 := by
      intro x_27 e
      have H := hk_35
      rw [e] at H
      refine z_lstore_n (M := M_X4_sortRings) (lv' := [some (vr 208), some (vi ring_1), some (vi x_11), some (vl x_27), none]) dX4_sortRings_44 (Nat.le_of_ble_eq_true rfl) rfl rfl ?_
      refine z_aload_n (M := M_X4_sortRings) dX4_sortRings_45 rfl ?_
      refine z_getR (M := M_X4_sortRings) (ci := 7) (C := RX4) (T := TX4) (Nf := 17) (ty := tyX4) cl7 dX4_sortRings_46 ly_208 15 (by decide) t_396 rfl ?_
      refine z_iload_n (M := M_X4_sortRings) dX4_sortRings_49 rfl ?_
      refine z_aload_n (M := M_X4_sortRings) dX4_sortRings_50 rfl ?_
      refine z_getR (M := M_X4_sortRings) (ci := 7) (C := RX4) (T := TX4) (Nf := 17) (ty := tyX4) cl7 dX4_sortRings_51 ly_208 10 (by decide) t_391 rfl ?_
      refine z_iload_n (M := M_X4_sortRings) dX4_sortRings_54 rfl ?_
      obtain ⟨x_28, x_28_e, hi_29, H⟩ := rd_e H
      refine z_iald (M := M_X4_sortRings) dX4_sortRings_55 ly_217 rfl rfl rfl hi_29 x_28_e ?_
      refine z_i2l (M := M_X4_sortRings) dX4_sortRings_56 ?_
      refine z_bipush (M := M_X4_sortRings) dX4_sortRings_57 (by decide +kernel) ?_
      refine z_lshl (M := M_X4_sortRings) dX4_sortRings_59 ?_
      refine z_lload_n (M := M_X4_sortRings) dX4_sortRings_60 rfl ?_
      refine z_lor (M := M_X4_sortRings) dX4_sortRings_61 ?_
      refine z_bipush (M := M_X4_sortRings) dX4_sortRings_62 (by decide +kernel) ?_
      refine z_lshl (M := M_X4_sortRings) dX4_sortRings_64 ?_
      refine z_iload_n (M := M_X4_sortRings) dX4_sortRings_65 rfl ?_
      refine z_i2l (M := M_X4_sortRings) dX4_sortRings_66 ?_
      refine z_lor (M := M_X4_sortRings) dX4_sortRings_67 ?_
      obtain ⟨σ_30, σ_30_e, hi_31, H⟩ := wa_e H
      refine z_last (M := M_X4_sortRings) dX4_sortRings_68 ly_221 rfl rfl rfl hi_31 σ_30_e ?_
      refine z_iinc (M := M_X4_sortRings) (lv' := [some (vr 208), some (vi (ring_1 + 1)), some (vi x_11), some (vl x_27), none]) dX4_sortRings_69 rfl (Nat.le_of_ble_eq_true rfl) rfl rfl ?_
      refine z_goto (M := M_X4_sortRings) (tgt := 2) dX4_sortRings_72 (by decide) ?_
      refine z_le (lv' := [some (vr 208), some (vi (ring_1 + 1)), none, none, none]) ⟨Or.inr rfl, Or.inr rfl, Or.inl rfl, Or.inl rfl, Or.inl rfl, trivial⟩ ?_
      exact K_8 _ (Option.some.inj H).symm
    have H := he_34
    refine z_iload_n (M := M_X4_sortRings) dX4_sortRings_17 rfl ?_
    refine z_iconst (M := M_X4_sortRings) dX4_sortRings_18 ?_
    refine z_iadd (M := M_X4_sortRings) dX4_sortRings_19 ?_
    refine z_aload_n (M := M_X4_sortRings) dX4_sortRings_20 rfl ?_
    refine z_getR (M := M_X4_sortRings) (ci := 7) (C := RX4) (T := TX4) (Nf := 17) (ty := tyX4) cl7 dX4_sortRings_21 ly_208 12 (by decide) t_393 rfl ?_
    refine z_iload_n (M := M_X4_sortRings) dX4_sortRings_24 rfl ?_
    refine z_iconst (M := M_X4_sortRings) dX4_sortRings_25 ?_
    refine z_iadd (M := M_X4_sortRings) dX4_sortRings_26 ?_
    obtain ⟨x_20, x_20_e, hi_21, H⟩ := rd_e H
    refine z_iald (M := M_X4_sortRings) dX4_sortRings_27 ly_218 rfl rfl rfl hi_21 x_20_e ?_
    rcases if_e H with ⟨h_22, H⟩ | ⟨h_22, H⟩
    · refine z_icmp_ge_f (M := M_X4_sortRings) (tgt := 43) dX4_sortRings_28 (by decide) rfl rfl h_22 ?_
      refine z_aload_n (M := M_X4_sortRings) dX4_sortRings_31 rfl ?_
      refine z_getR (M := M_X4_sortRings) (ci := 7) (C := RX4) (T := TX4) (Nf := 17) (ty := tyX4) cl7 dX4_sortRings_32 ly_208 10 (by decide) t_391 rfl ?_
      refine z_iload_n (M := M_X4_sortRings) dX4_sortRings_35 rfl ?_
      refine z_iconst (M := M_X4_sortRings) dX4_sortRings_36 ?_
      refine z_iadd (M := M_X4_sortRings) dX4_sortRings_37 ?_
      obtain ⟨x_23, x_23_e, hi_24, H⟩ := rd_e H
      refine z_iald (M := M_X4_sortRings) dX4_sortRings_38 ly_217 rfl rfl rfl hi_24 x_23_e ?_
      refine z_i2l (M := M_X4_sortRings) dX4_sortRings_39 ?_
      refine z_goto (M := M_X4_sortRings) (tgt := 44) dX4_sortRings_40 (by decide) ?_
      exact J_36 _ (Option.some.inj H).symm
    · refine z_icmp_ge_t (M := M_X4_sortRings) (tgt := 43) dX4_sortRings_28 (by decide) rfl rfl (Int.not_lt.mp h_22) ?_
      refine z_lconst (M := M_X4_sortRings) (m := 0) dX4_sortRings_43 (by decide +kernel) ?_
      exact J_36 _ (Option.some.inj H).symm
  · refine z_icmp_ge_t (M := M_X4_sortRings) (tgt := 75) dX4_sortRings_7 (by decide) rfl rfl (Int.not_lt.mp h_10) ?_
    exact J_42 _ _ (K_9 _ (Option.some.inj H).symm).symm
theorem c_X4_turnAt (hl : l.stackTraces = false) {σ : SG} {a_0 : Int} {b_0 : Int} {c_0 : Int} {r : Int}  (H : fG_turnAt σ a_0 b_0 c_0 = some r) : en_S l E M_X4_turnAt 3 0 0 [vr 208, vi a_0, vi b_0, vi c_0] σ (pS (some (vi r)) σ) := by
  unfold fG_turnAt at H
  refine z_mk (lv := [some (vr 208), some (vi a_0), some (vi b_0), some (vi c_0)]) m_X4_turnAt rfl hl (Nat.le_of_ble_eq_true rfl) rfl ?_
  refine z_aload_n (M := M_X4_turnAt) dX4_turnAt_0 rfl ?_
  refine z_getR (M := M_X4_turnAt) (ci := 7) (C := RX4) (T := TX4) (Nf := 17) (ty := tyX4) cl7 dX4_turnAt_1 ly_208 0 (by decide) t_381 rfl ?_
  refine z_getR (M := M_X4_turnAt) (ci := 11) (C := RX8) (T := TX8) (Nf := 13) (ty := tyX8) cl11 dX4_turnAt_4 ly_193 6 (by decide) t_334 rfl ?_
  refine z_iload_n (M := M_X4_turnAt) dX4_turnAt_7 rfl ?_
  obtain ⟨x_1, x_1_e, hi_2, H⟩ := rd_e H
  refine z_iald (M := M_X4_turnAt) dX4_turnAt_8 ly_203 rfl rfl rfl hi_2 x_1_e ?_
  refine z_i2l (M := M_X4_turnAt) dX4_turnAt_9 ?_
  refine z_aload_n (M := M_X4_turnAt) dX4_turnAt_10 rfl ?_
  refine z_getR (M := M_X4_turnAt) (ci := 7) (C := RX4) (T := TX4) (Nf := 17) (ty := tyX4) cl7 dX4_turnAt_11 ly_208 0 (by decide) t_381 rfl ?_
  refine z_getR (M := M_X4_turnAt) (ci := 11) (C := RX8) (T := TX8) (Nf := 13) (ty := tyX8) cl11 dX4_turnAt_14 ly_193 7 (by decide) t_336 rfl ?_
  refine z_iload_n (M := M_X4_turnAt) dX4_turnAt_17 rfl ?_
  obtain ⟨x_3, x_3_e, hi_4, H⟩ := rd_e H
  refine z_iald (M := M_X4_turnAt) dX4_turnAt_18 ly_204 rfl rfl rfl hi_4 x_3_e ?_
  refine z_i2l (M := M_X4_turnAt) dX4_turnAt_19 ?_
  refine z_aload_n (M := M_X4_turnAt) dX4_turnAt_20 rfl ?_
  refine z_getR (M := M_X4_turnAt) (ci := 7) (C := RX4) (T := TX4) (Nf := 17) (ty := tyX4) cl7 dX4_turnAt_21 ly_208 0 (by decide) t_381 rfl ?_
  refine z_getR (M := M_X4_turnAt) (ci := 11) (C := RX8) (T := TX8) (Nf := 13) (ty := tyX8) cl11 dX4_turnAt_24 ly_193 6 (by decide) t_334 rfl ?_
  refine z_iload_n (M := M_X4_turnAt) dX4_turnAt_27 rfl ?_
  obtain ⟨x_5, x_5_e, hi_6, H⟩ := rd_e H
  refine z_iald (M := M_X4_turnAt) dX4_turnAt_28 ly_203 rfl rfl rfl hi_6 x_5_e ?_
  refine z_i2l (M := M_X4_turnAt) dX4_turnAt_29 ?_
  refine z_aload_n (M := M_X4_turnAt) dX4_turnAt_30 rfl ?_
  refine z_getR (M := M_X4_turnAt) (ci := 7) (C := RX4) (T := TX4) (Nf := 17) (ty := tyX4) cl7 dX4_turnAt_31 ly_208 0 (by decide) t_381 rfl ?_
  refine z_getR (M := M_X4_turnAt) (ci := 11) (C := RX8) (T := TX8) (Nf := 13) (ty := tyX8) cl11 dX4_turnAt_34 ly_193 7 (by decide) t_336 rfl ?_
  refine z_iload_n (M := M_X4_turnAt) dX4_turnAt_37 rfl ?_
  obtain ⟨x_7, x_7_e, hi_8, H⟩ := rd_e H
  refine z_iald (M := M_X4_turnAt) dX4_turnAt_38 ly_204 rfl rfl rfl hi_8 x_7_e ?_
  refine z_i2l (M := M_X4_turnAt) dX4_turnAt_39 ?_
  refine z_aload_n (M := M_X4_turnAt) dX4_turnAt_40 rfl ?_
  refine z_getR (M := M_X4_turnAt) (ci := 7) (C := RX4) (T := TX4) (Nf := 17) (ty := tyX4) cl7 dX4_turnAt_41 ly_208 0 (by decide) t_381 rfl ?_
  refine z_getR (M := M_X4_turnAt) (ci := 11) (C := RX8) (T := TX8) (Nf := 13) (ty := tyX8) cl11 dX4_turnAt_44 ly_193 6 (by decide) t_334 rfl ?_
  refine z_iload_n (M := M_X4_turnAt) dX4_turnAt_47 rfl ?_
  obtain ⟨x_9, x_9_e, hi_10, H⟩ := rd_e H
  refine z_iald (M := M_X4_turnAt) dX4_turnAt_48 ly_203 rfl rfl rfl hi_10 x_9_e ?_
  refine z_i2l (M := M_X4_turnAt) dX4_turnAt_49 ?_
  refine z_aload_n (M := M_X4_turnAt) dX4_turnAt_50 rfl ?_
  refine z_getR (M := M_X4_turnAt) (ci := 7) (C := RX4) (T := TX4) (Nf := 17) (ty := tyX4) cl7 dX4_turnAt_51 ly_208 0 (by decide) t_381 rfl ?_
  refine z_getR (M := M_X4_turnAt) (ci := 11) (C := RX8) (T := TX8) (Nf := 13) (ty := tyX8) cl11 dX4_turnAt_54 ly_193 7 (by decide) t_336 rfl ?_
  refine z_iload_n (M := M_X4_turnAt) dX4_turnAt_57 rfl ?_
  obtain ⟨x_11, x_11_e, hi_12, H⟩ := rd_e H
  refine z_iald (M := M_X4_turnAt) dX4_turnAt_58 ly_204 rfl rfl rfl hi_12 x_11_e ?_
  refine z_i2l (M := M_X4_turnAt) dX4_turnAt_59 ?_
  refine z_callSN (M := M_X4_turnAt) (M' := M_X11_turnOf) (as := [vl (w32 x_1), vl (w32 x_3), vl (w32 x_5), vl (w32 x_7), vl (w32 x_9), vl (w32 x_11)]) (rest := []) rfl rfl dX4_turnAt_60 m_X11_turnOf n_1504 t_1265 (c_X11_turnOf hl  rfl) rfl rfl (Nat.le_of_ble_eq_true rfl) (Nat.le_of_ble_eq_true rfl) (Nat.le_of_ble_eq_true rfl) (Nat.le_of_ble_eq_true rfl) ?_
  refine z_st (st' := [vi (fQ_turnOf (w32 x_1) (w32 x_3) (w32 x_5) (w32 x_7) (w32 x_9) (w32 x_11))]) rfl ?_
  cases H
  exact z_iret (M := M_X4_turnAt) dX4_turnAt_63 rfl (Nat.le_of_ble_eq_true rfl) (Nat.le_of_ble_eq_true rfl) ⟨rfl, rfl⟩
theorem c_X4_firstNotBelow (hl : l.stackTraces = false) {σ : SG} {h_0 : Int} {r : Int}  (H : fG_firstNotBelow σ h_0 = some r) : en_S l E M_X4_firstNotBelow 4 0 0 [vr 208, vi h_0] σ (pS (some (vi r)) σ) := by
  unfold fG_firstNotBelow at H
  refine z_mk (lv := [some (vr 208), some (vi h_0), none, none, none, none]) m_X4_firstNotBelow rfl hl (Nat.le_of_ble_eq_true rfl) rfl ?_
  refine z_iconst (M := M_X4_firstNotBelow) dX4_firstNotBelow_0 ?_
  refine z_istore_n (M := M_X4_firstNotBelow) (lv' := [some (vr 208), some (vi h_0), some (vi 0), none, none, none]) dX4_firstNotBelow_1 (Nat.le_of_ble_eq_true rfl) rfl rfl ?_
  refine z_aload_n (M := M_X4_firstNotBelow) dX4_firstNotBelow_2 rfl ?_
  refine z_getI (M := M_X4_firstNotBelow) (ci := 7) (C := RX4) (T := TX4) (Nf := 17) (ty := tyX4) cl7 dX4_firstNotBelow_3 ly_208 3 (by decide) t_384 rfl rfl ?_
  refine z_istore_n (M := M_X4_firstNotBelow) (lv' := [some (vr 208), some (vi h_0), some (vi 0), some (vi (σ kG_actives 0)), none, none]) dX4_firstNotBelow_6 (Nat.le_of_ble_eq_true rfl) rfl rfl ?_
  obtain ⟨rl_6, hw_3, hk_4⟩ := bd_e H
  have J_33 : ∀ low_31 high_32, rl_6 = (low_31, high_32) → YY l E M_X4_firstNotBelow 4 0 0 (pS (some (vi r)) σ) 72 [some (vr 208), some (vi h_0), some (vi low_31), some (vi high_32), none, none] [] σ 0 0 := by
    intro low_31 high_32 e
    have H := hk_4
    rw [e] at H
    refine z_iload_n (M := M_X4_firstNotBelow) dX4_firstNotBelow_72 rfl ?_
    cases H
    exact z_iret (M := M_X4_firstNotBelow) dX4_firstNotBelow_73 rfl (Nat.le_of_ble_eq_true rfl) (Nat.le_of_ble_eq_true rfl) ⟨rfl, rfl⟩
  refine whl_go hw_3 (fun (low_1, high_2) => YY l E M_X4_firstNotBelow 4 0 0 (pS (some (vi r)) σ) 7 [some (vr 208), some (vi h_0), some (vi low_1), some (vi high_2), none, none] [] σ 0 0) ?_
  rintro ⟨low_1, high_2⟩ o_7 H K_8 K_9
  refine z_iload_n (M := M_X4_firstNotBelow) dX4_firstNotBelow_7 rfl ?_
  refine z_iload_n (M := M_X4_firstNotBelow) dX4_firstNotBelow_8 rfl ?_
  rcases if_e H with ⟨h_10, H⟩ | ⟨h_10, H⟩
  · refine z_icmp_ge_f (M := M_X4_firstNotBelow) (tgt := 72) dX4_firstNotBelow_9 (by decide) rfl rfl h_10 ?_
    refine z_iload_n (M := M_X4_firstNotBelow) dX4_firstNotBelow_12 rfl ?_
    refine z_iload_n (M := M_X4_firstNotBelow) dX4_firstNotBelow_13 rfl ?_
    refine z_iload_n (M := M_X4_firstNotBelow) dX4_firstNotBelow_14 rfl ?_
    refine z_isub (M := M_X4_firstNotBelow) dX4_firstNotBelow_15 ?_
    refine z_iconst (M := M_X4_firstNotBelow) dX4_firstNotBelow_16 ?_
    refine z_idiv (M := M_X4_firstNotBelow) dX4_firstNotBelow_17 (by decide +kernel) ?_
    refine z_iadd (M := M_X4_firstNotBelow) dX4_firstNotBelow_18 ?_
    refine z_istore (M := M_X4_firstNotBelow) (lv' := [some (vr 208), some (vi h_0), some (vi low_1), some (vi high_2), some (vi (low_1 + (q_idv (high_2 - low_1) 2))), none]) dX4_firstNotBelow_19 (Nat.le_of_ble_eq_true rfl) rfl rfl ?_
    refine z_aload_n (M := M_X4_firstNotBelow) dX4_firstNotBelow_21 rfl ?_
    refine z_getR (M := M_X4_firstNotBelow) (ci := 7) (C := RX4) (T := TX4) (Nf := 17) (ty := tyX4) cl7 dX4_firstNotBelow_22 ly_208 2 (by decide) t_383 rfl ?_
    refine z_iload (M := M_X4_firstNotBelow) dX4_firstNotBelow_25 rfl ?_
    obtain ⟨x_11, x_11_e, hi_12, H⟩ := rd_e H
    refine z_iald (M := M_X4_firstNotBelow) dX4_firstNotBelow_27 ly_210 rfl rfl rfl hi_12 x_11_e ?_
    refine z_istore (M := M_X4_firstNotBelow) (lv' := [some (vr 208), some (vi h_0), some (vi low_1), some (vi high_2), some (vi (low_1 + (q_idv (high_2 - low_1) 2))), some (vi x_11)]) dX4_firstNotBelow_28 (Nat.le_of_ble_eq_true rfl) rfl rfl ?_
    obtain ⟨v_16, he_13, hk_14⟩ := bd_e H
    have J_29 : ∀ low_26 high_27, v_16 = (low_26, high_27) → YY l E M_X4_firstNotBelow 4 0 0 (pS (some (vi r)) σ) 69 [some (vr 208), some (vi h_0), some (vi low_26), some (vi high_27), some (vi (low_1 + (q_idv (high_2 - low_1) 2))), some (vi x_11)] [] σ 0 0 := by
      intro low_26 high_27 e
      have H := hk_14
      rw [e] at H
      refine z_goto (M := M_X4_firstNotBelow) (tgt := 7) dX4_firstNotBelow_69 (by decide) ?_
      refine z_le (lv' := [some (vr 208), some (vi h_0), some (vi low_26), some (vi high_27), none, none]) ⟨Or.inr rfl, Or.inr rfl, Or.inr rfl, Or.inr rfl, Or.inl rfl, Or.inl rfl, trivial⟩ ?_
      exact K_8 _ (Option.some.inj H).symm
    have H := he_13
    refine z_aload_n (M := M_X4_firstNotBelow) dX4_firstNotBelow_30 rfl ?_
    refine z_aload_n (M := M_X4_firstNotBelow) dX4_firstNotBelow_31 rfl ?_
    refine z_getR (M := M_X4_firstNotBelow) (ci := 7) (C := RX4) (T := TX4) (Nf := 17) (ty := tyX4) cl7 dX4_firstNotBelow_32 ly_208 0 (by decide) t_381 rfl ?_
    refine z_getR (M := M_X4_firstNotBelow) (ci := 11) (C := RX8) (T := TX8) (Nf := 13) (ty := tyX8) cl11 dX4_firstNotBelow_35 ly_193 9 (by decide) t_340 rfl ?_
    refine z_iload (M := M_X4_firstNotBelow) dX4_firstNotBelow_38 rfl ?_
    obtain ⟨x_17, x_17_e, hi_18, H⟩ := rd_e H
    refine z_iald (M := M_X4_firstNotBelow) dX4_firstNotBelow_40 ly_205 rfl rfl rfl hi_18 x_17_e ?_
    refine z_aload_n (M := M_X4_firstNotBelow) dX4_firstNotBelow_41 rfl ?_
    refine z_getR (M := M_X4_firstNotBelow) (ci := 7) (C := RX4) (T := TX4) (Nf := 17) (ty := tyX4) cl7 dX4_firstNotBelow_42 ly_208 0 (by decide) t_381 rfl ?_
    refine z_getR (M := M_X4_firstNotBelow) (ci := 11) (C := RX8) (T := TX8) (Nf := 13) (ty := tyX8) cl11 dX4_firstNotBelow_45 ly_193 10 (by decide) t_342 rfl ?_
    refine z_iload (M := M_X4_firstNotBelow) dX4_firstNotBelow_48 rfl ?_
    obtain ⟨x_19, x_19_e, hi_20, H⟩ := rd_e H
    refine z_iald (M := M_X4_firstNotBelow) dX4_firstNotBelow_50 ly_206 rfl rfl rfl hi_20 x_19_e ?_
    refine z_iload_n (M := M_X4_firstNotBelow) dX4_firstNotBelow_51 rfl ?_
    obtain ⟨x_22, hc_21, H⟩ := bd_e H
    refine z_callV (M := M_X4_firstNotBelow) (M' := M_X4_turnAt) (as := [vi x_17, vi x_19, vi h_0]) (rest := []) rfl rfl dX4_firstNotBelow_52 m_X4_turnAt t_1500 t_1502 s_82 (c_X4_turnAt hl  hc_21) rfl rfl ly_208 rfl (Nat.le_of_ble_eq_true rfl) (Nat.le_of_ble_eq_true rfl) (Nat.le_of_ble_eq_true rfl) (Nat.le_of_ble_eq_true rfl) ?_
    refine z_st (st' := [vi x_22]) rfl ?_
    rcases if_e H with ⟨h_23, H⟩ | ⟨h_23, H⟩
    · refine z_if_le_f (M := M_X4_firstNotBelow) (tgt := 66) dX4_firstNotBelow_55 (by decide) rfl h_23 ?_
      refine z_iload (M := M_X4_firstNotBelow) dX4_firstNotBelow_58 rfl ?_
      refine z_iconst (M := M_X4_firstNotBelow) dX4_firstNotBelow_60 ?_
      refine z_iadd (M := M_X4_firstNotBelow) dX4_firstNotBelow_61 ?_
      refine z_istore_n (M := M_X4_firstNotBelow) (lv' := [some (vr 208), some (vi h_0), some (vi ((low_1 + (q_idv (high_2 - low_1) 2)) + 1)), some (vi high_2), some (vi (low_1 + (q_idv (high_2 - low_1) 2))), some (vi x_11)]) dX4_firstNotBelow_62 (Nat.le_of_ble_eq_true rfl) rfl rfl ?_
      refine z_goto (M := M_X4_firstNotBelow) (tgt := 69) dX4_firstNotBelow_63 (by decide) ?_
      exact J_29 _ _ (Option.some.inj H).symm
    · refine z_if_le_t (M := M_X4_firstNotBelow) (tgt := 66) dX4_firstNotBelow_55 (by decide) rfl (Int.not_lt.mp h_23) ?_
      refine z_iload (M := M_X4_firstNotBelow) dX4_firstNotBelow_66 rfl ?_
      refine z_istore_n (M := M_X4_firstNotBelow) (lv' := [some (vr 208), some (vi h_0), some (vi low_1), some (vi (low_1 + (q_idv (high_2 - low_1) 2))), some (vi (low_1 + (q_idv (high_2 - low_1) 2))), some (vi x_11)]) dX4_firstNotBelow_68 (Nat.le_of_ble_eq_true rfl) rfl rfl ?_
      exact J_29 _ _ (Option.some.inj H).symm
  · refine z_icmp_ge_t (M := M_X4_firstNotBelow) (tgt := 72) dX4_firstNotBelow_9 (by decide) rfl rfl (Int.not_lt.mp h_10) ?_
    exact J_33 _ _ (K_9 _ (Option.some.inj H).symm).symm
theorem c_X4_replaceActive (hl : l.stackTraces = false) {σ : SG} {low_0 : Int} {high_0 : Int} {begun_0 : Int} {fresh_0 : Int} {σ' : SG}  (H : fG_replaceActive σ low_0 high_0 begun_0 fresh_0 = some σ') : en_S l E M_X4_replaceActive 4 0 0 [vr 208, vi low_0, vi high_0, vi begun_0, vi fresh_0] σ (pS (none) σ') := by
  unfold fG_replaceActive at H
  refine z_mk (lv := [some (vr 208), some (vi low_0), some (vi high_0), some (vi begun_0), some (vi fresh_0), none, none]) m_X4_replaceActive rfl hl (Nat.le_of_ble_eq_true rfl) rfl ?_
  refine z_aload_n (M := M_X4_replaceActive) dX4_replaceActive_0 rfl ?_
  refine z_getR (M := M_X4_replaceActive) (ci := 7) (C := RX4) (T := TX4) (Nf := 17) (ty := tyX4) cl7 dX4_replaceActive_1 ly_208 2 (by decide) t_383 rfl ?_
  refine z_iload_n (M := M_X4_replaceActive) dX4_replaceActive_4 rfl ?_
  refine z_aload_n (M := M_X4_replaceActive) dX4_replaceActive_5 rfl ?_
  refine z_getR (M := M_X4_replaceActive) (ci := 7) (C := RX4) (T := TX4) (Nf := 17) (ty := tyX4) cl7 dX4_replaceActive_6 ly_208 2 (by decide) t_383 rfl ?_
  refine z_iload_n (M := M_X4_replaceActive) dX4_replaceActive_9 rfl ?_
  refine z_iload (M := M_X4_replaceActive) dX4_replaceActive_10 rfl ?_
  refine z_iadd (M := M_X4_replaceActive) dX4_replaceActive_12 ?_
  refine z_iload_n (M := M_X4_replaceActive) dX4_replaceActive_13 rfl ?_
  refine z_isub (M := M_X4_replaceActive) dX4_replaceActive_14 ?_
  refine z_aload_n (M := M_X4_replaceActive) dX4_replaceActive_15 rfl ?_
  refine z_getI (M := M_X4_replaceActive) (ci := 7) (C := RX4) (T := TX4) (Nf := 17) (ty := tyX4) cl7 dX4_replaceActive_16 ly_208 3 (by decide) t_384 rfl rfl ?_
  refine z_iload_n (M := M_X4_replaceActive) dX4_replaceActive_19 rfl ?_
  refine z_isub (M := M_X4_replaceActive) dX4_replaceActive_20 ?_
  obtain ⟨σ_1, σ_1_e, hi_2, H⟩ := cp_e H
  refine z_acopyI (M := M_X4_replaceActive) dX4_replaceActive_21 t_1509 t_630 t_629 t_21 ly_210 ly_210 rfl rfl rfl rfl rfl rfl rfl hi_2 σ_1_e (Nat.le_of_ble_eq_true rfl) (Nat.le_of_ble_eq_true rfl) ?_
  refine z_aload_n (M := M_X4_replaceActive) dX4_replaceActive_24 rfl ?_
  refine z_dup (M := M_X4_replaceActive) dX4_replaceActive_25 rfl ?_
  refine z_getI (M := M_X4_replaceActive) (ci := 7) (C := RX4) (T := TX4) (Nf := 17) (ty := tyX4) cl7 dX4_replaceActive_26 ly_208 3 (by decide) t_384 rfl rfl ?_
  refine z_iload (M := M_X4_replaceActive) dX4_replaceActive_29 rfl ?_
  refine z_iload_n (M := M_X4_replaceActive) dX4_replaceActive_31 rfl ?_
  refine z_isub (M := M_X4_replaceActive) dX4_replaceActive_32 ?_
  refine z_iload_n (M := M_X4_replaceActive) dX4_replaceActive_33 rfl ?_
  refine z_iload_n (M := M_X4_replaceActive) dX4_replaceActive_34 rfl ?_
  refine z_isub (M := M_X4_replaceActive) dX4_replaceActive_35 ?_
  refine z_isub (M := M_X4_replaceActive) dX4_replaceActive_36 ?_
  refine z_iadd (M := M_X4_replaceActive) dX4_replaceActive_37 ?_
  obtain ⟨σ_3, σ_3_e, H⟩ := wf_e H
  refine z_putI (M := M_X4_replaceActive) (ci := 7) (C := RX4) (T := TX4) (Nf := 17) (ty := tyX4) cl7 dX4_replaceActive_38 ly_208 3 (by decide) t_384 rfl rfl rfl rfl σ_3_e ?_
  refine z_iload_n (M := M_X4_replaceActive) dX4_replaceActive_41 rfl ?_
  refine z_istore (M := M_X4_replaceActive) (lv' := [some (vr 208), some (vi low_0), some (vi high_0), some (vi begun_0), some (vi fresh_0), some (vi begun_0), none]) dX4_replaceActive_42 (Nat.le_of_ble_eq_true rfl) rfl rfl ?_
  obtain ⟨rl_9, hw_6, hk_7⟩ := bd_e H
  have J_108 : ∀ piece_65 σ_66, rl_9 = (piece_65, σ_66) → YY l E M_X4_replaceActive 4 0 0 (pS (none) σ') 146 [some (vr 208), some (vi low_0), some (vi high_0), some (vi begun_0), some (vi fresh_0), some (vi piece_65), none] [] σ_66 0 0 := by
    intro piece_65 σ_66 e
    have H := hk_7
    rw [e] at H
    obtain ⟨v_104, he_105, hk_106⟩ := bd_e H
    have J_107 : ∀ x_78, v_104 = x_78 → YY l E M_X4_replaceActive 4 0 0 (pS (none) σ') 167 [some (vr 208), some (vi low_0), some (vi high_0), some (vi begun_0), some (vi fresh_0), some (vi piece_65), none] [vi x_78] σ_66 0 0 := by
      intro x_78 e
      have H := hk_106
      rw [e] at H
      refine z_istore (M := M_X4_replaceActive) (lv' := [some (vr 208), some (vi low_0), some (vi high_0), some (vi begun_0), some (vi fresh_0), some (vi x_78), none]) dX4_replaceActive_167 (Nat.le_of_ble_eq_true rfl) rfl rfl ?_
      refine z_iload_n (M := M_X4_replaceActive) dX4_replaceActive_169 rfl ?_
      refine z_istore (M := M_X4_replaceActive) (lv' := [some (vr 208), some (vi low_0), some (vi high_0), some (vi begun_0), some (vi fresh_0), some (vi x_78), some (vi low_0)]) dX4_replaceActive_170 (Nat.le_of_ble_eq_true rfl) rfl rfl ?_
      obtain ⟨rl_85, hw_82, hk_83⟩ := bd_e H
      have J_103 : ∀ inside_100 at_101 σ_102, rl_85 = (inside_100, at_101, σ_102) → YY l E M_X4_replaceActive 4 0 0 (pS (none) σ') 223 [some (vr 208), some (vi low_0), some (vi high_0), some (vi begun_0), some (vi fresh_0), some (vi inside_100), some (vi at_101)] [] σ_102 0 0 := by
        intro inside_100 at_101 σ_102 e
        have H := hk_83
        rw [e] at H
        cases H
        exact z_vret (M := M_X4_replaceActive) dX4_replaceActive_223 rfl (Nat.le_of_ble_eq_true rfl) (Nat.le_of_ble_eq_true rfl) ⟨rfl, rfl⟩
      refine whl_go hw_82 (fun (inside_79, at_80, σ_81) => YY l E M_X4_replaceActive 4 0 0 (pS (none) σ') 172 [some (vr 208), some (vi low_0), some (vi high_0), some (vi begun_0), some (vi fresh_0), some (vi inside_79), some (vi at_80)] [] σ_81 0 0) ?_
      rintro ⟨inside_79, at_80, σ_81⟩ o_86 H K_87 K_88
      refine z_iload (M := M_X4_replaceActive) dX4_replaceActive_172 rfl ?_
      refine z_iload_n (M := M_X4_replaceActive) dX4_replaceActive_174 rfl ?_
      refine z_iload (M := M_X4_replaceActive) dX4_replaceActive_175 rfl ?_
      refine z_iadd (M := M_X4_replaceActive) dX4_replaceActive_177 ?_
      refine z_iload_n (M := M_X4_replaceActive) dX4_replaceActive_178 rfl ?_
      refine z_isub (M := M_X4_replaceActive) dX4_replaceActive_179 ?_
      rcases if_e H with ⟨h_89, H⟩ | ⟨h_89, H⟩
      · refine z_icmp_ge_f (M := M_X4_replaceActive) (tgt := 223) dX4_replaceActive_180 (by decide) rfl rfl h_89 ?_
        refine z_iload (M := M_X4_replaceActive) dX4_replaceActive_183 rfl ?_
        refine z_aload_n (M := M_X4_replaceActive) dX4_replaceActive_185 rfl ?_
        refine z_getR (M := M_X4_replaceActive) (ci := 7) (C := RX4) (T := TX4) (Nf := 17) (ty := tyX4) cl7 dX4_replaceActive_186 ly_208 0 (by decide) t_381 rfl ?_
        refine z_getR (M := M_X4_replaceActive) (ci := 11) (C := RX8) (T := TX8) (Nf := 13) (ty := tyX8) cl11 dX4_replaceActive_189 ly_193 11 (by decide) t_344 rfl ?_
        refine z_aload_n (M := M_X4_replaceActive) dX4_replaceActive_192 rfl ?_
        refine z_getR (M := M_X4_replaceActive) (ci := 7) (C := RX4) (T := TX4) (Nf := 17) (ty := tyX4) cl7 dX4_replaceActive_193 ly_208 2 (by decide) t_383 rfl ?_
        refine z_iload (M := M_X4_replaceActive) dX4_replaceActive_196 rfl ?_
        obtain ⟨x_90, x_90_e, hi_91, H⟩ := rd_e H
        refine z_iald (M := M_X4_replaceActive) dX4_replaceActive_198 ly_210 rfl rfl rfl hi_91 x_90_e ?_
        obtain ⟨x_92, x_92_e, hi_93, H⟩ := rd_e H
        refine z_iald (M := M_X4_replaceActive) dX4_replaceActive_199 ly_207 rfl rfl rfl hi_93 x_92_e ?_
        refine z_ixor (M := M_X4_replaceActive) dX4_replaceActive_200 ?_
        refine z_istore (M := M_X4_replaceActive) (lv' := [some (vr 208), some (vi low_0), some (vi high_0), some (vi begun_0), some (vi fresh_0), some (vi (q_ixo inside_79 x_92)), some (vi at_80)]) dX4_replaceActive_201 (Nat.le_of_ble_eq_true rfl) rfl rfl ?_
        refine z_aload_n (M := M_X4_replaceActive) dX4_replaceActive_203 rfl ?_
        refine z_getR (M := M_X4_replaceActive) (ci := 7) (C := RX4) (T := TX4) (Nf := 17) (ty := tyX4) cl7 dX4_replaceActive_204 ly_208 1 (by decide) t_382 rfl ?_
        refine z_aload_n (M := M_X4_replaceActive) dX4_replaceActive_207 rfl ?_
        refine z_getR (M := M_X4_replaceActive) (ci := 7) (C := RX4) (T := TX4) (Nf := 17) (ty := tyX4) cl7 dX4_replaceActive_208 ly_208 2 (by decide) t_383 rfl ?_
        refine z_iload (M := M_X4_replaceActive) dX4_replaceActive_211 rfl ?_
        obtain ⟨x_94, x_94_e, hi_95, H⟩ := rd_e H
        refine z_iald (M := M_X4_replaceActive) dX4_replaceActive_213 ly_210 rfl rfl rfl hi_95 x_94_e ?_
        refine z_iload (M := M_X4_replaceActive) dX4_replaceActive_214 rfl ?_
        obtain ⟨σ_96, σ_96_e, hi_97, H⟩ := wa_e H
        refine z_iast (M := M_X4_replaceActive) dX4_replaceActive_216 ly_209 rfl rfl rfl hi_97 σ_96_e ?_
        refine z_iinc (M := M_X4_replaceActive) (lv' := [some (vr 208), some (vi low_0), some (vi high_0), some (vi begun_0), some (vi fresh_0), some (vi (q_ixo inside_79 x_92)), some (vi (at_80 + 1))]) dX4_replaceActive_217 rfl (Nat.le_of_ble_eq_true rfl) rfl rfl ?_
        refine z_goto (M := M_X4_replaceActive) (tgt := 172) dX4_replaceActive_220 (by decide) ?_
        exact K_87 _ (Option.some.inj H).symm
      · refine z_icmp_ge_t (M := M_X4_replaceActive) (tgt := 223) dX4_replaceActive_180 (by decide) rfl rfl (Int.not_lt.mp h_89) ?_
        exact J_103 _ _ _ (K_88 _ (Option.some.inj H).symm).symm
    have H := he_105
    refine z_iload_n (M := M_X4_replaceActive) dX4_replaceActive_146 rfl ?_
    rcases if_e H with ⟨h_71, H⟩ | ⟨h_71, H⟩
    · refine z_if_le_f (M := M_X4_replaceActive) (tgt := 166) dX4_replaceActive_147 (by decide) rfl h_71 ?_
      refine z_aload_n (M := M_X4_replaceActive) dX4_replaceActive_150 rfl ?_
      refine z_getR (M := M_X4_replaceActive) (ci := 7) (C := RX4) (T := TX4) (Nf := 17) (ty := tyX4) cl7 dX4_replaceActive_151 ly_208 1 (by decide) t_382 rfl ?_
      refine z_aload_n (M := M_X4_replaceActive) dX4_replaceActive_154 rfl ?_
      refine z_getR (M := M_X4_replaceActive) (ci := 7) (C := RX4) (T := TX4) (Nf := 17) (ty := tyX4) cl7 dX4_replaceActive_155 ly_208 2 (by decide) t_383 rfl ?_
      refine z_iload_n (M := M_X4_replaceActive) dX4_replaceActive_158 rfl ?_
      refine z_iconst (M := M_X4_replaceActive) dX4_replaceActive_159 ?_
      refine z_isub (M := M_X4_replaceActive) dX4_replaceActive_160 ?_
      obtain ⟨x_72, x_72_e, hi_73, H⟩ := rd_e H
      refine z_iald (M := M_X4_replaceActive) dX4_replaceActive_161 ly_210 rfl rfl rfl hi_73 x_72_e ?_
      obtain ⟨x_74, x_74_e, hi_75, H⟩ := rd_e H
      refine z_iald (M := M_X4_replaceActive) dX4_replaceActive_162 ly_209 rfl rfl rfl hi_75 x_74_e ?_
      refine z_goto (M := M_X4_replaceActive) (tgt := 167) dX4_replaceActive_163 (by decide) ?_
      exact J_107 _ (Option.some.inj H).symm
    · refine z_if_le_t (M := M_X4_replaceActive) (tgt := 166) dX4_replaceActive_147 (by decide) rfl (Int.not_lt.mp h_71) ?_
      refine z_iconst (M := M_X4_replaceActive) dX4_replaceActive_166 ?_
      exact J_107 _ (Option.some.inj H).symm
  refine whl_go hw_6 (fun (piece_4, σ_5) => YY l E M_X4_replaceActive 4 0 0 (pS (none) σ') 44 [some (vr 208), some (vi low_0), some (vi high_0), some (vi begun_0), some (vi fresh_0), some (vi piece_4), none] [] σ_5 0 0) ?_
  rintro ⟨piece_4, σ_5⟩ o_10 H K_11 K_12
  refine z_iload (M := M_X4_replaceActive) dX4_replaceActive_44 rfl ?_
  refine z_iload (M := M_X4_replaceActive) dX4_replaceActive_46 rfl ?_
  rcases if_e H with ⟨h_13, H⟩ | ⟨h_13, H⟩
  · refine z_icmp_ge_f (M := M_X4_replaceActive) (tgt := 146) dX4_replaceActive_48 (by decide) rfl rfl h_13 ?_
    refine z_iload_n (M := M_X4_replaceActive) dX4_replaceActive_51 rfl ?_
    refine z_iload (M := M_X4_replaceActive) dX4_replaceActive_52 rfl ?_
    refine z_iadd (M := M_X4_replaceActive) dX4_replaceActive_54 ?_
    refine z_iload_n (M := M_X4_replaceActive) dX4_replaceActive_55 rfl ?_
    refine z_isub (M := M_X4_replaceActive) dX4_replaceActive_56 ?_
    refine z_istore (M := M_X4_replaceActive) (lv' := [some (vr 208), some (vi low_0), some (vi high_0), some (vi begun_0), some (vi fresh_0), some (vi piece_4), some (vi ((low_0 + piece_4) - begun_0))]) dX4_replaceActive_57 (Nat.le_of_ble_eq_true rfl) rfl rfl ?_
    obtain ⟨rl_19, hw_16, hk_17⟩ := bd_e H
    have J_63 : ∀ at_58 σ_59, rl_19 = (at_58, σ_59) → YY l E M_X4_replaceActive 4 0 0 (pS (none) σ') 131 [some (vr 208), some (vi low_0), some (vi high_0), some (vi begun_0), some (vi fresh_0), some (vi piece_4), some (vi at_58)] [] σ_59 0 0 := by
      intro at_58 σ_59 e
      have H := hk_17
      rw [e] at H
      refine z_aload_n (M := M_X4_replaceActive) dX4_replaceActive_131 rfl ?_
      refine z_getR (M := M_X4_replaceActive) (ci := 7) (C := RX4) (T := TX4) (Nf := 17) (ty := tyX4) cl7 dX4_replaceActive_132 ly_208 2 (by decide) t_383 rfl ?_
      refine z_iload (M := M_X4_replaceActive) dX4_replaceActive_135 rfl ?_
      refine z_iload (M := M_X4_replaceActive) dX4_replaceActive_137 rfl ?_
      obtain ⟨σ_60, σ_60_e, hi_61, H⟩ := wa_e H
      refine z_iast (M := M_X4_replaceActive) dX4_replaceActive_139 ly_210 rfl rfl rfl hi_61 σ_60_e ?_
      refine z_iinc (M := M_X4_replaceActive) (lv' := [some (vr 208), some (vi low_0), some (vi high_0), some (vi begun_0), some (vi fresh_0), some (vi (piece_4 + 1)), some (vi at_58)]) dX4_replaceActive_140 rfl (Nat.le_of_ble_eq_true rfl) rfl rfl ?_
      refine z_goto (M := M_X4_replaceActive) (tgt := 44) dX4_replaceActive_143 (by decide) ?_
      refine z_le (lv' := [some (vr 208), some (vi low_0), some (vi high_0), some (vi begun_0), some (vi fresh_0), some (vi (piece_4 + 1)), none]) ⟨Or.inr rfl, Or.inr rfl, Or.inr rfl, Or.inr rfl, Or.inr rfl, Or.inr rfl, Or.inl rfl, trivial⟩ ?_
      exact K_11 _ (Option.some.inj H).symm
    refine whl_go hw_16 (fun (at_14, σ_15) => YY l E M_X4_replaceActive 4 0 0 (pS (none) σ') 59 [some (vr 208), some (vi low_0), some (vi high_0), some (vi begun_0), some (vi fresh_0), some (vi piece_4), some (vi at_14)] [] σ_15 0 0) ?_
    rintro ⟨at_14, σ_15⟩ o_20 H K_21 K_22
    refine z_iload (M := M_X4_replaceActive) dX4_replaceActive_59 rfl ?_
    refine z_iload_n (M := M_X4_replaceActive) dX4_replaceActive_61 rfl ?_
    rcases if_e H with ⟨h_39, H⟩ | ⟨h_39, H⟩
    · refine z_icmp_le_f (M := M_X4_replaceActive) (tgt := 131) dX4_replaceActive_62 (by decide) rfl rfl h_39 ?_
      refine z_aload_n (M := M_X4_replaceActive) dX4_replaceActive_65 rfl ?_
      refine z_aload_n (M := M_X4_replaceActive) dX4_replaceActive_66 rfl ?_
      refine z_getR (M := M_X4_replaceActive) (ci := 7) (C := RX4) (T := TX4) (Nf := 17) (ty := tyX4) cl7 dX4_replaceActive_67 ly_208 0 (by decide) t_381 rfl ?_
      refine z_getR (M := M_X4_replaceActive) (ci := 11) (C := RX8) (T := TX8) (Nf := 13) (ty := tyX8) cl11 dX4_replaceActive_70 ly_193 9 (by decide) t_340 rfl ?_
      refine z_iload (M := M_X4_replaceActive) dX4_replaceActive_73 rfl ?_
      obtain ⟨x_40, x_40_e, hi_41, H⟩ := rd_e H
      refine z_iald (M := M_X4_replaceActive) dX4_replaceActive_75 ly_205 rfl rfl rfl hi_41 x_40_e ?_
      refine z_aload_n (M := M_X4_replaceActive) dX4_replaceActive_76 rfl ?_
      refine z_getR (M := M_X4_replaceActive) (ci := 7) (C := RX4) (T := TX4) (Nf := 17) (ty := tyX4) cl7 dX4_replaceActive_77 ly_208 0 (by decide) t_381 rfl ?_
      refine z_getR (M := M_X4_replaceActive) (ci := 11) (C := RX8) (T := TX8) (Nf := 13) (ty := tyX8) cl11 dX4_replaceActive_80 ly_193 10 (by decide) t_342 rfl ?_
      refine z_aload_n (M := M_X4_replaceActive) dX4_replaceActive_83 rfl ?_
      refine z_getR (M := M_X4_replaceActive) (ci := 7) (C := RX4) (T := TX4) (Nf := 17) (ty := tyX4) cl7 dX4_replaceActive_84 ly_208 2 (by decide) t_383 rfl ?_
      refine z_iload (M := M_X4_replaceActive) dX4_replaceActive_87 rfl ?_
      refine z_iconst (M := M_X4_replaceActive) dX4_replaceActive_89 ?_
      refine z_isub (M := M_X4_replaceActive) dX4_replaceActive_90 ?_
      obtain ⟨x_42, x_42_e, hi_43, H⟩ := rd_e H
      refine z_iald (M := M_X4_replaceActive) dX4_replaceActive_91 ly_210 rfl rfl rfl hi_43 x_42_e ?_
      obtain ⟨x_44, x_44_e, hi_45, H⟩ := rd_e H
      refine z_iald (M := M_X4_replaceActive) dX4_replaceActive_92 ly_206 rfl rfl rfl hi_45 x_44_e ?_
      refine z_aload_n (M := M_X4_replaceActive) dX4_replaceActive_93 rfl ?_
      refine z_getR (M := M_X4_replaceActive) (ci := 7) (C := RX4) (T := TX4) (Nf := 17) (ty := tyX4) cl7 dX4_replaceActive_94 ly_208 0 (by decide) t_381 rfl ?_
      refine z_getR (M := M_X4_replaceActive) (ci := 11) (C := RX8) (T := TX8) (Nf := 13) (ty := tyX8) cl11 dX4_replaceActive_97 ly_193 10 (by decide) t_342 rfl ?_
      refine z_iload (M := M_X4_replaceActive) dX4_replaceActive_100 rfl ?_
      obtain ⟨x_46, x_46_e, hi_47, H⟩ := rd_e H
      refine z_iald (M := M_X4_replaceActive) dX4_replaceActive_102 ly_206 rfl rfl rfl hi_47 x_46_e ?_
      obtain ⟨x_49, hc_48, H⟩ := bd_e H
      refine z_callV (M := M_X4_replaceActive) (M' := M_X4_turnAt) (as := [vi x_40, vi x_44, vi x_46]) (rest := []) rfl rfl dX4_replaceActive_103 m_X4_turnAt t_1500 t_1502 s_82 (c_X4_turnAt hl  hc_48) rfl rfl ly_208 rfl (Nat.le_of_ble_eq_true rfl) (Nat.le_of_ble_eq_true rfl) (Nat.le_of_ble_eq_true rfl) (Nat.le_of_ble_eq_true rfl) ?_
      refine z_st (st' := [vi x_49]) rfl ?_
      rcases if_e H with ⟨h_50, H⟩ | ⟨h_50, H⟩
      · refine z_if_ge_f (M := M_X4_replaceActive) (tgt := 131) dX4_replaceActive_106 (by decide) rfl h_50 ?_
        refine z_aload_n (M := M_X4_replaceActive) dX4_replaceActive_109 rfl ?_
        refine z_getR (M := M_X4_replaceActive) (ci := 7) (C := RX4) (T := TX4) (Nf := 17) (ty := tyX4) cl7 dX4_replaceActive_110 ly_208 2 (by decide) t_383 rfl ?_
        refine z_iload (M := M_X4_replaceActive) dX4_replaceActive_113 rfl ?_
        refine z_aload_n (M := M_X4_replaceActive) dX4_replaceActive_115 rfl ?_
        refine z_getR (M := M_X4_replaceActive) (ci := 7) (C := RX4) (T := TX4) (Nf := 17) (ty := tyX4) cl7 dX4_replaceActive_116 ly_208 2 (by decide) t_383 rfl ?_
        refine z_iload (M := M_X4_replaceActive) dX4_replaceActive_119 rfl ?_
        refine z_iconst (M := M_X4_replaceActive) dX4_replaceActive_121 ?_
        refine z_isub (M := M_X4_replaceActive) dX4_replaceActive_122 ?_
        obtain ⟨x_51, x_51_e, hi_52, H⟩ := rd_e H
        refine z_iald (M := M_X4_replaceActive) dX4_replaceActive_123 ly_210 rfl rfl rfl hi_52 x_51_e ?_
        obtain ⟨σ_53, σ_53_e, hi_54, H⟩ := wa_e H
        refine z_iast (M := M_X4_replaceActive) dX4_replaceActive_124 ly_210 rfl rfl rfl hi_54 σ_53_e ?_
        refine z_iinc (M := M_X4_replaceActive) (lv' := [some (vr 208), some (vi low_0), some (vi high_0), some (vi begun_0), some (vi fresh_0), some (vi piece_4), some (vi (at_14 + (-1)))]) dX4_replaceActive_125 rfl (Nat.le_of_ble_eq_true rfl) rfl rfl ?_
        refine z_goto (M := M_X4_replaceActive) (tgt := 59) dX4_replaceActive_128 (by decide) ?_
        exact K_21 _ (Option.some.inj H).symm
      · refine z_if_ge_t (M := M_X4_replaceActive) (tgt := 131) dX4_replaceActive_106 (by decide) rfl (Int.not_lt.mp h_50) ?_
        exact J_63 _ _ (K_22 _ (Option.some.inj H).symm).symm
    · refine z_icmp_le_t (M := M_X4_replaceActive) (tgt := 131) dX4_replaceActive_62 (by decide) rfl rfl (Int.not_lt.mp h_39) ?_
      exact J_63 _ _ (K_22 _ (Option.some.inj H).symm).symm
  · refine z_icmp_ge_t (M := M_X4_replaceActive) (tgt := 146) dX4_replaceActive_48 (by decide) rfl rfl (Int.not_lt.mp h_13) ?_
    exact J_108 _ _ (K_12 _ (Option.some.inj H).symm).symm
theorem c_X4_sweep (hl : l.stackTraces = false) {σ : SG} {σ' : SG}  (H : fG_sweep σ = some σ') : en_S l E M_X4_sweep 5 0 0 [vr 208] σ (pS (none) σ') := by
  unfold fG_sweep at H
  refine z_mk (lv := [some (vr 208), none, none, none, none, none]) m_X4_sweep rfl hl (Nat.le_of_ble_eq_true rfl) rfl ?_
  refine z_aload_n (M := M_X4_sweep) dX4_sweep_0 rfl ?_
  refine z_iconst (M := M_X4_sweep) dX4_sweep_1 ?_
  obtain ⟨σ_1, σ_1_e, H⟩ := wf_e H
  refine z_putI (M := M_X4_sweep) (ci := 7) (C := RX4) (T := TX4) (Nf := 17) (ty := tyX4) cl7 dX4_sweep_2 ly_208 3 (by decide) t_384 rfl rfl rfl rfl σ_1_e ?_
  refine z_iconst (M := M_X4_sweep) dX4_sweep_5 ?_
  refine z_istore_n (M := M_X4_sweep) (lv' := [some (vr 208), some (vi 0), none, none, none, none]) dX4_sweep_6 (Nat.le_of_ble_eq_true rfl) rfl rfl ?_
  refine z_iconst (M := M_X4_sweep) dX4_sweep_7 ?_
  refine z_istore_n (M := M_X4_sweep) (lv' := [some (vr 208), some (vi 0), some (vi 0), none, none, none]) dX4_sweep_8 (Nat.le_of_ble_eq_true rfl) rfl rfl ?_
  obtain ⟨rl_8, hw_5, hk_6⟩ := bd_e H
  have J_76 : ∀ fresh_73 h_74 σ_75, rl_8 = (fresh_73, h_74, σ_75) → YY l E M_X4_sweep 5 0 0 (pS (none) σ') 112 [some (vr 208), some (vi fresh_73), some (vi h_74), none, none, none] [] σ_75 0 0 := by
    intro fresh_73 h_74 σ_75 e
    have H := hk_6
    rw [e] at H
    cases H
    exact z_vret (M := M_X4_sweep) dX4_sweep_112 rfl (Nat.le_of_ble_eq_true rfl) (Nat.le_of_ble_eq_true rfl) ⟨rfl, rfl⟩
  refine whl_go hw_5 (fun (fresh_2, h_3, σ_4) => YY l E M_X4_sweep 5 0 0 (pS (none) σ') 9 [some (vr 208), some (vi fresh_2), some (vi h_3), none, none, none] [] σ_4 0 0) ?_
  rintro ⟨fresh_2, h_3, σ_4⟩ o_9 H K_10 K_11
  refine z_iload_n (M := M_X4_sweep) dX4_sweep_9 rfl ?_
  refine z_aload_n (M := M_X4_sweep) dX4_sweep_10 rfl ?_
  refine z_getR (M := M_X4_sweep) (ci := 7) (C := RX4) (T := TX4) (Nf := 17) (ty := tyX4) cl7 dX4_sweep_11 ly_208 0 (by decide) t_381 rfl ?_
  refine z_getI (M := M_X4_sweep) (ci := 11) (C := RX8) (T := TX8) (Nf := 13) (ty := tyX8) cl11 dX4_sweep_14 ly_193 8 (by decide) t_337 rfl rfl ?_
  rcases if_e H with ⟨h_12, H⟩ | ⟨h_12, H⟩
  · refine z_icmp_ge_f (M := M_X4_sweep) (tgt := 112) dX4_sweep_17 (by decide) rfl rfl h_12 ?_
    refine z_aload_n (M := M_X4_sweep) dX4_sweep_20 rfl ?_
    refine z_iload_n (M := M_X4_sweep) dX4_sweep_21 rfl ?_
    obtain ⟨x_14, hc_13, H⟩ := bd_e H
    refine z_callV (M := M_X4_sweep) (M' := M_X4_firstNotBelow) (as := [vi h_3]) (rest := []) rfl rfl dX4_sweep_22 m_X4_firstNotBelow t_1496 t_1498 s_81 (c_X4_firstNotBelow hl  hc_13) rfl rfl ly_208 rfl (Nat.le_of_ble_eq_true rfl) (Nat.le_of_ble_eq_true rfl) (Nat.le_of_ble_eq_true rfl) (Nat.le_of_ble_eq_true rfl) ?_
    refine z_st (st' := [vi x_14]) rfl ?_
    refine z_istore_n (M := M_X4_sweep) (lv' := [some (vr 208), some (vi fresh_2), some (vi h_3), some (vi x_14), none, none]) dX4_sweep_25 (Nat.le_of_ble_eq_true rfl) rfl rfl ?_
    refine z_iload_n (M := M_X4_sweep) dX4_sweep_26 rfl ?_
    refine z_istore (M := M_X4_sweep) (lv' := [some (vr 208), some (vi fresh_2), some (vi h_3), some (vi x_14), some (vi x_14), none]) dX4_sweep_27 (Nat.le_of_ble_eq_true rfl) rfl rfl ?_
    obtain ⟨rl_19, hw_16, hk_17⟩ := bd_e H
    have J_71 : ∀ high_42, rl_19 = high_42 → YY l E M_X4_sweep 5 0 0 (pS (none) σ') 63 [some (vr 208), some (vi fresh_2), some (vi h_3), some (vi x_14), some (vi high_42), none] [] σ_4 0 0 := by
      intro high_42 e
      have H := hk_17
      rw [e] at H
      refine z_iload_n (M := M_X4_sweep) dX4_sweep_63 rfl ?_
      refine z_istore (M := M_X4_sweep) (lv' := [some (vr 208), some (vi fresh_2), some (vi h_3), some (vi x_14), some (vi high_42), some (vi fresh_2)]) dX4_sweep_64 (Nat.le_of_ble_eq_true rfl) rfl rfl ?_
      obtain ⟨rl_47, hw_44, hk_45⟩ := bd_e H
      have J_70 : ∀ fresh_66, rl_47 = fresh_66 → YY l E M_X4_sweep 5 0 0 (pS (none) σ') 96 [some (vr 208), some (vi fresh_66), some (vi h_3), some (vi x_14), some (vi high_42), some (vi fresh_2)] [] σ_4 0 0 := by
        intro fresh_66 e
        have H := hk_45
        rw [e] at H
        refine z_aload_n (M := M_X4_sweep) dX4_sweep_96 rfl ?_
        refine z_iload_n (M := M_X4_sweep) dX4_sweep_97 rfl ?_
        refine z_iload (M := M_X4_sweep) dX4_sweep_98 rfl ?_
        refine z_iload (M := M_X4_sweep) dX4_sweep_100 rfl ?_
        refine z_iload_n (M := M_X4_sweep) dX4_sweep_102 rfl ?_
        obtain ⟨σ_68, hc_67, H⟩ := bd_e H
        refine z_callV (M := M_X4_sweep) (M' := M_X4_replaceActive) (as := [vi x_14, vi high_42, vi fresh_2, vi fresh_66]) (rest := []) rfl rfl dX4_sweep_103 m_X4_replaceActive t_1505 t_1507 s_83 (c_X4_replaceActive hl  hc_67) rfl rfl ly_208 rfl (Nat.le_of_ble_eq_true rfl) (Nat.le_of_ble_eq_true rfl) (Nat.le_of_ble_eq_true rfl) (Nat.le_of_ble_eq_true rfl) ?_
        refine z_st (st' := []) rfl ?_
        refine z_iinc (M := M_X4_sweep) (lv' := [some (vr 208), some (vi fresh_66), some (vi (h_3 + 1)), some (vi x_14), some (vi high_42), some (vi fresh_2)]) dX4_sweep_106 rfl (Nat.le_of_ble_eq_true rfl) rfl rfl ?_
        refine z_goto (M := M_X4_sweep) (tgt := 9) dX4_sweep_109 (by decide) ?_
        refine z_le (lv' := [some (vr 208), some (vi fresh_66), some (vi (h_3 + 1)), none, none, none]) ⟨Or.inr rfl, Or.inr rfl, Or.inr rfl, Or.inl rfl, Or.inl rfl, Or.inl rfl, trivial⟩ ?_
        exact K_10 _ (Option.some.inj H).symm
      refine whl_go hw_44 (fun fresh_43 => YY l E M_X4_sweep 5 0 0 (pS (none) σ') 66 [some (vr 208), some (vi fresh_43), some (vi h_3), some (vi x_14), some (vi high_42), some (vi fresh_2)] [] σ_4 0 0) ?_
      rintro fresh_43 o_48 H K_49 K_50
      refine z_iload_n (M := M_X4_sweep) dX4_sweep_66 rfl ?_
      refine z_aload_n (M := M_X4_sweep) dX4_sweep_67 rfl ?_
      refine z_getR (M := M_X4_sweep) (ci := 7) (C := RX4) (T := TX4) (Nf := 17) (ty := tyX4) cl7 dX4_sweep_68 ly_208 0 (by decide) t_381 rfl ?_
      refine z_getI (M := M_X4_sweep) (ci := 11) (C := RX8) (T := TX8) (Nf := 13) (ty := tyX8) cl11 dX4_sweep_71 ly_193 12 (by decide) t_345 rfl rfl ?_
      rcases if_e H with ⟨h_59, H⟩ | ⟨h_59, H⟩
      · refine z_icmp_ge_f (M := M_X4_sweep) (tgt := 96) dX4_sweep_74 (by decide) rfl rfl h_59 ?_
        refine z_aload_n (M := M_X4_sweep) dX4_sweep_77 rfl ?_
        refine z_getR (M := M_X4_sweep) (ci := 7) (C := RX4) (T := TX4) (Nf := 17) (ty := tyX4) cl7 dX4_sweep_78 ly_208 0 (by decide) t_381 rfl ?_
        refine z_getR (M := M_X4_sweep) (ci := 11) (C := RX8) (T := TX8) (Nf := 13) (ty := tyX8) cl11 dX4_sweep_81 ly_193 9 (by decide) t_340 rfl ?_
        refine z_iload_n (M := M_X4_sweep) dX4_sweep_84 rfl ?_
        obtain ⟨x_60, x_60_e, hi_61, H⟩ := rd_e H
        refine z_iald (M := M_X4_sweep) dX4_sweep_85 ly_205 rfl rfl rfl hi_61 x_60_e ?_
        refine z_iload_n (M := M_X4_sweep) dX4_sweep_86 rfl ?_
        rcases if_e H with ⟨h_62, H⟩ | ⟨h_62, H⟩
        · refine z_icmp_ne_f (M := M_X4_sweep) (tgt := 96) dX4_sweep_87 (by decide) rfl rfl h_62 ?_
          refine z_iinc (M := M_X4_sweep) (lv' := [some (vr 208), some (vi (fresh_43 + 1)), some (vi h_3), some (vi x_14), some (vi high_42), some (vi fresh_2)]) dX4_sweep_90 rfl (Nat.le_of_ble_eq_true rfl) rfl rfl ?_
          refine z_goto (M := M_X4_sweep) (tgt := 66) dX4_sweep_93 (by decide) ?_
          exact K_49 _ (Option.some.inj H).symm
        · refine z_icmp_ne_t (M := M_X4_sweep) (tgt := 96) dX4_sweep_87 (by decide) rfl rfl h_62 ?_
          exact J_70 _ (K_50 _ (Option.some.inj H).symm).symm
      · refine z_icmp_ge_t (M := M_X4_sweep) (tgt := 96) dX4_sweep_74 (by decide) rfl rfl (Int.not_lt.mp h_59) ?_
        exact J_70 _ (K_50 _ (Option.some.inj H).symm).symm
    refine whl_go hw_16 (fun high_15 => YY l E M_X4_sweep 5 0 0 (pS (none) σ') 29 [some (vr 208), some (vi fresh_2), some (vi h_3), some (vi x_14), some (vi high_15), none] [] σ_4 0 0) ?_
    rintro high_15 o_20 H K_21 K_22
    refine z_iload (M := M_X4_sweep) dX4_sweep_29 rfl ?_
    refine z_aload_n (M := M_X4_sweep) dX4_sweep_31 rfl ?_
    refine z_getI (M := M_X4_sweep) (ci := 7) (C := RX4) (T := TX4) (Nf := 17) (ty := tyX4) cl7 dX4_sweep_32 ly_208 3 (by decide) t_384 rfl rfl ?_
    rcases if_e H with ⟨h_33, H⟩ | ⟨h_33, H⟩
    · refine z_icmp_ge_f (M := M_X4_sweep) (tgt := 63) dX4_sweep_35 (by decide) rfl rfl h_33 ?_
      refine z_aload_n (M := M_X4_sweep) dX4_sweep_38 rfl ?_
      refine z_getR (M := M_X4_sweep) (ci := 7) (C := RX4) (T := TX4) (Nf := 17) (ty := tyX4) cl7 dX4_sweep_39 ly_208 0 (by decide) t_381 rfl ?_
      refine z_getR (M := M_X4_sweep) (ci := 11) (C := RX8) (T := TX8) (Nf := 13) (ty := tyX8) cl11 dX4_sweep_42 ly_193 10 (by decide) t_342 rfl ?_
      refine z_aload_n (M := M_X4_sweep) dX4_sweep_45 rfl ?_
      refine z_getR (M := M_X4_sweep) (ci := 7) (C := RX4) (T := TX4) (Nf := 17) (ty := tyX4) cl7 dX4_sweep_46 ly_208 2 (by decide) t_383 rfl ?_
      refine z_iload (M := M_X4_sweep) dX4_sweep_49 rfl ?_
      obtain ⟨x_34, x_34_e, hi_35, H⟩ := rd_e H
      refine z_iald (M := M_X4_sweep) dX4_sweep_51 ly_210 rfl rfl rfl hi_35 x_34_e ?_
      obtain ⟨x_36, x_36_e, hi_37, H⟩ := rd_e H
      refine z_iald (M := M_X4_sweep) dX4_sweep_52 ly_206 rfl rfl rfl hi_37 x_36_e ?_
      refine z_iload_n (M := M_X4_sweep) dX4_sweep_53 rfl ?_
      rcases if_e H with ⟨h_38, H⟩ | ⟨h_38, H⟩
      · refine z_icmp_ne_f (M := M_X4_sweep) (tgt := 63) dX4_sweep_54 (by decide) rfl rfl h_38 ?_
        refine z_iinc (M := M_X4_sweep) (lv' := [some (vr 208), some (vi fresh_2), some (vi h_3), some (vi x_14), some (vi (high_15 + 1)), none]) dX4_sweep_57 rfl (Nat.le_of_ble_eq_true rfl) rfl rfl ?_
        refine z_goto (M := M_X4_sweep) (tgt := 29) dX4_sweep_60 (by decide) ?_
        exact K_21 _ (Option.some.inj H).symm
      · refine z_icmp_ne_t (M := M_X4_sweep) (tgt := 63) dX4_sweep_54 (by decide) rfl rfl h_38 ?_
        exact J_71 _ (K_22 _ (Option.some.inj H).symm).symm
    · refine z_icmp_ge_t (M := M_X4_sweep) (tgt := 63) dX4_sweep_35 (by decide) rfl rfl (Int.not_lt.mp h_33) ?_
      exact J_71 _ (K_22 _ (Option.some.inj H).symm).symm
  · refine z_icmp_ge_t (M := M_X4_sweep) (tgt := 112) dX4_sweep_17 (by decide) rfl rfl (Int.not_lt.mp h_12) ?_
    exact J_76 _ _ _ (K_11 _ (Option.some.inj H).symm).symm
theorem c_X4_ringInOrder (hl : l.stackTraces = false) {σ : SG} {i_0 : Int} {r : Int}  (H : fG_ringInOrder σ i_0 = some r) : en_S l E M_X4_ringInOrder 1 0 0 [vr 208, vi i_0] σ (pS (some (vi r)) σ) := by
  unfold fG_ringInOrder at H
  refine z_mk (lv := [some (vr 208), some (vi i_0)]) m_X4_ringInOrder rfl hl (Nat.le_of_ble_eq_true rfl) rfl ?_
  refine z_aload_n (M := M_X4_ringInOrder) dX4_ringInOrder_0 rfl ?_
  refine z_getR (M := M_X4_ringInOrder) (ci := 7) (C := RX4) (T := TX4) (Nf := 17) (ty := tyX4) cl7 dX4_ringInOrder_1 ly_208 15 (by decide) t_396 rfl ?_
  refine z_iload_n (M := M_X4_ringInOrder) dX4_ringInOrder_4 rfl ?_
  obtain ⟨x_1, x_1_e, hi_2, H⟩ := rd_e H
  refine z_lald (M := M_X4_ringInOrder) dX4_ringInOrder_5 ly_221 rfl rfl rfl hi_2 x_1_e ?_
  refine z_ldc2 (M := M_X4_ringInOrder) (n := 511) dX4_ringInOrder_6 t_1850 (by decide +kernel) ?_
  refine z_land (M := M_X4_ringInOrder) dX4_ringInOrder_9 ?_
  refine z_l2i (M := M_X4_ringInOrder) dX4_ringInOrder_10 ?_
  cases H
  exact z_iret (M := M_X4_ringInOrder) dX4_ringInOrder_11 rfl (Nat.le_of_ble_eq_true rfl) (Nat.le_of_ble_eq_true rfl) ⟨rfl, rfl⟩
theorem c_X4_tellRing (hl : l.stackTraces = false) {σ : SG} {into_0 : Nat} {ring_0 : Int} {r : Bool} {σ' : SG} (h_into : isS into_0) (H : fG_tellRing σ into_0 ring_0 = some (r, σ')) : en_S l E M_X4_tellRing 2 0 0 [vr 208, vr into_0, vi ring_0] σ (pS (some (zv r)) σ') := by
  unfold fG_tellRing at H
  refine z_mk (lv := [some (vr 208), some (vr into_0), some (vi ring_0), none, none, none, none, none]) m_X4_tellRing rfl hl (Nat.le_of_ble_eq_true rfl) rfl ?_
  refine z_aload_n (M := M_X4_tellRing) dX4_tellRing_0 rfl ?_
  refine z_getR (M := M_X4_tellRing) (ci := 7) (C := RX4) (T := TX4) (Nf := 17) (ty := tyX4) cl7 dX4_tellRing_1 ly_208 12 (by decide) t_393 rfl ?_
  refine z_iload_n (M := M_X4_tellRing) dX4_tellRing_4 rfl ?_
  obtain ⟨x_1, x_1_e, hi_2, H⟩ := rd_e H
  refine z_iald (M := M_X4_tellRing) dX4_tellRing_5 ly_218 rfl rfl rfl hi_2 x_1_e ?_
  refine z_istore_n (M := M_X4_tellRing) (lv' := [some (vr 208), some (vr into_0), some (vi ring_0), some (vi x_1), none, none, none, none]) dX4_tellRing_6 (Nat.le_of_ble_eq_true rfl) rfl rfl ?_
  refine z_aload_n (M := M_X4_tellRing) dX4_tellRing_7 rfl ?_
  refine z_getR (M := M_X4_tellRing) (ci := 7) (C := RX4) (T := TX4) (Nf := 17) (ty := tyX4) cl7 dX4_tellRing_8 ly_208 12 (by decide) t_393 rfl ?_
  refine z_iload_n (M := M_X4_tellRing) dX4_tellRing_11 rfl ?_
  refine z_iconst (M := M_X4_tellRing) dX4_tellRing_12 ?_
  refine z_iadd (M := M_X4_tellRing) dX4_tellRing_13 ?_
  obtain ⟨x_3, x_3_e, hi_4, H⟩ := rd_e H
  refine z_iald (M := M_X4_tellRing) dX4_tellRing_14 ly_218 rfl rfl rfl hi_4 x_3_e ?_
  refine z_iload_n (M := M_X4_tellRing) dX4_tellRing_15 rfl ?_
  refine z_isub (M := M_X4_tellRing) dX4_tellRing_16 ?_
  refine z_istore (M := M_X4_tellRing) (lv' := [some (vr 208), some (vr into_0), some (vi ring_0), some (vi x_1), some (vi (x_3 - x_1)), none, none, none]) dX4_tellRing_17 (Nat.le_of_ble_eq_true rfl) rfl rfl ?_
  refine z_aload_n (M := M_X4_tellRing) dX4_tellRing_19 rfl ?_
  refine z_iload (M := M_X4_tellRing) dX4_tellRing_20 rfl ?_
  refine z_iconst (M := M_X4_tellRing) dX4_tellRing_22 ?_
  refine z_iadd (M := M_X4_tellRing) dX4_tellRing_23 ?_
  obtain ⟨⟨x_7, σ_6⟩, hc_5, H⟩ := bd_e H
  refine z_callV (M := M_X4_tellRing) (M' := M_X6_addRing) (as := [vi ((x_3 - x_1) + 1)]) (rest := []) rfl rfl dX4_tellRing_24 m_X6_addRing t_1855 t_893 t_894 (c_X6_addRing hl h_into hc_5) rfl rfl (ly_S h_into) rfl (Nat.le_of_ble_eq_true rfl) (Nat.le_of_ble_eq_true rfl) (Nat.le_of_ble_eq_true rfl) (Nat.le_of_ble_eq_true rfl) ?_
  refine z_st (st' := [zv x_7]) rfl ?_
  refine z_zstore (M := M_X4_tellRing) (lv' := [some (vr 208), some (vr into_0), some (vi ring_0), some (vi x_1), some (vi (x_3 - x_1)), some (zv x_7), none, none]) dX4_tellRing_27 (Nat.le_of_ble_eq_true rfl) rfl rfl ?_
  refine z_iconst (M := M_X4_tellRing) dX4_tellRing_29 ?_
  refine z_istore (M := M_X4_tellRing) (lv' := [some (vr 208), some (vr into_0), some (vi ring_0), some (vi x_1), some (vi (x_3 - x_1)), some (zv x_7), some (vi 0), none]) dX4_tellRing_30 (Nat.le_of_ble_eq_true rfl) rfl rfl ?_
  obtain ⟨rl_14, hw_11, hk_12⟩ := bd_e H
  have J_41 : ∀ fits_38 k_39 σ_40, rl_14 = (fits_38, k_39, σ_40) → YY l E M_X4_tellRing 2 0 0 (pS (some (zv r)) σ') 98 [some (vr 208), some (vr into_0), some (vi ring_0), some (vi x_1), some (vi (x_3 - x_1)), some (zv fits_38), some (vi k_39), none] [] σ_40 0 0 := by
    intro fits_38 k_39 σ_40 e
    have H := hk_12
    rw [e] at H
    refine z_zload (M := M_X4_tellRing) dX4_tellRing_98 rfl ?_
    cases H
    exact z_zret (M := M_X4_tellRing) dX4_tellRing_100 rfl (Nat.le_of_ble_eq_true rfl) (Nat.le_of_ble_eq_true rfl) ⟨rfl, rfl⟩
  refine whl_go hw_11 (fun (fits_8, k_9, σ_10) => YY l E M_X4_tellRing 2 0 0 (pS (some (zv r)) σ') 32 [some (vr 208), some (vr into_0), some (vi ring_0), some (vi x_1), some (vi (x_3 - x_1)), some (zv fits_8), some (vi k_9), none] [] σ_10 0 0) ?_
  rintro ⟨fits_8, k_9, σ_10⟩ o_15 H K_16 K_17
  rcases if_e H with ⟨h_31, H⟩ | ⟨h_31, H⟩
  · have J_32 : YY l E M_X4_tellRing 2 0 0 (pS (some (zv r)) σ') 44 [some (vr 208), some (vr into_0), some (vi ring_0), some (vi x_1), some (vi (x_3 - x_1)), some (zv fits_8), some (vi k_9), none] [] σ_10 0 0 := by
      refine z_aload_n (M := M_X4_tellRing) dX4_tellRing_44 rfl ?_
      refine z_getR (M := M_X4_tellRing) (ci := 7) (C := RX4) (T := TX4) (Nf := 17) (ty := tyX4) cl7 dX4_tellRing_45 ly_208 10 (by decide) t_391 rfl ?_
      have J_18 : YY l E M_X4_tellRing 2 0 0 (pS (some (zv r)) σ') 63 [some (vr 208), some (vr into_0), some (vi ring_0), some (vi x_1), some (vi (x_3 - x_1)), some (zv fits_8), some (vi k_9), none] [vi (if (w32 k_9) < (w32 (x_3 - x_1)) then (x_1 + k_9) else x_1), vr 217] σ_10 0 0 := by
        obtain ⟨x_19, x_19_e, hi_20, H⟩ := rd_e H
        refine z_iald (M := M_X4_tellRing) dX4_tellRing_63 ly_217 rfl rfl rfl hi_20 x_19_e ?_
        refine z_istore (M := M_X4_tellRing) (lv' := [some (vr 208), some (vr into_0), some (vi ring_0), some (vi x_1), some (vi (x_3 - x_1)), some (zv fits_8), some (vi k_9), some (vi x_19)]) dX4_tellRing_64 (Nat.le_of_ble_eq_true rfl) rfl rfl ?_
        refine z_aload_n (M := M_X4_tellRing) dX4_tellRing_66 rfl ?_
        refine z_aload_n (M := M_X4_tellRing) dX4_tellRing_67 rfl ?_
        refine z_getR (M := M_X4_tellRing) (ci := 7) (C := RX4) (T := TX4) (Nf := 17) (ty := tyX4) cl7 dX4_tellRing_68 ly_208 0 (by decide) t_381 rfl ?_
        refine z_getR (M := M_X4_tellRing) (ci := 11) (C := RX8) (T := TX8) (Nf := 13) (ty := tyX8) cl11 dX4_tellRing_71 ly_193 6 (by decide) t_334 rfl ?_
        refine z_iload (M := M_X4_tellRing) dX4_tellRing_74 rfl ?_
        obtain ⟨x_21, x_21_e, hi_22, H⟩ := rd_e H
        refine z_iald (M := M_X4_tellRing) dX4_tellRing_76 ly_203 rfl rfl rfl hi_22 x_21_e ?_
        refine z_aload_n (M := M_X4_tellRing) dX4_tellRing_77 rfl ?_
        refine z_getR (M := M_X4_tellRing) (ci := 7) (C := RX4) (T := TX4) (Nf := 17) (ty := tyX4) cl7 dX4_tellRing_78 ly_208 0 (by decide) t_381 rfl ?_
        refine z_getR (M := M_X4_tellRing) (ci := 11) (C := RX8) (T := TX8) (Nf := 13) (ty := tyX8) cl11 dX4_tellRing_81 ly_193 7 (by decide) t_336 rfl ?_
        refine z_iload (M := M_X4_tellRing) dX4_tellRing_84 rfl ?_
        obtain ⟨x_23, x_23_e, hi_24, H⟩ := rd_e H
        refine z_iald (M := M_X4_tellRing) dX4_tellRing_86 ly_204 rfl rfl rfl hi_24 x_23_e ?_
        obtain ⟨⟨x_27, σ_26⟩, hc_25, H⟩ := bd_e H
        refine z_callV (M := M_X4_tellRing) (M' := M_X6_addPoint) (as := [vi x_21, vi x_23]) (rest := []) rfl rfl dX4_tellRing_87 m_X6_addPoint t_1856 t_938 t_939 (c_X6_addPoint hl h_into hc_25) rfl rfl (ly_S h_into) rfl (Nat.le_of_ble_eq_true rfl) (Nat.le_of_ble_eq_true rfl) (Nat.le_of_ble_eq_true rfl) (Nat.le_of_ble_eq_true rfl) ?_
        refine z_st (st' := [zv x_27]) rfl ?_
        refine z_zstore (M := M_X4_tellRing) (lv' := [some (vr 208), some (vr into_0), some (vi ring_0), some (vi x_1), some (vi (x_3 - x_1)), some (zv x_27), some (vi k_9), some (vi x_19)]) dX4_tellRing_90 (Nat.le_of_ble_eq_true rfl) rfl rfl ?_
        refine z_iinc (M := M_X4_tellRing) (lv' := [some (vr 208), some (vr into_0), some (vi ring_0), some (vi x_1), some (vi (x_3 - x_1)), some (zv x_27), some (vi (k_9 + 1)), some (vi x_19)]) dX4_tellRing_92 rfl (Nat.le_of_ble_eq_true rfl) rfl rfl ?_
        refine z_goto (M := M_X4_tellRing) (tgt := 32) dX4_tellRing_95 (by decide) ?_
        refine z_le (lv' := [some (vr 208), some (vr into_0), some (vi ring_0), some (vi x_1), some (vi (x_3 - x_1)), some (zv x_27), some (vi (k_9 + 1)), none]) ⟨Or.inr rfl, Or.inr rfl, Or.inr rfl, Or.inr rfl, Or.inr rfl, Or.inr rfl, Or.inr rfl, Or.inl rfl, trivial⟩ ?_
        exact K_16 _ (Option.some.inj H).symm
      refine z_iload (M := M_X4_tellRing) dX4_tellRing_48 rfl ?_
      refine z_iload (M := M_X4_tellRing) dX4_tellRing_50 rfl ?_
      by_cases h_29 : (w32 k_9) < (w32 (x_3 - x_1))
      · refine z_icmp_ge_f (M := M_X4_tellRing) (tgt := 62) dX4_tellRing_52 (by decide) rfl rfl h_29 ?_
        refine z_iload_n (M := M_X4_tellRing) dX4_tellRing_55 rfl ?_
        refine z_iload (M := M_X4_tellRing) dX4_tellRing_56 rfl ?_
        refine z_iadd (M := M_X4_tellRing) dX4_tellRing_58 ?_
        refine z_goto (M := M_X4_tellRing) (tgt := 63) dX4_tellRing_59 (by decide) ?_
        exact z_st (by rw [if_pos (c := (w32 k_9) < (w32 (x_3 - x_1))) h_29]) J_18
      · refine z_icmp_ge_t (M := M_X4_tellRing) (tgt := 62) dX4_tellRing_52 (by decide) rfl rfl (Int.not_lt.mp h_29) ?_
        refine z_iload_n (M := M_X4_tellRing) dX4_tellRing_62 rfl ?_
        exact z_st (by rw [if_neg (c := (w32 k_9) < (w32 (x_3 - x_1))) h_29]) J_18
    refine z_iload (M := M_X4_tellRing) dX4_tellRing_32 rfl ?_
    refine z_iload (M := M_X4_tellRing) dX4_tellRing_34 rfl ?_
    by_cases h_34 : (w32 k_9) ≤ (w32 (x_3 - x_1))
    · refine z_icmp_gt_f (M := M_X4_tellRing) (tgt := 98) dX4_tellRing_36 (by decide) rfl rfl h_34 ?_
      refine z_zload (M := M_X4_tellRing) dX4_tellRing_39 rfl ?_
      by_cases h_35 : fits_8 = true
      · refine z_zeq_f (M := M_X4_tellRing) (tgt := 98) dX4_tellRing_41 (by decide) h_35 ?_
        exact J_32
      · refine z_zeq_t (M := M_X4_tellRing) (tgt := 98) dX4_tellRing_41 (by decide) h_35 ?_
        exact absurd h_31 (fun q => h_35 q.2)
    · refine z_icmp_gt_t (M := M_X4_tellRing) (tgt := 98) dX4_tellRing_36 (by decide) rfl rfl (Int.not_le.mp h_34) ?_
      exact absurd h_31 (fun q => h_34 q.1)
  · have J_33 : YY l E M_X4_tellRing 2 0 0 (pS (some (zv r)) σ') 98 [some (vr 208), some (vr into_0), some (vi ring_0), some (vi x_1), some (vi (x_3 - x_1)), some (zv fits_8), some (vi k_9), none] [] σ_10 0 0 := by
      exact J_41 _ _ _ (K_17 _ (Option.some.inj H).symm).symm
    refine z_iload (M := M_X4_tellRing) dX4_tellRing_32 rfl ?_
    refine z_iload (M := M_X4_tellRing) dX4_tellRing_34 rfl ?_
    by_cases h_36 : (w32 k_9) ≤ (w32 (x_3 - x_1))
    · refine z_icmp_gt_f (M := M_X4_tellRing) (tgt := 98) dX4_tellRing_36 (by decide) rfl rfl h_36 ?_
      refine z_zload (M := M_X4_tellRing) dX4_tellRing_39 rfl ?_
      by_cases h_37 : fits_8 = true
      · refine z_zeq_f (M := M_X4_tellRing) (tgt := 98) dX4_tellRing_41 (by decide) h_37 ?_
        exact absurd ⟨h_36, h_37⟩ h_31
      · refine z_zeq_t (M := M_X4_tellRing) (tgt := 98) dX4_tellRing_41 (by decide) h_37 ?_
        exact J_33
    · refine z_icmp_gt_t (M := M_X4_tellRing) (tgt := 98) dX4_tellRing_36 (by decide) rfl rfl (Int.not_le.mp h_36) ?_
      exact J_33
theorem c_X4_tellPolygons (hl : l.stackTraces = false) {σ : SG} {into_0 : Nat} {r : Bool} {σ' : SG} (h_into : isS into_0) (H : fG_tellPolygons σ into_0 = some (r, σ')) : en_S l E M_X4_tellPolygons 3 0 0 [vr 208, vr into_0] σ (pS (some (zv r)) σ') := by
  unfold fG_tellPolygons at H
  refine z_mk (lv := [some (vr 208), some (vr into_0), none, none, none, none, none, none]) m_X4_tellPolygons rfl hl (Nat.le_of_ble_eq_true rfl) rfl ?_
  refine z_aload_n (M := M_X4_tellPolygons) dX4_tellPolygons_0 rfl ?_
  obtain ⟨σ_2, hc_1, H⟩ := bd_e H
  refine z_callV (M := M_X4_tellPolygons) (M' := M_X6_clear) (as := []) (rest := []) rfl rfl dX4_tellPolygons_1 m_X6_clear t_1844 t_768 t_769 (c_X6_clear hl h_into hc_1) rfl rfl (ly_S h_into) rfl (Nat.le_of_ble_eq_true rfl) (Nat.le_of_ble_eq_true rfl) (Nat.le_of_ble_eq_true rfl) (Nat.le_of_ble_eq_true rfl) ?_
  refine z_st (st' := []) rfl ?_
  refine z_aload_n (M := M_X4_tellPolygons) dX4_tellPolygons_4 rfl ?_
  refine z_bipush (M := M_X4_tellPolygons) dX4_tellPolygons_5 (by decide +kernel) ?_
  refine z_iconst (M := M_X4_tellPolygons) dX4_tellPolygons_7 ?_
  obtain ⟨⟨x_5, σ_4⟩, hc_3, H⟩ := bd_e H
  refine z_callV (M := M_X4_tellPolygons) (M' := M_X6_addShape) (as := [vi 6, vi 0]) (rest := []) rfl rfl dX4_tellPolygons_8 m_X6_addShape t_1845 t_872 t_873 (c_X6_addShape hl h_into hc_3) rfl rfl (ly_S h_into) rfl (Nat.le_of_ble_eq_true rfl) (Nat.le_of_ble_eq_true rfl) (Nat.le_of_ble_eq_true rfl) (Nat.le_of_ble_eq_true rfl) ?_
  refine z_st (st' := [zv x_5]) rfl ?_
  refine z_zstore_n (M := M_X4_tellPolygons) (lv' := [some (vr 208), some (vr into_0), some (zv x_5), none, none, none, none, none]) dX4_tellPolygons_11 (Nat.le_of_ble_eq_true rfl) rfl rfl ?_
  refine z_iconst (M := M_X4_tellPolygons) dX4_tellPolygons_12 ?_
  refine z_istore_n (M := M_X4_tellPolygons) (lv' := [some (vr 208), some (vr into_0), some (zv x_5), some (vi 0), none, none, none, none]) dX4_tellPolygons_13 (Nat.le_of_ble_eq_true rfl) rfl rfl ?_
  obtain ⟨rl_12, hw_9, hk_10⟩ := bd_e H
  have J_99 : ∀ fits_96 i_97 σ_98, rl_12 = (fits_96, i_97, σ_98) → YY l E M_X4_tellPolygons 3 0 0 (pS (some (zv r)) σ') 155 [some (vr 208), some (vr into_0), some (zv fits_96), some (vi i_97), none, none, none, none] [] σ_98 0 0 := by
    intro fits_96 i_97 σ_98 e
    have H := hk_10
    rw [e] at H
    refine z_zload_n (M := M_X4_tellPolygons) dX4_tellPolygons_155 rfl ?_
    cases H
    exact z_zret (M := M_X4_tellPolygons) dX4_tellPolygons_156 rfl (Nat.le_of_ble_eq_true rfl) (Nat.le_of_ble_eq_true rfl) ⟨rfl, rfl⟩
  refine whl_go hw_9 (fun (fits_6, i_7, σ_8) => YY l E M_X4_tellPolygons 3 0 0 (pS (some (zv r)) σ') 14 [some (vr 208), some (vr into_0), some (zv fits_6), some (vi i_7), none, none, none, none] [] σ_8 0 0) ?_
  rintro ⟨fits_6, i_7, σ_8⟩ o_13 H K_14 K_15
  rcases if_e H with ⟨h_89, H⟩ | ⟨h_89, H⟩
  · have J_90 : YY l E M_X4_tellPolygons 3 0 0 (pS (some (zv r)) σ') 26 [some (vr 208), some (vr into_0), some (zv fits_6), some (vi i_7), none, none, none, none] [] σ_8 0 0 := by
      refine z_aload_n (M := M_X4_tellPolygons) dX4_tellPolygons_26 rfl ?_
      refine z_iload_n (M := M_X4_tellPolygons) dX4_tellPolygons_27 rfl ?_
      obtain ⟨x_17, hc_16, H⟩ := bd_e H
      refine z_callV (M := M_X4_tellPolygons) (M' := M_X4_ringInOrder) (as := [vi i_7]) (rest := []) rfl rfl dX4_tellPolygons_28 m_X4_ringInOrder t_1846 t_1848 s_102 (c_X4_ringInOrder hl  hc_16) rfl rfl ly_208 rfl (Nat.le_of_ble_eq_true rfl) (Nat.le_of_ble_eq_true rfl) (Nat.le_of_ble_eq_true rfl) (Nat.le_of_ble_eq_true rfl) ?_
      refine z_st (st' := [vi x_17]) rfl ?_
      refine z_istore (M := M_X4_tellPolygons) (lv' := [some (vr 208), some (vr into_0), some (zv fits_6), some (vi i_7), some (vi x_17), none, none, none]) dX4_tellPolygons_31 (Nat.le_of_ble_eq_true rfl) rfl rfl ?_
      refine z_aload_n (M := M_X4_tellPolygons) dX4_tellPolygons_33 rfl ?_
      refine z_iload (M := M_X4_tellPolygons) dX4_tellPolygons_34 rfl ?_
      obtain ⟨x_19, hc_18, H⟩ := bd_e H
      refine z_callV (M := M_X4_tellPolygons) (M' := M_X4_isShell) (as := [vi x_17]) (rest := []) rfl rfl dX4_tellPolygons_36 m_X4_isShell t_1821 t_1823 s_97 (c_X4_isShell hl  hc_18) rfl rfl ly_208 rfl (Nat.le_of_ble_eq_true rfl) (Nat.le_of_ble_eq_true rfl) (Nat.le_of_ble_eq_true rfl) (Nat.le_of_ble_eq_true rfl) ?_
      refine z_st (st' := [zv x_19]) rfl ?_
      rcases if_e H with ⟨h_20, H⟩ | ⟨h_20, H⟩
      · refine z_zne_t (M := M_X4_tellPolygons) (tgt := 45) dX4_tellPolygons_39 (by decide) h_20 ?_
        refine z_aload_n (M := M_X4_tellPolygons) dX4_tellPolygons_45 rfl ?_
        refine z_getR (M := M_X4_tellPolygons) (ci := 9) (C := RX6) (T := TX6) (Nf := 5) (ty := tyX6) cl9 dX4_tellPolygons_46 (ly_S h_into) 0 (by decide) t_57 rfl ?_
        refine z_iconst (M := M_X4_tellPolygons) dX4_tellPolygons_49 ?_
        refine z_dup2 (M := M_X4_tellPolygons) dX4_tellPolygons_50 rfl rfl ?_
        obtain ⟨x_21, x_21_e, hi_22, H⟩ := rd_e H
        refine z_iald (M := M_X4_tellPolygons) dX4_tellPolygons_51 (ly_Sp h_into) rfl (by decide +kernel) rfl hi_22 x_21_e ?_
        refine z_iconst (M := M_X4_tellPolygons) dX4_tellPolygons_52 ?_
        refine z_iadd (M := M_X4_tellPolygons) dX4_tellPolygons_53 ?_
        obtain ⟨σ_23, σ_23_e, hi_24, H⟩ := wa_e H
        refine z_iast (M := M_X4_tellPolygons) dX4_tellPolygons_54 (ly_Sp h_into) rfl (by decide +kernel) rfl hi_24 σ_23_e ?_
        refine z_aload_n (M := M_X4_tellPolygons) dX4_tellPolygons_55 rfl ?_
        refine z_getI (M := M_X4_tellPolygons) (ci := 9) (C := RX6) (T := TX6) (Nf := 5) (ty := tyX6) cl9 dX4_tellPolygons_56 (ly_S h_into) 3 (by decide) t_81 rfl rfl ?_
        refine z_iconst (M := M_X4_tellPolygons) dX4_tellPolygons_59 ?_
        refine z_iadd (M := M_X4_tellPolygons) dX4_tellPolygons_60 ?_
        refine z_istore (M := M_X4_tellPolygons) (lv' := [some (vr 208), some (vr into_0), some (zv fits_6), some (vi i_7), some (vi x_17), some (vi ((σ_23 (kA_plans into_0) 0) + 1)), none, none]) dX4_tellPolygons_61 (Nat.le_of_ble_eq_true rfl) rfl rfl ?_
        obtain ⟨v_83, he_84, hk_85⟩ := bd_e H
        have J_86 : ∀ x_36 σ_37, v_83 = (x_36, σ_37) → YY l E M_X4_tellPolygons 3 0 0 (pS (some (zv r)) σ') 87 [some (vr 208), some (vr into_0), some (zv fits_6), some (vi i_7), some (vi x_17), some (vi ((σ_23 (kA_plans into_0) 0) + 1)), none, none] [zv x_36] σ_37 0 0 := by
          intro x_36 σ_37 e
          have H := hk_85
          rw [e] at H
          refine z_zstore_n (M := M_X4_tellPolygons) (lv' := [some (vr 208), some (vr into_0), some (zv x_36), some (vi i_7), some (vi x_17), some (vi ((σ_23 (kA_plans into_0) 0) + 1)), none, none]) dX4_tellPolygons_87 (Nat.le_of_ble_eq_true rfl) rfl rfl ?_
          refine z_iconst (M := M_X4_tellPolygons) dX4_tellPolygons_88 ?_
          refine z_istore (M := M_X4_tellPolygons) (lv' := [some (vr 208), some (vr into_0), some (zv x_36), some (vi i_7), some (vi x_17), some (vi ((σ_23 (kA_plans into_0) 0) + 1)), some (vi 0), none]) dX4_tellPolygons_89 (Nat.le_of_ble_eq_true rfl) rfl rfl ?_
          obtain ⟨rl_44, hw_41, hk_42⟩ := bd_e H
          have J_82 : ∀ fits_78 k_79 σ_80, rl_44 = (fits_78, k_79, σ_80) → YY l E M_X4_tellPolygons 3 0 0 (pS (some (zv r)) σ') 149 [some (vr 208), some (vr into_0), some (zv fits_78), some (vi i_7), some (vi x_17), some (vi ((σ_23 (kA_plans into_0) 0) + 1)), some (vi k_79), none] [] σ_80 0 0 := by
            intro fits_78 k_79 σ_80 e
            have H := hk_42
            rw [e] at H
            refine z_iinc (M := M_X4_tellPolygons) (lv' := [some (vr 208), some (vr into_0), some (zv fits_78), some (vi (i_7 + 1)), some (vi x_17), some (vi ((σ_23 (kA_plans into_0) 0) + 1)), some (vi k_79), none]) dX4_tellPolygons_149 rfl (Nat.le_of_ble_eq_true rfl) rfl rfl ?_
            refine z_goto (M := M_X4_tellPolygons) (tgt := 14) dX4_tellPolygons_152 (by decide) ?_
            refine z_le (lv' := [some (vr 208), some (vr into_0), some (zv fits_78), some (vi (i_7 + 1)), none, none, none, none]) ⟨Or.inr rfl, Or.inr rfl, Or.inr rfl, Or.inr rfl, Or.inl rfl, Or.inl rfl, Or.inl rfl, Or.inl rfl, trivial⟩ ?_
            exact K_14 _ (Option.some.inj H).symm
          refine whl_go hw_41 (fun (fits_38, k_39, σ_40) => YY l E M_X4_tellPolygons 3 0 0 (pS (some (zv r)) σ') 91 [some (vr 208), some (vr into_0), some (zv fits_38), some (vi i_7), some (vi x_17), some (vi ((σ_23 (kA_plans into_0) 0) + 1)), some (vi k_39), none] [] σ_40 0 0) ?_
          rintro ⟨fits_38, k_39, σ_40⟩ o_45 H K_46 K_47
          rcases if_e H with ⟨h_71, H⟩ | ⟨h_71, H⟩
          · have J_72 : YY l E M_X4_tellPolygons 3 0 0 (pS (some (zv r)) σ') 104 [some (vr 208), some (vr into_0), some (zv fits_38), some (vi i_7), some (vi x_17), some (vi ((σ_23 (kA_plans into_0) 0) + 1)), some (vi k_39), none] [] σ_40 0 0 := by
              refine z_aload_n (M := M_X4_tellPolygons) dX4_tellPolygons_104 rfl ?_
              refine z_iload (M := M_X4_tellPolygons) dX4_tellPolygons_105 rfl ?_
              obtain ⟨x_49, hc_48, H⟩ := bd_e H
              refine z_callV (M := M_X4_tellPolygons) (M' := M_X4_ringInOrder) (as := [vi k_39]) (rest := []) rfl rfl dX4_tellPolygons_107 m_X4_ringInOrder t_1846 t_1848 s_102 (c_X4_ringInOrder hl  hc_48) rfl rfl ly_208 rfl (Nat.le_of_ble_eq_true rfl) (Nat.le_of_ble_eq_true rfl) (Nat.le_of_ble_eq_true rfl) (Nat.le_of_ble_eq_true rfl) ?_
              refine z_st (st' := [vi x_49]) rfl ?_
              refine z_istore (M := M_X4_tellPolygons) (lv' := [some (vr 208), some (vr into_0), some (zv fits_38), some (vi i_7), some (vi x_17), some (vi ((σ_23 (kA_plans into_0) 0) + 1)), some (vi k_39), some (vi x_49)]) dX4_tellPolygons_110 (Nat.le_of_ble_eq_true rfl) rfl rfl ?_
              obtain ⟨v_53, he_50, hk_51⟩ := bd_e H
              have J_69 : ∀ fits_66 σ_67, v_53 = (fits_66, σ_67) → YY l E M_X4_tellPolygons 3 0 0 (pS (some (zv r)) σ') 143 [some (vr 208), some (vr into_0), some (zv fits_66), some (vi i_7), some (vi x_17), some (vi ((σ_23 (kA_plans into_0) 0) + 1)), some (vi k_39), some (vi x_49)] [] σ_67 0 0 := by
                intro fits_66 σ_67 e
                have H := hk_51
                rw [e] at H
                refine z_iinc (M := M_X4_tellPolygons) (lv' := [some (vr 208), some (vr into_0), some (zv fits_66), some (vi i_7), some (vi x_17), some (vi ((σ_23 (kA_plans into_0) 0) + 1)), some (vi (k_39 + 1)), some (vi x_49)]) dX4_tellPolygons_143 rfl (Nat.le_of_ble_eq_true rfl) rfl rfl ?_
                refine z_goto (M := M_X4_tellPolygons) (tgt := 91) dX4_tellPolygons_146 (by decide) ?_
                refine z_le (lv' := [some (vr 208), some (vr into_0), some (zv fits_66), some (vi i_7), some (vi x_17), some (vi ((σ_23 (kA_plans into_0) 0) + 1)), some (vi (k_39 + 1)), none]) ⟨Or.inr rfl, Or.inr rfl, Or.inr rfl, Or.inr rfl, Or.inr rfl, Or.inr rfl, Or.inr rfl, Or.inl rfl, trivial⟩ ?_
                exact K_46 _ (Option.some.inj H).symm
              have H := he_50
              refine z_aload_n (M := M_X4_tellPolygons) dX4_tellPolygons_112 rfl ?_
              refine z_getR (M := M_X4_tellPolygons) (ci := 7) (C := RX4) (T := TX4) (Nf := 17) (ty := tyX4) cl7 dX4_tellPolygons_113 ly_208 14 (by decide) t_395 rfl ?_
              refine z_iload (M := M_X4_tellPolygons) dX4_tellPolygons_116 rfl ?_
              obtain ⟨x_54, x_54_e, hi_55, H⟩ := rd_e H
              refine z_iald (M := M_X4_tellPolygons) dX4_tellPolygons_118 ly_220 rfl rfl rfl hi_55 x_54_e ?_
              refine z_iload (M := M_X4_tellPolygons) dX4_tellPolygons_119 rfl ?_
              rcases if_e H with ⟨h_56, H⟩ | ⟨h_56, H⟩
              · refine z_icmp_ne_f (M := M_X4_tellPolygons) (tgt := 143) dX4_tellPolygons_121 (by decide) rfl rfl h_56 ?_
                refine z_aload_n (M := M_X4_tellPolygons) dX4_tellPolygons_124 rfl ?_
                refine z_getR (M := M_X4_tellPolygons) (ci := 9) (C := RX6) (T := TX6) (Nf := 5) (ty := tyX6) cl9 dX4_tellPolygons_125 (ly_S h_into) 0 (by decide) t_57 rfl ?_
                refine z_iload (M := M_X4_tellPolygons) dX4_tellPolygons_128 rfl ?_
                refine z_dup2 (M := M_X4_tellPolygons) dX4_tellPolygons_130 rfl rfl ?_
                obtain ⟨x_57, x_57_e, hi_58, H⟩ := rd_e H
                refine z_iald (M := M_X4_tellPolygons) dX4_tellPolygons_131 (ly_Sp h_into) rfl rfl rfl hi_58 x_57_e ?_
                refine z_iconst (M := M_X4_tellPolygons) dX4_tellPolygons_132 ?_
                refine z_iadd (M := M_X4_tellPolygons) dX4_tellPolygons_133 ?_
                obtain ⟨σ_59, σ_59_e, hi_60, H⟩ := wa_e H
                refine z_iast (M := M_X4_tellPolygons) dX4_tellPolygons_134 (ly_Sp h_into) rfl rfl rfl hi_60 σ_59_e ?_
                refine z_aload_n (M := M_X4_tellPolygons) dX4_tellPolygons_135 rfl ?_
                refine z_aload_n (M := M_X4_tellPolygons) dX4_tellPolygons_136 rfl ?_
                refine z_iload (M := M_X4_tellPolygons) dX4_tellPolygons_137 rfl ?_
                obtain ⟨⟨x_63, σ_62⟩, hc_61, H⟩ := bd_e H
                refine z_callV (M := M_X4_tellPolygons) (M' := M_X4_tellRing) (as := [vr into_0, vi x_49]) (rest := []) rfl rfl dX4_tellPolygons_139 m_X4_tellRing t_1851 t_1853 s_103 (c_X4_tellRing hl h_into hc_61) rfl rfl ly_208 rfl (Nat.le_of_ble_eq_true rfl) (Nat.le_of_ble_eq_true rfl) (Nat.le_of_ble_eq_true rfl) (Nat.le_of_ble_eq_true rfl) ?_
                refine z_st (st' := [zv x_63]) rfl ?_
                refine z_zstore_n (M := M_X4_tellPolygons) (lv' := [some (vr 208), some (vr into_0), some (zv x_63), some (vi i_7), some (vi x_17), some (vi ((σ_23 (kA_plans into_0) 0) + 1)), some (vi k_39), some (vi x_49)]) dX4_tellPolygons_142 (Nat.le_of_ble_eq_true rfl) rfl rfl ?_
                exact J_69 _ _ (Option.some.inj H).symm
              · refine z_icmp_ne_t (M := M_X4_tellPolygons) (tgt := 143) dX4_tellPolygons_121 (by decide) rfl rfl h_56 ?_
                exact J_69 _ _ (Option.some.inj H).symm
            refine z_iload (M := M_X4_tellPolygons) dX4_tellPolygons_91 rfl ?_
            refine z_aload_n (M := M_X4_tellPolygons) dX4_tellPolygons_93 rfl ?_
            refine z_getI (M := M_X4_tellPolygons) (ci := 7) (C := RX4) (T := TX4) (Nf := 17) (ty := tyX4) cl7 dX4_tellPolygons_94 ly_208 16 (by decide) t_397 rfl rfl ?_
            by_cases h_74 : (w32 k_39) < (w32 (σ_40 kG_rings 0))
            · refine z_icmp_ge_f (M := M_X4_tellPolygons) (tgt := 149) dX4_tellPolygons_97 (by decide) rfl rfl h_74 ?_
              refine z_zload_n (M := M_X4_tellPolygons) dX4_tellPolygons_100 rfl ?_
              by_cases h_75 : fits_38 = true
              · refine z_zeq_f (M := M_X4_tellPolygons) (tgt := 149) dX4_tellPolygons_101 (by decide) h_75 ?_
                exact J_72
              · refine z_zeq_t (M := M_X4_tellPolygons) (tgt := 149) dX4_tellPolygons_101 (by decide) h_75 ?_
                exact absurd h_71 (fun q => h_75 q.2)
            · refine z_icmp_ge_t (M := M_X4_tellPolygons) (tgt := 149) dX4_tellPolygons_97 (by decide) rfl rfl (Int.not_lt.mp h_74) ?_
              exact absurd h_71 (fun q => h_74 q.1)
          · have J_73 : YY l E M_X4_tellPolygons 3 0 0 (pS (some (zv r)) σ') 149 [some (vr 208), some (vr into_0), some (zv fits_38), some (vi i_7), some (vi x_17), some (vi ((σ_23 (kA_plans into_0) 0) + 1)), some (vi k_39), none] [] σ_40 0 0 := by
              exact J_82 _ _ _ (K_47 _ (Option.some.inj H).symm).symm
            refine z_iload (M := M_X4_tellPolygons) dX4_tellPolygons_91 rfl ?_
            refine z_aload_n (M := M_X4_tellPolygons) dX4_tellPolygons_93 rfl ?_
            refine z_getI (M := M_X4_tellPolygons) (ci := 7) (C := RX4) (T := TX4) (Nf := 17) (ty := tyX4) cl7 dX4_tellPolygons_94 ly_208 16 (by decide) t_397 rfl rfl ?_
            by_cases h_76 : (w32 k_39) < (w32 (σ_40 kG_rings 0))
            · refine z_icmp_ge_f (M := M_X4_tellPolygons) (tgt := 149) dX4_tellPolygons_97 (by decide) rfl rfl h_76 ?_
              refine z_zload_n (M := M_X4_tellPolygons) dX4_tellPolygons_100 rfl ?_
              by_cases h_77 : fits_38 = true
              · refine z_zeq_f (M := M_X4_tellPolygons) (tgt := 149) dX4_tellPolygons_101 (by decide) h_77 ?_
                exact absurd ⟨h_76, h_77⟩ h_71
              · refine z_zeq_t (M := M_X4_tellPolygons) (tgt := 149) dX4_tellPolygons_101 (by decide) h_77 ?_
                exact J_73
            · refine z_icmp_ge_t (M := M_X4_tellPolygons) (tgt := 149) dX4_tellPolygons_97 (by decide) rfl rfl (Int.not_lt.mp h_76) ?_
              exact J_73
        have H := he_84
        refine z_aload_n (M := M_X4_tellPolygons) dX4_tellPolygons_63 rfl ?_
        refine z_iconst (M := M_X4_tellPolygons) dX4_tellPolygons_64 ?_
        refine z_iconst (M := M_X4_tellPolygons) dX4_tellPolygons_65 ?_
        obtain ⟨⟨x_27, σ_26⟩, hc_25, H⟩ := bd_e H
        refine z_callV (M := M_X4_tellPolygons) (M' := M_X6_addShape) (as := [vi 3, vi 1]) (rest := []) rfl rfl dX4_tellPolygons_66 m_X6_addShape t_1845 t_872 t_873 (c_X6_addShape hl h_into hc_25) rfl rfl (ly_S h_into) rfl (Nat.le_of_ble_eq_true rfl) (Nat.le_of_ble_eq_true rfl) (Nat.le_of_ble_eq_true rfl) (Nat.le_of_ble_eq_true rfl) ?_
        refine z_st (st' := [zv x_27]) rfl ?_
        rcases if_e H with ⟨h_28, H⟩ | ⟨h_28, H⟩
        · refine z_zeq_f (M := M_X4_tellPolygons) (tgt := 86) dX4_tellPolygons_69 (by decide) h_28 ?_
          refine z_aload_n (M := M_X4_tellPolygons) dX4_tellPolygons_72 rfl ?_
          refine z_aload_n (M := M_X4_tellPolygons) dX4_tellPolygons_73 rfl ?_
          refine z_iload (M := M_X4_tellPolygons) dX4_tellPolygons_74 rfl ?_
          obtain ⟨⟨x_31, σ_30⟩, hc_29, H⟩ := bd_e H
          refine z_callV (M := M_X4_tellPolygons) (M' := M_X4_tellRing) (as := [vr into_0, vi x_17]) (rest := []) rfl rfl dX4_tellPolygons_76 m_X4_tellRing t_1851 t_1853 s_103 (c_X4_tellRing hl h_into hc_29) rfl rfl ly_208 rfl (Nat.le_of_ble_eq_true rfl) (Nat.le_of_ble_eq_true rfl) (Nat.le_of_ble_eq_true rfl) (Nat.le_of_ble_eq_true rfl) ?_
          refine z_st (st' := [zv x_31]) rfl ?_
          rcases if_e H with ⟨h_32, H⟩ | ⟨h_32, H⟩
          · refine z_zeq_f (M := M_X4_tellPolygons) (tgt := 86) dX4_tellPolygons_79 (by decide) h_32 ?_
            refine z_zconst (M := M_X4_tellPolygons) (b := true) dX4_tellPolygons_82 rfl ?_
            refine z_goto (M := M_X4_tellPolygons) (tgt := 87) dX4_tellPolygons_83 (by decide) ?_
            exact J_86 _ _ (Option.some.inj H).symm
          · refine z_zeq_t (M := M_X4_tellPolygons) (tgt := 86) dX4_tellPolygons_79 (by decide) h_32 ?_
            refine z_zconst (M := M_X4_tellPolygons) (b := false) dX4_tellPolygons_86 rfl ?_
            exact J_86 _ _ (Option.some.inj H).symm
        · refine z_zeq_t (M := M_X4_tellPolygons) (tgt := 86) dX4_tellPolygons_69 (by decide) h_28 ?_
          refine z_zconst (M := M_X4_tellPolygons) (b := false) dX4_tellPolygons_86 rfl ?_
          exact J_86 _ _ (Option.some.inj H).symm
      · refine z_zne_f (M := M_X4_tellPolygons) (tgt := 45) dX4_tellPolygons_39 (by decide) h_20 ?_
        refine z_goto (M := M_X4_tellPolygons) (tgt := 149) dX4_tellPolygons_42 (by decide) ?_
        refine z_iinc (M := M_X4_tellPolygons) (lv' := [some (vr 208), some (vr into_0), some (zv fits_6), some (vi (i_7 + 1)), some (vi x_17), none, none, none]) dX4_tellPolygons_149 rfl (Nat.le_of_ble_eq_true rfl) rfl rfl ?_
        refine z_goto (M := M_X4_tellPolygons) (tgt := 14) dX4_tellPolygons_152 (by decide) ?_
        refine z_le (lv' := [some (vr 208), some (vr into_0), some (zv fits_6), some (vi (i_7 + 1)), none, none, none, none]) ⟨Or.inr rfl, Or.inr rfl, Or.inr rfl, Or.inr rfl, Or.inl rfl, Or.inl rfl, Or.inl rfl, Or.inl rfl, trivial⟩ ?_
        exact K_14 _ (Option.some.inj H).symm
    refine z_iload_n (M := M_X4_tellPolygons) dX4_tellPolygons_14 rfl ?_
    refine z_aload_n (M := M_X4_tellPolygons) dX4_tellPolygons_15 rfl ?_
    refine z_getI (M := M_X4_tellPolygons) (ci := 7) (C := RX4) (T := TX4) (Nf := 17) (ty := tyX4) cl7 dX4_tellPolygons_16 ly_208 16 (by decide) t_397 rfl rfl ?_
    by_cases h_92 : (w32 i_7) < (w32 (σ_8 kG_rings 0))
    · refine z_icmp_ge_f (M := M_X4_tellPolygons) (tgt := 155) dX4_tellPolygons_19 (by decide) rfl rfl h_92 ?_
      refine z_zload_n (M := M_X4_tellPolygons) dX4_tellPolygons_22 rfl ?_
      by_cases h_93 : fits_6 = true
      · refine z_zeq_f (M := M_X4_tellPolygons) (tgt := 155) dX4_tellPolygons_23 (by decide) h_93 ?_
        exact J_90
      · refine z_zeq_t (M := M_X4_tellPolygons) (tgt := 155) dX4_tellPolygons_23 (by decide) h_93 ?_
        exact absurd h_89 (fun q => h_93 q.2)
    · refine z_icmp_ge_t (M := M_X4_tellPolygons) (tgt := 155) dX4_tellPolygons_19 (by decide) rfl rfl (Int.not_lt.mp h_92) ?_
      exact absurd h_89 (fun q => h_92 q.1)
  · have J_91 : YY l E M_X4_tellPolygons 3 0 0 (pS (some (zv r)) σ') 155 [some (vr 208), some (vr into_0), some (zv fits_6), some (vi i_7), none, none, none, none] [] σ_8 0 0 := by
      exact J_99 _ _ _ (K_15 _ (Option.some.inj H).symm).symm
    refine z_iload_n (M := M_X4_tellPolygons) dX4_tellPolygons_14 rfl ?_
    refine z_aload_n (M := M_X4_tellPolygons) dX4_tellPolygons_15 rfl ?_
    refine z_getI (M := M_X4_tellPolygons) (ci := 7) (C := RX4) (T := TX4) (Nf := 17) (ty := tyX4) cl7 dX4_tellPolygons_16 ly_208 16 (by decide) t_397 rfl rfl ?_
    by_cases h_94 : (w32 i_7) < (w32 (σ_8 kG_rings 0))
    · refine z_icmp_ge_f (M := M_X4_tellPolygons) (tgt := 155) dX4_tellPolygons_19 (by decide) rfl rfl h_94 ?_
      refine z_zload_n (M := M_X4_tellPolygons) dX4_tellPolygons_22 rfl ?_
      by_cases h_95 : fits_6 = true
      · refine z_zeq_f (M := M_X4_tellPolygons) (tgt := 155) dX4_tellPolygons_23 (by decide) h_95 ?_
        exact absurd ⟨h_94, h_95⟩ h_89
      · refine z_zeq_t (M := M_X4_tellPolygons) (tgt := 155) dX4_tellPolygons_23 (by decide) h_95 ?_
        exact J_91
    · refine z_icmp_ge_t (M := M_X4_tellPolygons) (tgt := 155) dX4_tellPolygons_19 (by decide) rfl rfl (Int.not_lt.mp h_94) ?_
      exact J_91
theorem c_X4_finishOf (hl : l.stackTraces = false) {σ : SG} {piece_0 : Int} {r : Int}  (H : fG_finishOf σ piece_0 = some r) : en_S l E M_X4_finishOf 1 0 0 [vr 208, vi piece_0] σ (pS (some (vi r)) σ) := by
  unfold fG_finishOf at H
  refine z_mk (lv := [some (vr 208), some (vi piece_0)]) m_X4_finishOf rfl hl (Nat.le_of_ble_eq_true rfl) rfl ?_
  obtain ⟨v_11, he_12, hk_13⟩ := bd_e H
  have J_14 : ∀ x_10, v_11 = x_10 → YY l E M_X4_finishOf 1 0 0 (pS (some (vi r)) σ) 30 [some (vr 208), some (vi piece_0)] [vi x_10] σ 0 0 := by
    intro x_10 e
    have H := hk_13
    rw [e] at H
    cases H
    exact z_iret (M := M_X4_finishOf) dX4_finishOf_30 rfl (Nat.le_of_ble_eq_true rfl) (Nat.le_of_ble_eq_true rfl) ⟨rfl, rfl⟩
  have H := he_12
  refine z_aload_n (M := M_X4_finishOf) dX4_finishOf_0 rfl ?_
  refine z_getR (M := M_X4_finishOf) (ci := 7) (C := RX4) (T := TX4) (Nf := 17) (ty := tyX4) cl7 dX4_finishOf_1 ly_208 5 (by decide) t_386 rfl ?_
  refine z_iload_n (M := M_X4_finishOf) dX4_finishOf_4 rfl ?_
  obtain ⟨x_1, x_1_e, hi_2, H⟩ := rd_e H
  refine z_zald (M := M_X4_finishOf) dX4_finishOf_5 ly_212 rfl rfl rfl hi_2 x_1_e ?_
  rcases if_e H with ⟨h_3, H⟩ | ⟨h_3, H⟩
  · refine z_zeq_f (M := M_X4_finishOf) (tgt := 21) dX4_finishOf_6 (by decide) h_3 ?_
    refine z_aload_n (M := M_X4_finishOf) dX4_finishOf_9 rfl ?_
    refine z_getR (M := M_X4_finishOf) (ci := 7) (C := RX4) (T := TX4) (Nf := 17) (ty := tyX4) cl7 dX4_finishOf_10 ly_208 0 (by decide) t_381 rfl ?_
    refine z_getR (M := M_X4_finishOf) (ci := 11) (C := RX8) (T := TX8) (Nf := 13) (ty := tyX8) cl11 dX4_finishOf_13 ly_193 9 (by decide) t_340 rfl ?_
    refine z_iload_n (M := M_X4_finishOf) dX4_finishOf_16 rfl ?_
    obtain ⟨x_4, x_4_e, hi_5, H⟩ := rd_e H
    refine z_iald (M := M_X4_finishOf) dX4_finishOf_17 ly_205 rfl rfl rfl hi_5 x_4_e ?_
    refine z_goto (M := M_X4_finishOf) (tgt := 30) dX4_finishOf_18 (by decide) ?_
    exact J_14 _ (Option.some.inj H).symm
  · refine z_zeq_t (M := M_X4_finishOf) (tgt := 21) dX4_finishOf_6 (by decide) h_3 ?_
    refine z_aload_n (M := M_X4_finishOf) dX4_finishOf_21 rfl ?_
    refine z_getR (M := M_X4_finishOf) (ci := 7) (C := RX4) (T := TX4) (Nf := 17) (ty := tyX4) cl7 dX4_finishOf_22 ly_208 0 (by decide) t_381 rfl ?_
    refine z_getR (M := M_X4_finishOf) (ci := 11) (C := RX8) (T := TX8) (Nf := 13) (ty := tyX8) cl11 dX4_finishOf_25 ly_193 10 (by decide) t_342 rfl ?_
    refine z_iload_n (M := M_X4_finishOf) dX4_finishOf_28 rfl ?_
    obtain ⟨x_7, x_7_e, hi_8, H⟩ := rd_e H
    refine z_iald (M := M_X4_finishOf) dX4_finishOf_29 ly_206 rfl rfl rfl hi_8 x_7_e ?_
    exact J_14 _ (Option.some.inj H).symm
end LFAG
