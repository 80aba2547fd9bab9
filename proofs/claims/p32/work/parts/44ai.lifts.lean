section LFAI
variable {l : Launch} {E : EE}
theorem c_X8_firstHotFrom (hl : l.stackTraces = false) {σ : SG} {x_0 : Int} {r : Int}  (H : fN_firstHotFrom σ x_0 = some r) : en_S l E M_X8_firstHotFrom 1 0 0 [vr 193, vi x_0] σ (pS (some (vi r)) σ) := by
  unfold fN_firstHotFrom at H
  refine z_mk (lv := [some (vr 193), some (vi x_0), none, none, none]) m_X8_firstHotFrom rfl hl (Nat.le_of_ble_eq_true rfl) rfl ?_
  refine z_iconst (M := M_X8_firstHotFrom) dX8_firstHotFrom_0 ?_
  refine z_istore_n (M := M_X8_firstHotFrom) (lv' := [some (vr 193), some (vi x_0), some (vi 0), none, none]) dX8_firstHotFrom_1 (Nat.le_of_ble_eq_true rfl) rfl rfl ?_
  refine z_aload_n (M := M_X8_firstHotFrom) dX8_firstHotFrom_2 rfl ?_
  refine z_getI (M := M_X8_firstHotFrom) (ci := 11) (C := RX8) (T := TX8) (Nf := 13) (ty := tyX8) cl11 dX8_firstHotFrom_3 ly_193 8 (by decide) t_338 rfl rfl ?_
  refine z_istore_n (M := M_X8_firstHotFrom) (lv' := [some (vr 193), some (vi x_0), some (vi 0), some (vi (σ kN_hot 0)), none]) dX8_firstHotFrom_6 (Nat.le_of_ble_eq_true rfl) rfl rfl ?_
  obtain ⟨rl_6, hw_3, hk_4⟩ := bd_e H
  have J_27 : ∀ low_25 high_26, rl_6 = (low_25, high_26) → YY l E M_X8_firstHotFrom 1 0 0 (pS (some (vi r)) σ) 46 [some (vr 193), some (vi x_0), some (vi low_25), some (vi high_26), none] [] σ 0 0 := by
    intro low_25 high_26 e
    have H := hk_4
    rw [e] at H
    refine z_iload_n (M := M_X8_firstHotFrom) dX8_firstHotFrom_46 rfl ?_
    cases H
    exact z_iret (M := M_X8_firstHotFrom) dX8_firstHotFrom_47 rfl (Nat.le_of_ble_eq_true rfl) (Nat.le_of_ble_eq_true rfl) ⟨rfl, rfl⟩
  refine whl_go hw_3 (fun (low_1, high_2) => YY l E M_X8_firstHotFrom 1 0 0 (pS (some (vi r)) σ) 7 [some (vr 193), some (vi x_0), some (vi low_1), some (vi high_2), none] [] σ 0 0) ?_
  rintro ⟨low_1, high_2⟩ o_7 H K_8 K_9
  refine z_iload_n (M := M_X8_firstHotFrom) dX8_firstHotFrom_7 rfl ?_
  refine z_iload_n (M := M_X8_firstHotFrom) dX8_firstHotFrom_8 rfl ?_
  rcases if_e H with ⟨h_10, H⟩ | ⟨h_10, H⟩
  · refine z_icmp_ge_f (M := M_X8_firstHotFrom) (tgt := 46) dX8_firstHotFrom_9 (by decide) rfl rfl h_10 ?_
    refine z_iload_n (M := M_X8_firstHotFrom) dX8_firstHotFrom_12 rfl ?_
    refine z_iload_n (M := M_X8_firstHotFrom) dX8_firstHotFrom_13 rfl ?_
    refine z_iload_n (M := M_X8_firstHotFrom) dX8_firstHotFrom_14 rfl ?_
    refine z_isub (M := M_X8_firstHotFrom) dX8_firstHotFrom_15 ?_
    refine z_iconst (M := M_X8_firstHotFrom) dX8_firstHotFrom_16 ?_
    refine z_idiv (M := M_X8_firstHotFrom) dX8_firstHotFrom_17 (by decide +kernel) ?_
    refine z_iadd (M := M_X8_firstHotFrom) dX8_firstHotFrom_18 ?_
    refine z_istore (M := M_X8_firstHotFrom) (lv' := [some (vr 193), some (vi x_0), some (vi low_1), some (vi high_2), some (vi (low_1 + (q_idv (high_2 - low_1) 2)))]) dX8_firstHotFrom_19 (Nat.le_of_ble_eq_true rfl) rfl rfl ?_
    obtain ⟨v_14, he_11, hk_12⟩ := bd_e H
    have J_23 : ∀ low_20 high_21, v_14 = (low_20, high_21) → YY l E M_X8_firstHotFrom 1 0 0 (pS (some (vi r)) σ) 43 [some (vr 193), some (vi x_0), some (vi low_20), some (vi high_21), some (vi (low_1 + (q_idv (high_2 - low_1) 2)))] [] σ 0 0 := by
      intro low_20 high_21 e
      have H := hk_12
      rw [e] at H
      refine z_goto (M := M_X8_firstHotFrom) (tgt := 7) dX8_firstHotFrom_43 (by decide) ?_
      refine z_le (lv' := [some (vr 193), some (vi x_0), some (vi low_20), some (vi high_21), none]) ⟨Or.inr rfl, Or.inr rfl, Or.inr rfl, Or.inr rfl, Or.inl rfl, trivial⟩ ?_
      exact K_8 _ (Option.some.inj H).symm
    have H := he_11
    refine z_aload_n (M := M_X8_firstHotFrom) dX8_firstHotFrom_21 rfl ?_
    refine z_getR (M := M_X8_firstHotFrom) (ci := 11) (C := RX8) (T := TX8) (Nf := 13) (ty := tyX8) cl11 dX8_firstHotFrom_22 ly_193 6 (by decide) t_333 rfl ?_
    refine z_iload (M := M_X8_firstHotFrom) dX8_firstHotFrom_25 rfl ?_
    obtain ⟨x_15, x_15_e, hi_16, H⟩ := rd_e H
    refine z_iald (M := M_X8_firstHotFrom) dX8_firstHotFrom_27 ly_203 rfl rfl rfl hi_16 x_15_e ?_
    refine z_iload_n (M := M_X8_firstHotFrom) dX8_firstHotFrom_28 rfl ?_
    rcases if_e H with ⟨h_17, H⟩ | ⟨h_17, H⟩
    · refine z_icmp_ge_f (M := M_X8_firstHotFrom) (tgt := 40) dX8_firstHotFrom_29 (by decide) rfl rfl h_17 ?_
      refine z_iload (M := M_X8_firstHotFrom) dX8_firstHotFrom_32 rfl ?_
      refine z_iconst (M := M_X8_firstHotFrom) dX8_firstHotFrom_34 ?_
      refine z_iadd (M := M_X8_firstHotFrom) dX8_firstHotFrom_35 ?_
      refine z_istore_n (M := M_X8_firstHotFrom) (lv' := [some (vr 193), some (vi x_0), some (vi ((low_1 + (q_idv (high_2 - low_1) 2)) + 1)), some (vi high_2), some (vi (low_1 + (q_idv (high_2 - low_1) 2)))]) dX8_firstHotFrom_36 (Nat.le_of_ble_eq_true rfl) rfl rfl ?_
      refine z_goto (M := M_X8_firstHotFrom) (tgt := 43) dX8_firstHotFrom_37 (by decide) ?_
      exact J_23 _ _ (Option.some.inj H).symm
    · refine z_icmp_ge_t (M := M_X8_firstHotFrom) (tgt := 40) dX8_firstHotFrom_29 (by decide) rfl rfl (Int.not_lt.mp h_17) ?_
      refine z_iload (M := M_X8_firstHotFrom) dX8_firstHotFrom_40 rfl ?_
      refine z_istore_n (M := M_X8_firstHotFrom) (lv' := [some (vr 193), some (vi x_0), some (vi low_1), some (vi (low_1 + (q_idv (high_2 - low_1) 2))), some (vi (low_1 + (q_idv (high_2 - low_1) 2)))]) dX8_firstHotFrom_42 (Nat.le_of_ble_eq_true rfl) rfl rfl ?_
      exact J_23 _ _ (Option.some.inj H).symm
  · refine z_icmp_ge_t (M := M_X8_firstHotFrom) (tgt := 46) dX8_firstHotFrom_9 (by decide) rfl rfl (Int.not_lt.mp h_10) ?_
    exact J_27 _ _ (K_9 _ (Option.some.inj H).symm).symm
theorem c_X8_meetsPixel (hl : l.stackTraces = false) {σ : SG} {wayX_0 : Int} {wayY_0 : Int} {x_0 : Int} {y_0 : Int} {r : Bool}  (H : fN_meetsPixel wayX_0 wayY_0 x_0 y_0 = r) : en_S l E M_X8_meetsPixel 1 0 0 [vl wayX_0, vl wayY_0, vl x_0, vl y_0] σ (pS (some (zv r)) σ) := by
  unfold fN_meetsPixel at H
  refine z_mk (lv := [some (vl wayX_0), none, some (vl wayY_0), none, some (vl x_0), none, some (vl y_0), none]) m_X8_meetsPixel rfl hl (Nat.le_of_ble_eq_true rfl) rfl ?_
  rcases if_e H with ⟨h_8, H⟩ | ⟨h_8, H⟩
  · have J_9 : YY l E M_X8_meetsPixel 1 0 0 (pS (some (zv r)) σ) 12 [some (vl wayX_0), none, some (vl wayY_0), none, some (vl x_0), none, some (vl y_0), none] [] σ 0 0 := by
      refine z_zconst (M := M_X8_meetsPixel) (b := true) dX8_meetsPixel_12 rfl ?_
      cases H
      exact z_zret (M := M_X8_meetsPixel) dX8_meetsPixel_13 rfl (Nat.le_of_ble_eq_true rfl) (Nat.le_of_ble_eq_true rfl) ⟨rfl, rfl⟩
    refine z_lload_n (M := M_X8_meetsPixel) dX8_meetsPixel_0 rfl ?_
    refine z_lconst (M := M_X8_meetsPixel) (m := 0) dX8_meetsPixel_1 (by decide +kernel) ?_
    refine z_lcmp (M := M_X8_meetsPixel) dX8_meetsPixel_2 ?_
    by_cases h_11 : (w64 wayX_0) = 0
    · refine z_lif_eq_t (M := M_X8_meetsPixel) (tgt := 12) dX8_meetsPixel_3 (by decide) rfl (by decide +kernel) h_11 ?_
      exact J_9
    · refine z_lif_eq_f (M := M_X8_meetsPixel) (tgt := 12) dX8_meetsPixel_3 (by decide) rfl (by decide +kernel) h_11 ?_
      refine z_lload_n (M := M_X8_meetsPixel) dX8_meetsPixel_6 rfl ?_
      refine z_lconst (M := M_X8_meetsPixel) (m := 0) dX8_meetsPixel_7 (by decide +kernel) ?_
      refine z_lcmp (M := M_X8_meetsPixel) dX8_meetsPixel_8 ?_
      by_cases h_12 : (w64 wayY_0) = 0
      · refine z_lif_ne_f (M := M_X8_meetsPixel) (tgt := 14) dX8_meetsPixel_9 (by decide) rfl (by decide +kernel) h_12 ?_
        exact J_9
      · refine z_lif_ne_t (M := M_X8_meetsPixel) (tgt := 14) dX8_meetsPixel_9 (by decide) rfl (by decide +kernel) h_12 ?_
        exact absurd h_8 (fun q => q.elim h_11 h_12)
  · have J_10 : YY l E M_X8_meetsPixel 1 0 0 (pS (some (zv r)) σ) 14 [some (vl wayX_0), none, some (vl wayY_0), none, some (vl x_0), none, some (vl y_0), none] [] σ 0 0 := by
      refine z_lload_n (M := M_X8_meetsPixel) dX8_meetsPixel_14 rfl ?_
      refine z_lconst (M := M_X8_meetsPixel) (m := 0) dX8_meetsPixel_15 (by decide +kernel) ?_
      refine z_lcmp (M := M_X8_meetsPixel) dX8_meetsPixel_16 ?_
      rcases if_e H with ⟨h_1, H⟩ | ⟨h_1, H⟩
      · refine z_lif_le_f (M := M_X8_meetsPixel) (tgt := 58) dX8_meetsPixel_17 (by decide) rfl (by decide +kernel) h_1 ?_
        have J_2 : YY l E M_X8_meetsPixel 1 0 0 (pS (some (zv r)) σ) 57 [some (vl wayX_0), none, some (vl wayY_0), none, some (vl x_0), none, some (vl y_0), none] [zv (decide (((w64 ((x_0 - 1) * wayY_0)) < (w64 ((y_0 + 1) * wayX_0))) ∧ ((w64 ((y_0 - 1) * wayX_0)) < (w64 ((x_0 + 1) * wayY_0)))))] σ 0 0 := by
          cases H
          exact z_zret (M := M_X8_meetsPixel) dX8_meetsPixel_57 rfl (Nat.le_of_ble_eq_true rfl) (Nat.le_of_ble_eq_true rfl) ⟨rfl, rfl⟩
        refine z_lload (M := M_X8_meetsPixel) dX8_meetsPixel_20 rfl ?_
        refine z_lconst (M := M_X8_meetsPixel) (m := 1) dX8_meetsPixel_22 (by decide +kernel) ?_
        refine z_lsub (M := M_X8_meetsPixel) dX8_meetsPixel_23 ?_
        refine z_lload_n (M := M_X8_meetsPixel) dX8_meetsPixel_24 rfl ?_
        refine z_lmul (M := M_X8_meetsPixel) dX8_meetsPixel_25 ?_
        refine z_lload (M := M_X8_meetsPixel) dX8_meetsPixel_26 rfl ?_
        refine z_lconst (M := M_X8_meetsPixel) (m := 1) dX8_meetsPixel_28 (by decide +kernel) ?_
        refine z_ladd (M := M_X8_meetsPixel) dX8_meetsPixel_29 ?_
        refine z_lload_n (M := M_X8_meetsPixel) dX8_meetsPixel_30 rfl ?_
        refine z_lmul (M := M_X8_meetsPixel) dX8_meetsPixel_31 ?_
        refine z_lcmp (M := M_X8_meetsPixel) dX8_meetsPixel_32 ?_
        by_cases h_3 : (w64 ((x_0 - 1) * wayY_0)) < (w64 ((y_0 + 1) * wayX_0))
        · refine z_lif_ge_f (M := M_X8_meetsPixel) (tgt := 56) dX8_meetsPixel_33 (by decide) rfl rfl h_3 ?_
          refine z_lload (M := M_X8_meetsPixel) dX8_meetsPixel_36 rfl ?_
          refine z_lconst (M := M_X8_meetsPixel) (m := 1) dX8_meetsPixel_38 (by decide +kernel) ?_
          refine z_lsub (M := M_X8_meetsPixel) dX8_meetsPixel_39 ?_
          refine z_lload_n (M := M_X8_meetsPixel) dX8_meetsPixel_40 rfl ?_
          refine z_lmul (M := M_X8_meetsPixel) dX8_meetsPixel_41 ?_
          refine z_lload (M := M_X8_meetsPixel) dX8_meetsPixel_42 rfl ?_
          refine z_lconst (M := M_X8_meetsPixel) (m := 1) dX8_meetsPixel_44 (by decide +kernel) ?_
          refine z_ladd (M := M_X8_meetsPixel) dX8_meetsPixel_45 ?_
          refine z_lload_n (M := M_X8_meetsPixel) dX8_meetsPixel_46 rfl ?_
          refine z_lmul (M := M_X8_meetsPixel) dX8_meetsPixel_47 ?_
          refine z_lcmp (M := M_X8_meetsPixel) dX8_meetsPixel_48 ?_
          by_cases h_4 : (w64 ((y_0 - 1) * wayX_0)) < (w64 ((x_0 + 1) * wayY_0))
          · refine z_lif_ge_f (M := M_X8_meetsPixel) (tgt := 56) dX8_meetsPixel_49 (by decide) rfl rfl h_4 ?_
            refine z_iconst (M := M_X8_meetsPixel) dX8_meetsPixel_52 ?_
            refine z_goto (M := M_X8_meetsPixel) (tgt := 57) dX8_meetsPixel_53 (by decide) ?_
            exact z_st (by rw [zv_t (p := ((w64 ((x_0 - 1) * wayY_0)) < (w64 ((y_0 + 1) * wayX_0))) ∧ ((w64 ((y_0 - 1) * wayX_0)) < (w64 ((x_0 + 1) * wayY_0)))) ⟨h_3, h_4⟩]) J_2
          · refine z_lif_ge_t (M := M_X8_meetsPixel) (tgt := 56) dX8_meetsPixel_49 (by decide) rfl rfl (Int.not_lt.mp h_4) ?_
            refine z_iconst (M := M_X8_meetsPixel) dX8_meetsPixel_56 ?_
            exact z_st (by rw [zv_f (p := ((w64 ((x_0 - 1) * wayY_0)) < (w64 ((y_0 + 1) * wayX_0))) ∧ ((w64 ((y_0 - 1) * wayX_0)) < (w64 ((x_0 + 1) * wayY_0)))) (fun q => h_4 q.2)]) J_2
        · refine z_lif_ge_t (M := M_X8_meetsPixel) (tgt := 56) dX8_meetsPixel_33 (by decide) rfl rfl (Int.not_lt.mp h_3) ?_
          refine z_iconst (M := M_X8_meetsPixel) dX8_meetsPixel_56 ?_
          exact z_st (by rw [zv_f (p := ((w64 ((x_0 - 1) * wayY_0)) < (w64 ((y_0 + 1) * wayX_0))) ∧ ((w64 ((y_0 - 1) * wayX_0)) < (w64 ((x_0 + 1) * wayY_0)))) (fun q => h_3 q.1)]) J_2
      · refine z_lif_le_t (M := M_X8_meetsPixel) (tgt := 58) dX8_meetsPixel_17 (by decide) rfl (by decide +kernel) (Int.not_lt.mp h_1) ?_
        have J_5 : YY l E M_X8_meetsPixel 1 0 0 (pS (some (zv r)) σ) 95 [some (vl wayX_0), none, some (vl wayY_0), none, some (vl x_0), none, some (vl y_0), none] [zv (decide (((w64 ((y_0 - 1) * wayX_0)) ≤ (w64 ((x_0 - 1) * wayY_0))) ∧ ((w64 ((x_0 + 1) * wayY_0)) < (w64 ((y_0 + 1) * wayX_0)))))] σ 0 0 := by
          cases H
          exact z_zret (M := M_X8_meetsPixel) dX8_meetsPixel_95 rfl (Nat.le_of_ble_eq_true rfl) (Nat.le_of_ble_eq_true rfl) ⟨rfl, rfl⟩
        refine z_lload (M := M_X8_meetsPixel) dX8_meetsPixel_58 rfl ?_
        refine z_lconst (M := M_X8_meetsPixel) (m := 1) dX8_meetsPixel_60 (by decide +kernel) ?_
        refine z_lsub (M := M_X8_meetsPixel) dX8_meetsPixel_61 ?_
        refine z_lload_n (M := M_X8_meetsPixel) dX8_meetsPixel_62 rfl ?_
        refine z_lmul (M := M_X8_meetsPixel) dX8_meetsPixel_63 ?_
        refine z_lload (M := M_X8_meetsPixel) dX8_meetsPixel_64 rfl ?_
        refine z_lconst (M := M_X8_meetsPixel) (m := 1) dX8_meetsPixel_66 (by decide +kernel) ?_
        refine z_lsub (M := M_X8_meetsPixel) dX8_meetsPixel_67 ?_
        refine z_lload_n (M := M_X8_meetsPixel) dX8_meetsPixel_68 rfl ?_
        refine z_lmul (M := M_X8_meetsPixel) dX8_meetsPixel_69 ?_
        refine z_lcmp (M := M_X8_meetsPixel) dX8_meetsPixel_70 ?_
        by_cases h_6 : (w64 ((y_0 - 1) * wayX_0)) ≤ (w64 ((x_0 - 1) * wayY_0))
        · refine z_lif_lt_f (M := M_X8_meetsPixel) (tgt := 94) dX8_meetsPixel_71 (by decide) rfl rfl h_6 ?_
          refine z_lload (M := M_X8_meetsPixel) dX8_meetsPixel_74 rfl ?_
          refine z_lconst (M := M_X8_meetsPixel) (m := 1) dX8_meetsPixel_76 (by decide +kernel) ?_
          refine z_ladd (M := M_X8_meetsPixel) dX8_meetsPixel_77 ?_
          refine z_lload_n (M := M_X8_meetsPixel) dX8_meetsPixel_78 rfl ?_
          refine z_lmul (M := M_X8_meetsPixel) dX8_meetsPixel_79 ?_
          refine z_lload (M := M_X8_meetsPixel) dX8_meetsPixel_80 rfl ?_
          refine z_lconst (M := M_X8_meetsPixel) (m := 1) dX8_meetsPixel_82 (by decide +kernel) ?_
          refine z_ladd (M := M_X8_meetsPixel) dX8_meetsPixel_83 ?_
          refine z_lload_n (M := M_X8_meetsPixel) dX8_meetsPixel_84 rfl ?_
          refine z_lmul (M := M_X8_meetsPixel) dX8_meetsPixel_85 ?_
          refine z_lcmp (M := M_X8_meetsPixel) dX8_meetsPixel_86 ?_
          by_cases h_7 : (w64 ((x_0 + 1) * wayY_0)) < (w64 ((y_0 + 1) * wayX_0))
          · refine z_lif_le_f (M := M_X8_meetsPixel) (tgt := 94) dX8_meetsPixel_87 (by decide) rfl rfl h_7 ?_
            refine z_iconst (M := M_X8_meetsPixel) dX8_meetsPixel_90 ?_
            refine z_goto (M := M_X8_meetsPixel) (tgt := 95) dX8_meetsPixel_91 (by decide) ?_
            exact z_st (by rw [zv_t (p := ((w64 ((y_0 - 1) * wayX_0)) ≤ (w64 ((x_0 - 1) * wayY_0))) ∧ ((w64 ((x_0 + 1) * wayY_0)) < (w64 ((y_0 + 1) * wayX_0)))) ⟨h_6, h_7⟩]) J_5
          · refine z_lif_le_t (M := M_X8_meetsPixel) (tgt := 94) dX8_meetsPixel_87 (by decide) rfl rfl (Int.not_lt.mp h_7) ?_
            refine z_iconst (M := M_X8_meetsPixel) dX8_meetsPixel_94 ?_
            exact z_st (by rw [zv_f (p := ((w64 ((y_0 - 1) * wayX_0)) ≤ (w64 ((x_0 - 1) * wayY_0))) ∧ ((w64 ((x_0 + 1) * wayY_0)) < (w64 ((y_0 + 1) * wayX_0)))) (fun q => h_7 q.2)]) J_5
        · refine z_lif_lt_t (M := M_X8_meetsPixel) (tgt := 94) dX8_meetsPixel_71 (by decide) rfl rfl (Int.not_le.mp h_6) ?_
          refine z_iconst (M := M_X8_meetsPixel) dX8_meetsPixel_94 ?_
          exact z_st (by rw [zv_f (p := ((w64 ((y_0 - 1) * wayX_0)) ≤ (w64 ((x_0 - 1) * wayY_0))) ∧ ((w64 ((x_0 + 1) * wayY_0)) < (w64 ((y_0 + 1) * wayX_0)))) (fun q => h_6 q.1)]) J_5
    refine z_lload_n (M := M_X8_meetsPixel) dX8_meetsPixel_0 rfl ?_
    refine z_lconst (M := M_X8_meetsPixel) (m := 0) dX8_meetsPixel_1 (by decide +kernel) ?_
    refine z_lcmp (M := M_X8_meetsPixel) dX8_meetsPixel_2 ?_
    by_cases h_13 : (w64 wayX_0) = 0
    · refine z_lif_eq_t (M := M_X8_meetsPixel) (tgt := 12) dX8_meetsPixel_3 (by decide) rfl (by decide +kernel) h_13 ?_
      exact absurd (Or.inl h_13) h_8
    · refine z_lif_eq_f (M := M_X8_meetsPixel) (tgt := 12) dX8_meetsPixel_3 (by decide) rfl (by decide +kernel) h_13 ?_
      refine z_lload_n (M := M_X8_meetsPixel) dX8_meetsPixel_6 rfl ?_
      refine z_lconst (M := M_X8_meetsPixel) (m := 0) dX8_meetsPixel_7 (by decide +kernel) ?_
      refine z_lcmp (M := M_X8_meetsPixel) dX8_meetsPixel_8 ?_
      by_cases h_14 : (w64 wayY_0) = 0
      · refine z_lif_ne_f (M := M_X8_meetsPixel) (tgt := 14) dX8_meetsPixel_9 (by decide) rfl (by decide +kernel) h_14 ?_
        exact absurd (Or.inr h_14) h_8
      · refine z_lif_ne_t (M := M_X8_meetsPixel) (tgt := 14) dX8_meetsPixel_9 (by decide) rfl (by decide +kernel) h_14 ?_
        exact J_10
theorem c_X8_moveToFront (hl : l.stackTraces = false) {σ : SG} {first_0 : Int} {last_0 : Int} {σ' : SG}  (H : fN_moveToFront σ first_0 last_0 = some σ') : en_S l E M_X8_moveToFront 1 0 0 [vr 193, vi first_0, vi last_0] σ (pS (none) σ') := by
  unfold fN_moveToFront at H
  refine z_mk (lv := [some (vr 193), some (vi first_0), some (vi last_0), none, none]) m_X8_moveToFront rfl hl (Nat.le_of_ble_eq_true rfl) rfl ?_
  refine z_aload_n (M := M_X8_moveToFront) dX8_moveToFront_0 rfl ?_
  refine z_getR (M := M_X8_moveToFront) (ci := 11) (C := RX8) (T := TX8) (Nf := 13) (ty := tyX8) cl11 dX8_moveToFront_1 ly_193 5 (by decide) t_332 rfl ?_
  refine z_iload_n (M := M_X8_moveToFront) dX8_moveToFront_4 rfl ?_
  obtain ⟨x_1, x_1_e, hi_2, H⟩ := rd_e H
  refine z_iald (M := M_X8_moveToFront) dX8_moveToFront_5 ly_202 rfl rfl rfl hi_2 x_1_e ?_
  refine z_istore_n (M := M_X8_moveToFront) (lv' := [some (vr 193), some (vi first_0), some (vi last_0), some (vi x_1), none]) dX8_moveToFront_6 (Nat.le_of_ble_eq_true rfl) rfl rfl ?_
  refine z_iload_n (M := M_X8_moveToFront) dX8_moveToFront_7 rfl ?_
  refine z_istore (M := M_X8_moveToFront) (lv' := [some (vr 193), some (vi first_0), some (vi last_0), some (vi x_1), some (vi last_0)]) dX8_moveToFront_8 (Nat.le_of_ble_eq_true rfl) rfl rfl ?_
  obtain ⟨rl_8, hw_5, hk_6⟩ := bd_e H
  have J_23 : ∀ k_19 σ_20, rl_8 = (k_19, σ_20) → YY l E M_X8_moveToFront 1 0 0 (pS (none) σ') 38 [some (vr 193), some (vi first_0), some (vi last_0), some (vi x_1), some (vi k_19)] [] σ_20 0 0 := by
    intro k_19 σ_20 e
    have H := hk_6
    rw [e] at H
    refine z_aload_n (M := M_X8_moveToFront) dX8_moveToFront_38 rfl ?_
    refine z_getR (M := M_X8_moveToFront) (ci := 11) (C := RX8) (T := TX8) (Nf := 13) (ty := tyX8) cl11 dX8_moveToFront_39 ly_193 5 (by decide) t_332 rfl ?_
    refine z_iload_n (M := M_X8_moveToFront) dX8_moveToFront_42 rfl ?_
    refine z_iload_n (M := M_X8_moveToFront) dX8_moveToFront_43 rfl ?_
    obtain ⟨σ_21, σ_21_e, hi_22, H⟩ := wa_e H
    refine z_iast (M := M_X8_moveToFront) dX8_moveToFront_44 ly_202 rfl rfl rfl hi_22 σ_21_e ?_
    cases H
    exact z_vret (M := M_X8_moveToFront) dX8_moveToFront_45 rfl (Nat.le_of_ble_eq_true rfl) (Nat.le_of_ble_eq_true rfl) ⟨rfl, rfl⟩
  refine whl_go hw_5 (fun (k_3, σ_4) => YY l E M_X8_moveToFront 1 0 0 (pS (none) σ') 10 [some (vr 193), some (vi first_0), some (vi last_0), some (vi x_1), some (vi k_3)] [] σ_4 0 0) ?_
  rintro ⟨k_3, σ_4⟩ o_9 H K_10 K_11
  refine z_iload (M := M_X8_moveToFront) dX8_moveToFront_10 rfl ?_
  refine z_iload_n (M := M_X8_moveToFront) dX8_moveToFront_12 rfl ?_
  rcases if_e H with ⟨h_12, H⟩ | ⟨h_12, H⟩
  · refine z_icmp_le_f (M := M_X8_moveToFront) (tgt := 38) dX8_moveToFront_13 (by decide) rfl rfl h_12 ?_
    refine z_aload_n (M := M_X8_moveToFront) dX8_moveToFront_16 rfl ?_
    refine z_getR (M := M_X8_moveToFront) (ci := 11) (C := RX8) (T := TX8) (Nf := 13) (ty := tyX8) cl11 dX8_moveToFront_17 ly_193 5 (by decide) t_332 rfl ?_
    refine z_iload (M := M_X8_moveToFront) dX8_moveToFront_20 rfl ?_
    refine z_aload_n (M := M_X8_moveToFront) dX8_moveToFront_22 rfl ?_
    refine z_getR (M := M_X8_moveToFront) (ci := 11) (C := RX8) (T := TX8) (Nf := 13) (ty := tyX8) cl11 dX8_moveToFront_23 ly_193 5 (by decide) t_332 rfl ?_
    refine z_iload (M := M_X8_moveToFront) dX8_moveToFront_26 rfl ?_
    refine z_iconst (M := M_X8_moveToFront) dX8_moveToFront_28 ?_
    refine z_isub (M := M_X8_moveToFront) dX8_moveToFront_29 ?_
    obtain ⟨x_13, x_13_e, hi_14, H⟩ := rd_e H
    refine z_iald (M := M_X8_moveToFront) dX8_moveToFront_30 ly_202 rfl rfl rfl hi_14 x_13_e ?_
    obtain ⟨σ_15, σ_15_e, hi_16, H⟩ := wa_e H
    refine z_iast (M := M_X8_moveToFront) dX8_moveToFront_31 ly_202 rfl rfl rfl hi_16 σ_15_e ?_
    refine z_iinc (M := M_X8_moveToFront) (lv' := [some (vr 193), some (vi first_0), some (vi last_0), some (vi x_1), some (vi (k_3 + (-1)))]) dX8_moveToFront_32 rfl (Nat.le_of_ble_eq_true rfl) rfl rfl ?_
    refine z_goto (M := M_X8_moveToFront) (tgt := 10) dX8_moveToFront_35 (by decide) ?_
    exact K_10 _ (Option.some.inj H).symm
  · refine z_icmp_le_t (M := M_X8_moveToFront) (tgt := 38) dX8_moveToFront_13 (by decide) rfl rfl (Int.not_lt.mp h_12) ?_
    exact J_23 _ _ (K_11 _ (Option.some.inj H).symm).symm
theorem c_X8_layChain (hl : l.stackTraces = false) {σ : SG} {i_0 : Int} {r : Int} {σ' : SG}  (H : fN_layChain σ i_0 = some (r, σ')) : en_S l E M_X8_layChain 2 0 0 [vr 193, vi i_0] σ (pS (some (vi r)) σ') := by
  unfold fN_layChain at H
  refine z_mk (lv := [some (vr 193), some (vi i_0), none, none, none, none, none, none, none, none, none, none, none]) m_X8_layChain rfl hl (Nat.le_of_ble_eq_true rfl) rfl ?_
  obtain ⟨v_195, he_196, hk_197⟩ := bd_e H
  have J_198 : ∀ x_20, v_195 = x_20 → YY l E M_X8_layChain 2 0 0 (pS (some (vi r)) σ') 68 [some (vr 193), some (vi i_0), none, none, none, none, none, none, none, none, none, none, none] [zv x_20] σ 0 0 := by
    intro x_20 e
    have H := hk_197
    rw [e] at H
    refine z_zstore_n (M := M_X8_layChain) (lv' := [some (vr 193), some (vi i_0), some (zv x_20), none, none, none, none, none, none, none, none, none, none]) dX8_layChain_68 (Nat.le_of_ble_eq_true rfl) rfl rfl ?_
    obtain ⟨v_191, he_192, hk_193⟩ := bd_e H
    have J_194 : ∀ x_32, v_191 = x_32 → YY l E M_X8_layChain 2 0 0 (pS (some (vi r)) σ') 94 [some (vr 193), some (vi i_0), some (zv x_20), none, none, none, none, none, none, none, none, none, none] [vi x_32] σ 0 0 := by
      intro x_32 e
      have H := hk_193
      rw [e] at H
      refine z_istore_n (M := M_X8_layChain) (lv' := [some (vr 193), some (vi i_0), some (zv x_20), some (vi x_32), none, none, none, none, none, none, none, none, none]) dX8_layChain_94 (Nat.le_of_ble_eq_true rfl) rfl rfl ?_
      obtain ⟨v_187, he_188, hk_189⟩ := bd_e H
      have J_190 : ∀ x_44, v_187 = x_44 → YY l E M_X8_layChain 2 0 0 (pS (some (vi r)) σ') 120 [some (vr 193), some (vi i_0), some (zv x_20), some (vi x_32), none, none, none, none, none, none, none, none, none] [vi x_44] σ 0 0 := by
        intro x_44 e
        have H := hk_189
        rw [e] at H
        refine z_istore (M := M_X8_layChain) (lv' := [some (vr 193), some (vi i_0), some (zv x_20), some (vi x_32), some (vi x_44), none, none, none, none, none, none, none, none]) dX8_layChain_120 (Nat.le_of_ble_eq_true rfl) rfl rfl ?_
        obtain ⟨v_183, he_184, hk_185⟩ := bd_e H
        have J_186 : ∀ x_56, v_183 = x_56 → YY l E M_X8_layChain 2 0 0 (pS (some (vi r)) σ') 147 [some (vr 193), some (vi i_0), some (zv x_20), some (vi x_32), some (vi x_44), none, none, none, none, none, none, none, none] [vi x_56] σ 0 0 := by
          intro x_56 e
          have H := hk_185
          rw [e] at H
          refine z_iload_n (M := M_X8_layChain) dX8_layChain_147 rfl ?_
          refine z_isub (M := M_X8_layChain) dX8_layChain_148 ?_
          refine z_istore (M := M_X8_layChain) (lv' := [some (vr 193), some (vi i_0), some (zv x_20), some (vi x_32), some (vi x_44), some (vi (x_56 - x_32)), none, none, none, none, none, none, none]) dX8_layChain_149 (Nat.le_of_ble_eq_true rfl) rfl rfl ?_
          obtain ⟨v_179, he_180, hk_181⟩ := bd_e H
          have J_182 : ∀ x_68, v_179 = x_68 → YY l E M_X8_layChain 2 0 0 (pS (some (vi r)) σ') 176 [some (vr 193), some (vi i_0), some (zv x_20), some (vi x_32), some (vi x_44), some (vi (x_56 - x_32)), none, none, none, none, none, none, none] [vi x_68] σ 0 0 := by
            intro x_68 e
            have H := hk_181
            rw [e] at H
            refine z_iload (M := M_X8_layChain) dX8_layChain_176 rfl ?_
            refine z_isub (M := M_X8_layChain) dX8_layChain_178 ?_
            refine z_istore (M := M_X8_layChain) (lv' := [some (vr 193), some (vi i_0), some (zv x_20), some (vi x_32), some (vi x_44), some (vi (x_56 - x_32)), some (vi (x_68 - x_44)), none, none, none, none, none, none]) dX8_layChain_179 (Nat.le_of_ble_eq_true rfl) rfl rfl ?_
            refine z_aload_n (M := M_X8_layChain) dX8_layChain_181 rfl ?_
            refine z_getR (M := M_X8_layChain) (ci := 11) (C := RX8) (T := TX8) (Nf := 13) (ty := tyX8) cl11 dX8_layChain_182 ly_193 0 (by decide) t_327 rfl ?_
            refine z_iload_n (M := M_X8_layChain) dX8_layChain_185 rfl ?_
            obtain ⟨x_70, hc_69, H⟩ := bd_e H
            refine z_callV (M := M_X8_layChain) (M' := M_X5_lowY) (as := [vi i_0]) (rest := []) rfl rfl dX8_layChain_186 m_X5_lowY t_1467 t_1244 t_1245 (c_X5_lowY hl (by decide) hc_69) rfl rfl (ly_G (by decide)) rfl (Nat.le_of_ble_eq_true rfl) (Nat.le_of_ble_eq_true rfl) (Nat.le_of_ble_eq_true rfl) (Nat.le_of_ble_eq_true rfl) ?_
            refine z_st (st' := [vi x_70]) rfl ?_
            refine z_istore (M := M_X8_layChain) (lv' := [some (vr 193), some (vi i_0), some (zv x_20), some (vi x_32), some (vi x_44), some (vi (x_56 - x_32)), some (vi (x_68 - x_44)), some (vi x_70), none, none, none, none, none]) dX8_layChain_189 (Nat.le_of_ble_eq_true rfl) rfl rfl ?_
            refine z_aload_n (M := M_X8_layChain) dX8_layChain_191 rfl ?_
            refine z_getR (M := M_X8_layChain) (ci := 11) (C := RX8) (T := TX8) (Nf := 13) (ty := tyX8) cl11 dX8_layChain_192 ly_193 0 (by decide) t_327 rfl ?_
            refine z_iload_n (M := M_X8_layChain) dX8_layChain_195 rfl ?_
            obtain ⟨x_72, hc_71, H⟩ := bd_e H
            refine z_callV (M := M_X8_layChain) (M' := M_X5_highY) (as := [vi i_0]) (rest := []) rfl rfl dX8_layChain_196 m_X5_highY t_1468 t_1248 t_1249 (c_X5_highY hl (by decide) hc_71) rfl rfl (ly_G (by decide)) rfl (Nat.le_of_ble_eq_true rfl) (Nat.le_of_ble_eq_true rfl) (Nat.le_of_ble_eq_true rfl) (Nat.le_of_ble_eq_true rfl) ?_
            refine z_st (st' := [vi x_72]) rfl ?_
            refine z_istore (M := M_X8_layChain) (lv' := [some (vr 193), some (vi i_0), some (zv x_20), some (vi x_32), some (vi x_44), some (vi (x_56 - x_32)), some (vi (x_68 - x_44)), some (vi x_70), some (vi x_72), none, none, none, none]) dX8_layChain_199 (Nat.le_of_ble_eq_true rfl) rfl rfl ?_
            refine z_aload_n (M := M_X8_layChain) dX8_layChain_201 rfl ?_
            refine z_getR (M := M_X8_layChain) (ci := 11) (C := RX8) (T := TX8) (Nf := 13) (ty := tyX8) cl11 dX8_layChain_202 ly_193 0 (by decide) t_327 rfl ?_
            refine z_iload_n (M := M_X8_layChain) dX8_layChain_205 rfl ?_
            obtain ⟨x_74, hc_73, H⟩ := bd_e H
            refine z_callV (M := M_X8_layChain) (M' := M_X5_highX) (as := [vi i_0]) (rest := []) rfl rfl dX8_layChain_206 m_X5_highX t_1436 t_1239 t_1240 (c_X5_highX hl (by decide) hc_73) rfl rfl (ly_G (by decide)) rfl (Nat.le_of_ble_eq_true rfl) (Nat.le_of_ble_eq_true rfl) (Nat.le_of_ble_eq_true rfl) (Nat.le_of_ble_eq_true rfl) ?_
            refine z_st (st' := [vi x_74]) rfl ?_
            refine z_istore (M := M_X8_layChain) (lv' := [some (vr 193), some (vi i_0), some (zv x_20), some (vi x_32), some (vi x_44), some (vi (x_56 - x_32)), some (vi (x_68 - x_44)), some (vi x_70), some (vi x_72), some (vi x_74), none, none, none]) dX8_layChain_209 (Nat.le_of_ble_eq_true rfl) rfl rfl ?_
            refine z_iconst (M := M_X8_layChain) dX8_layChain_211 ?_
            refine z_istore (M := M_X8_layChain) (lv' := [some (vr 193), some (vi i_0), some (zv x_20), some (vi x_32), some (vi x_44), some (vi (x_56 - x_32)), some (vi (x_68 - x_44)), some (vi x_70), some (vi x_72), some (vi x_74), some (vi 0), none, none]) dX8_layChain_212 (Nat.le_of_ble_eq_true rfl) rfl rfl ?_
            refine z_iconst (M := M_X8_layChain) dX8_layChain_214 ?_
            refine z_istore (M := M_X8_layChain) (lv' := [some (vr 193), some (vi i_0), some (zv x_20), some (vi x_32), some (vi x_44), some (vi (x_56 - x_32)), some (vi (x_68 - x_44)), some (vi x_70), some (vi x_72), some (vi x_74), some (vi 0), some (vi 0), none]) dX8_layChain_215 (Nat.le_of_ble_eq_true rfl) rfl rfl ?_
            refine z_aload_n (M := M_X8_layChain) dX8_layChain_217 rfl ?_
            refine z_iload_n (M := M_X8_layChain) dX8_layChain_218 rfl ?_
            obtain ⟨x_76, hc_75, H⟩ := bd_e H
            refine z_callV (M := M_X8_layChain) (M' := M_X8_firstHotFrom) (as := [vi x_32]) (rest := []) rfl rfl dX8_layChain_219 m_X8_firstHotFrom t_1469 t_1471 s_77 (c_X8_firstHotFrom hl  hc_75) rfl rfl ly_193 rfl (Nat.le_of_ble_eq_true rfl) (Nat.le_of_ble_eq_true rfl) (Nat.le_of_ble_eq_true rfl) (Nat.le_of_ble_eq_true rfl) ?_
            refine z_st (st' := [vi x_76]) rfl ?_
            refine z_istore (M := M_X8_layChain) (lv' := [some (vr 193), some (vi i_0), some (zv x_20), some (vi x_32), some (vi x_44), some (vi (x_56 - x_32)), some (vi (x_68 - x_44)), some (vi x_70), some (vi x_72), some (vi x_74), some (vi 0), some (vi 0), some (vi x_76)]) dX8_layChain_222 (Nat.le_of_ble_eq_true rfl) rfl rfl ?_
            obtain ⟨rl_84, hw_81, hk_82⟩ := bd_e H
            have J_178 : ∀ size_174 column_175 h_176 σ_177, rl_84 = (size_174, column_175, h_176, σ_177) → YY l E M_X8_layChain 2 0 0 (pS (some (vi r)) σ') 400 [some (vr 193), some (vi i_0), some (zv x_20), some (vi x_32), some (vi x_44), some (vi (x_56 - x_32)), some (vi (x_68 - x_44)), some (vi x_70), some (vi x_72), some (vi x_74), some (vi size_174), some (vi column_175), some (vi h_176)] [] σ_177 0 0 := by
              intro size_174 column_175 h_176 σ_177 e
              have H := hk_82
              rw [e] at H
              refine z_iload (M := M_X8_layChain) dX8_layChain_400 rfl ?_
              cases H
              exact z_iret (M := M_X8_layChain) dX8_layChain_402 rfl (Nat.le_of_ble_eq_true rfl) (Nat.le_of_ble_eq_true rfl) ⟨rfl, rfl⟩
            refine whl_go hw_81 (fun (size_77, column_78, h_79, σ_80) => YY l E M_X8_layChain 2 0 0 (pS (some (vi r)) σ') 224 [some (vr 193), some (vi i_0), some (zv x_20), some (vi x_32), some (vi x_44), some (vi (x_56 - x_32)), some (vi (x_68 - x_44)), some (vi x_70), some (vi x_72), some (vi x_74), some (vi size_77), some (vi column_78), some (vi h_79)] [] σ_80 0 0) ?_
            rintro ⟨size_77, column_78, h_79, σ_80⟩ o_85 H K_86 K_87
            refine z_iload (M := M_X8_layChain) dX8_layChain_224 rfl ?_
            refine z_aload_n (M := M_X8_layChain) dX8_layChain_226 rfl ?_
            refine z_getI (M := M_X8_layChain) (ci := 11) (C := RX8) (T := TX8) (Nf := 13) (ty := tyX8) cl11 dX8_layChain_227 ly_193 8 (by decide) t_338 rfl rfl ?_
            rcases if_e H with ⟨h_96, H⟩ | ⟨h_96, H⟩
            · refine z_icmp_ge_f (M := M_X8_layChain) (tgt := 400) dX8_layChain_230 (by decide) rfl rfl h_96 ?_
              refine z_aload_n (M := M_X8_layChain) dX8_layChain_233 rfl ?_
              refine z_getR (M := M_X8_layChain) (ci := 11) (C := RX8) (T := TX8) (Nf := 13) (ty := tyX8) cl11 dX8_layChain_234 ly_193 6 (by decide) t_333 rfl ?_
              refine z_iload (M := M_X8_layChain) dX8_layChain_237 rfl ?_
              obtain ⟨x_97, x_97_e, hi_98, H⟩ := rd_e H
              refine z_iald (M := M_X8_layChain) dX8_layChain_239 ly_203 rfl rfl rfl hi_98 x_97_e ?_
              refine z_iload (M := M_X8_layChain) dX8_layChain_240 rfl ?_
              rcases if_e H with ⟨h_99, H⟩ | ⟨h_99, H⟩
              · refine z_icmp_gt_f (M := M_X8_layChain) (tgt := 400) dX8_layChain_242 (by decide) rfl rfl h_99 ?_
                refine z_aload_n (M := M_X8_layChain) dX8_layChain_245 rfl ?_
                refine z_getR (M := M_X8_layChain) (ci := 11) (C := RX8) (T := TX8) (Nf := 13) (ty := tyX8) cl11 dX8_layChain_246 ly_193 7 (by decide) t_335 rfl ?_
                refine z_iload (M := M_X8_layChain) dX8_layChain_249 rfl ?_
                obtain ⟨x_116, x_116_e, hi_117, H⟩ := rd_e H
                refine z_iald (M := M_X8_layChain) dX8_layChain_251 ly_204 rfl rfl rfl hi_117 x_116_e ?_
                refine z_iload (M := M_X8_layChain) dX8_layChain_252 rfl ?_
                rcases if_e H with ⟨h_118, H⟩ | ⟨h_118, H⟩
                · refine z_icmp_lt_t (M := M_X8_layChain) (tgt := 394) dX8_layChain_254 (by decide) rfl rfl h_118 ?_
                  refine z_iinc (M := M_X8_layChain) (lv' := [some (vr 193), some (vi i_0), some (zv x_20), some (vi x_32), some (vi x_44), some (vi (x_56 - x_32)), some (vi (x_68 - x_44)), some (vi x_70), some (vi x_72), some (vi x_74), some (vi size_77), some (vi column_78), some (vi (h_79 + 1))]) dX8_layChain_394 rfl (Nat.le_of_ble_eq_true rfl) rfl rfl ?_
                  refine z_goto (M := M_X8_layChain) (tgt := 224) dX8_layChain_397 (by decide) ?_
                  exact K_86 _ (Option.some.inj H).symm
                · refine z_icmp_lt_f (M := M_X8_layChain) (tgt := 394) dX8_layChain_254 (by decide) rfl rfl (Int.not_lt.mp h_118) ?_
                  refine z_aload_n (M := M_X8_layChain) dX8_layChain_257 rfl ?_
                  refine z_getR (M := M_X8_layChain) (ci := 11) (C := RX8) (T := TX8) (Nf := 13) (ty := tyX8) cl11 dX8_layChain_258 ly_193 7 (by decide) t_335 rfl ?_
                  refine z_iload (M := M_X8_layChain) dX8_layChain_261 rfl ?_
                  obtain ⟨x_120, x_120_e, hi_121, H⟩ := rd_e H
                  refine z_iald (M := M_X8_layChain) dX8_layChain_263 ly_204 rfl rfl rfl hi_121 x_120_e ?_
                  refine z_iload (M := M_X8_layChain) dX8_layChain_264 rfl ?_
                  rcases if_e H with ⟨h_122, H⟩ | ⟨h_122, H⟩
                  · refine z_icmp_gt_t (M := M_X8_layChain) (tgt := 394) dX8_layChain_266 (by decide) rfl rfl h_122 ?_
                    refine z_iinc (M := M_X8_layChain) (lv' := [some (vr 193), some (vi i_0), some (zv x_20), some (vi x_32), some (vi x_44), some (vi (x_56 - x_32)), some (vi (x_68 - x_44)), some (vi x_70), some (vi x_72), some (vi x_74), some (vi size_77), some (vi column_78), some (vi (h_79 + 1))]) dX8_layChain_394 rfl (Nat.le_of_ble_eq_true rfl) rfl rfl ?_
                    refine z_goto (M := M_X8_layChain) (tgt := 224) dX8_layChain_397 (by decide) ?_
                    exact K_86 _ (Option.some.inj H).symm
                  · refine z_icmp_gt_f (M := M_X8_layChain) (tgt := 394) dX8_layChain_266 (by decide) rfl rfl (Int.not_lt.mp h_122) ?_
                    refine z_iload (M := M_X8_layChain) dX8_layChain_269 rfl ?_
                    refine z_i2l (M := M_X8_layChain) dX8_layChain_271 ?_
                    refine z_iload (M := M_X8_layChain) dX8_layChain_272 rfl ?_
                    refine z_i2l (M := M_X8_layChain) dX8_layChain_274 ?_
                    refine z_ldc2 (M := M_X8_layChain) (n := 2) dX8_layChain_275 t_1448 (by decide +kernel) ?_
                    refine z_aload_n (M := M_X8_layChain) dX8_layChain_278 rfl ?_
                    refine z_getR (M := M_X8_layChain) (ci := 11) (C := RX8) (T := TX8) (Nf := 13) (ty := tyX8) cl11 dX8_layChain_279 ly_193 6 (by decide) t_333 rfl ?_
                    refine z_iload (M := M_X8_layChain) dX8_layChain_282 rfl ?_
                    obtain ⟨x_124, x_124_e, hi_125, H⟩ := rd_e H
                    refine z_iald (M := M_X8_layChain) dX8_layChain_284 ly_203 rfl rfl rfl hi_125 x_124_e ?_
                    refine z_i2l (M := M_X8_layChain) dX8_layChain_285 ?_
                    refine z_lmul (M := M_X8_layChain) dX8_layChain_286 ?_
                    refine z_ldc2 (M := M_X8_layChain) (n := 2) dX8_layChain_287 t_1448 (by decide +kernel) ?_
                    refine z_iload_n (M := M_X8_layChain) dX8_layChain_290 rfl ?_
                    refine z_i2l (M := M_X8_layChain) dX8_layChain_291 ?_
                    refine z_lmul (M := M_X8_layChain) dX8_layChain_292 ?_
                    refine z_lsub (M := M_X8_layChain) dX8_layChain_293 ?_
                    refine z_ldc2 (M := M_X8_layChain) (n := 2) dX8_layChain_294 t_1448 (by decide +kernel) ?_
                    refine z_aload_n (M := M_X8_layChain) dX8_layChain_297 rfl ?_
                    refine z_getR (M := M_X8_layChain) (ci := 11) (C := RX8) (T := TX8) (Nf := 13) (ty := tyX8) cl11 dX8_layChain_298 ly_193 7 (by decide) t_335 rfl ?_
                    refine z_iload (M := M_X8_layChain) dX8_layChain_301 rfl ?_
                    obtain ⟨x_126, x_126_e, hi_127, H⟩ := rd_e H
                    refine z_iald (M := M_X8_layChain) dX8_layChain_303 ly_204 rfl rfl rfl hi_127 x_126_e ?_
                    refine z_i2l (M := M_X8_layChain) dX8_layChain_304 ?_
                    refine z_lmul (M := M_X8_layChain) dX8_layChain_305 ?_
                    refine z_ldc2 (M := M_X8_layChain) (n := 2) dX8_layChain_306 t_1448 (by decide +kernel) ?_
                    refine z_iload (M := M_X8_layChain) dX8_layChain_309 rfl ?_
                    refine z_i2l (M := M_X8_layChain) dX8_layChain_311 ?_
                    refine z_lmul (M := M_X8_layChain) dX8_layChain_312 ?_
                    refine z_lsub (M := M_X8_layChain) dX8_layChain_313 ?_
                    refine z_callS (M := M_X8_layChain) (M' := M_X8_meetsPixel) (as := [vl (w32 (x_56 - x_32)), vl (w32 (x_68 - x_44)), vl ((2 * (w32 x_124)) - (2 * (w32 x_32))), vl ((2 * (w32 x_126)) - (2 * (w32 x_44)))]) (rest := []) rfl rfl dX8_layChain_314 m_X8_meetsPixel t_1473 t_1474 (c_X8_meetsPixel hl  rfl) rfl rfl (Nat.le_of_ble_eq_true rfl) (Nat.le_of_ble_eq_true rfl) (Nat.le_of_ble_eq_true rfl) (Nat.le_of_ble_eq_true rfl) ?_
                    refine z_st (st' := [zv (fN_meetsPixel (w32 (x_56 - x_32)) (w32 (x_68 - x_44)) ((2 * (w32 x_124)) - (2 * (w32 x_32))) ((2 * (w32 x_126)) - (2 * (w32 x_44))))]) rfl ?_
                    rcases if_e H with ⟨h_128, H⟩ | ⟨h_128, H⟩
                    · refine z_zne_t (M := M_X8_layChain) (tgt := 323) dX8_layChain_317 (by decide) h_128 ?_
                      obtain ⟨v_167, he_168, hk_169⟩ := bd_e H
                      have J_170 : ∀ x_152, v_167 = x_152 → YY l E M_X8_layChain 2 0 0 (pS (some (vi r)) σ') 360 [some (vr 193), some (vi i_0), some (zv x_20), some (vi x_32), some (vi x_44), some (vi (x_56 - x_32)), some (vi (x_68 - x_44)), some (vi x_70), some (vi x_72), some (vi x_74), some (vi size_77), some (vi column_78), some (vi h_79)] [vi x_152] σ_80 0 0 := by
                        intro x_152 e
                        have H := hk_169
                        rw [e] at H
                        refine z_istore (M := M_X8_layChain) (lv' := [some (vr 193), some (vi i_0), some (zv x_20), some (vi x_32), some (vi x_44), some (vi (x_56 - x_32)), some (vi (x_68 - x_44)), some (vi x_70), some (vi x_72), some (vi x_74), some (vi size_77), some (vi x_152), some (vi h_79)]) dX8_layChain_360 (Nat.le_of_ble_eq_true rfl) rfl rfl ?_
                        refine z_aload_n (M := M_X8_layChain) dX8_layChain_362 rfl ?_
                        refine z_getR (M := M_X8_layChain) (ci := 11) (C := RX8) (T := TX8) (Nf := 13) (ty := tyX8) cl11 dX8_layChain_363 ly_193 5 (by decide) t_332 rfl ?_
                        refine z_iload (M := M_X8_layChain) dX8_layChain_366 rfl ?_
                        refine z_iload (M := M_X8_layChain) dX8_layChain_368 rfl ?_
                        obtain ⟨σ_153, σ_153_e, hi_154, H⟩ := wa_e H
                        refine z_iast (M := M_X8_layChain) dX8_layChain_370 ly_202 rfl rfl rfl hi_154 σ_153_e ?_
                        refine z_iinc (M := M_X8_layChain) (lv' := [some (vr 193), some (vi i_0), some (zv x_20), some (vi x_32), some (vi x_44), some (vi (x_56 - x_32)), some (vi (x_68 - x_44)), some (vi x_70), some (vi x_72), some (vi x_74), some (vi (size_77 + 1)), some (vi x_152), some (vi h_79)]) dX8_layChain_371 rfl (Nat.le_of_ble_eq_true rfl) rfl rfl ?_
                        obtain ⟨v_158, he_155, hk_156⟩ := bd_e H
                        have J_166 : ∀ σ_164, v_158 = σ_164 → YY l E M_X8_layChain 2 0 0 (pS (some (vi r)) σ') 394 [some (vr 193), some (vi i_0), some (zv x_20), some (vi x_32), some (vi x_44), some (vi (x_56 - x_32)), some (vi (x_68 - x_44)), some (vi x_70), some (vi x_72), some (vi x_74), some (vi (size_77 + 1)), some (vi x_152), some (vi h_79)] [] σ_164 0 0 := by
                          intro σ_164 e
                          have H := hk_156
                          rw [e] at H
                          refine z_iinc (M := M_X8_layChain) (lv' := [some (vr 193), some (vi i_0), some (zv x_20), some (vi x_32), some (vi x_44), some (vi (x_56 - x_32)), some (vi (x_68 - x_44)), some (vi x_70), some (vi x_72), some (vi x_74), some (vi (size_77 + 1)), some (vi x_152), some (vi (h_79 + 1))]) dX8_layChain_394 rfl (Nat.le_of_ble_eq_true rfl) rfl rfl ?_
                          refine z_goto (M := M_X8_layChain) (tgt := 224) dX8_layChain_397 (by decide) ?_
                          exact K_86 _ (Option.some.inj H).symm
                        have H := he_155
                        refine z_iload (M := M_X8_layChain) dX8_layChain_374 rfl ?_
                        rcases if_e H with ⟨h_159, H⟩ | ⟨h_159, H⟩
                        · refine z_if_ge_f (M := M_X8_layChain) (tgt := 394) dX8_layChain_376 (by decide) rfl h_159 ?_
                          refine z_aload_n (M := M_X8_layChain) dX8_layChain_379 rfl ?_
                          refine z_iload (M := M_X8_layChain) dX8_layChain_380 rfl ?_
                          refine z_iconst (M := M_X8_layChain) dX8_layChain_382 ?_
                          refine z_isub (M := M_X8_layChain) dX8_layChain_383 ?_
                          refine z_iload (M := M_X8_layChain) dX8_layChain_384 rfl ?_
                          refine z_isub (M := M_X8_layChain) dX8_layChain_386 ?_
                          refine z_iload (M := M_X8_layChain) dX8_layChain_387 rfl ?_
                          refine z_iconst (M := M_X8_layChain) dX8_layChain_389 ?_
                          refine z_isub (M := M_X8_layChain) dX8_layChain_390 ?_
                          obtain ⟨σ_161, hc_160, H⟩ := bd_e H
                          refine z_callV (M := M_X8_layChain) (M' := M_X8_moveToFront) (as := [vi (((size_77 + 1) - 1) - x_152), vi ((size_77 + 1) - 1)]) (rest := []) rfl rfl dX8_layChain_391 m_X8_moveToFront t_1476 t_1478 s_78 (c_X8_moveToFront hl  hc_160) rfl rfl ly_193 rfl (Nat.le_of_ble_eq_true rfl) (Nat.le_of_ble_eq_true rfl) (Nat.le_of_ble_eq_true rfl) (Nat.le_of_ble_eq_true rfl) ?_
                          refine z_st (st' := []) rfl ?_
                          exact J_166 _ (Option.some.inj H).symm
                        · refine z_if_ge_t (M := M_X8_layChain) (tgt := 394) dX8_layChain_376 (by decide) rfl (Int.not_lt.mp h_159) ?_
                          exact J_166 _ (Option.some.inj H).symm
                      have H := he_168
                      refine z_iload (M := M_X8_layChain) dX8_layChain_323 rfl ?_
                      rcases if_e H with ⟨h_141, H⟩ | ⟨h_141, H⟩
                      · refine z_if_le_f (M := M_X8_layChain) (tgt := 359) dX8_layChain_325 (by decide) rfl h_141 ?_
                        refine z_aload_n (M := M_X8_layChain) dX8_layChain_328 rfl ?_
                        refine z_getR (M := M_X8_layChain) (ci := 11) (C := RX8) (T := TX8) (Nf := 13) (ty := tyX8) cl11 dX8_layChain_329 ly_193 6 (by decide) t_333 rfl ?_
                        refine z_aload_n (M := M_X8_layChain) dX8_layChain_332 rfl ?_
                        refine z_getR (M := M_X8_layChain) (ci := 11) (C := RX8) (T := TX8) (Nf := 13) (ty := tyX8) cl11 dX8_layChain_333 ly_193 5 (by decide) t_332 rfl ?_
                        refine z_iload (M := M_X8_layChain) dX8_layChain_336 rfl ?_
                        refine z_iconst (M := M_X8_layChain) dX8_layChain_338 ?_
                        refine z_isub (M := M_X8_layChain) dX8_layChain_339 ?_
                        obtain ⟨x_142, x_142_e, hi_143, H⟩ := rd_e H
                        refine z_iald (M := M_X8_layChain) dX8_layChain_340 ly_202 rfl rfl rfl hi_143 x_142_e ?_
                        obtain ⟨x_144, x_144_e, hi_145, H⟩ := rd_e H
                        refine z_iald (M := M_X8_layChain) dX8_layChain_341 ly_203 rfl rfl rfl hi_145 x_144_e ?_
                        refine z_aload_n (M := M_X8_layChain) dX8_layChain_342 rfl ?_
                        refine z_getR (M := M_X8_layChain) (ci := 11) (C := RX8) (T := TX8) (Nf := 13) (ty := tyX8) cl11 dX8_layChain_343 ly_193 6 (by decide) t_333 rfl ?_
                        refine z_iload (M := M_X8_layChain) dX8_layChain_346 rfl ?_
                        obtain ⟨x_146, x_146_e, hi_147, H⟩ := rd_e H
                        refine z_iald (M := M_X8_layChain) dX8_layChain_348 ly_203 rfl rfl rfl hi_147 x_146_e ?_
                        rcases if_e H with ⟨h_148, H⟩ | ⟨h_148, H⟩
                        · refine z_icmp_ne_f (M := M_X8_layChain) (tgt := 359) dX8_layChain_349 (by decide) rfl rfl h_148 ?_
                          refine z_iload (M := M_X8_layChain) dX8_layChain_352 rfl ?_
                          refine z_iconst (M := M_X8_layChain) dX8_layChain_354 ?_
                          refine z_iadd (M := M_X8_layChain) dX8_layChain_355 ?_
                          refine z_goto (M := M_X8_layChain) (tgt := 360) dX8_layChain_356 (by decide) ?_
                          exact J_170 _ (Option.some.inj H).symm
                        · refine z_icmp_ne_t (M := M_X8_layChain) (tgt := 359) dX8_layChain_349 (by decide) rfl rfl h_148 ?_
                          refine z_iconst (M := M_X8_layChain) dX8_layChain_359 ?_
                          exact J_170 _ (Option.some.inj H).symm
                      · refine z_if_le_t (M := M_X8_layChain) (tgt := 359) dX8_layChain_325 (by decide) rfl (Int.not_lt.mp h_141) ?_
                        refine z_iconst (M := M_X8_layChain) dX8_layChain_359 ?_
                        exact J_170 _ (Option.some.inj H).symm
                    · refine z_zne_f (M := M_X8_layChain) (tgt := 323) dX8_layChain_317 (by decide) h_128 ?_
                      refine z_goto (M := M_X8_layChain) (tgt := 394) dX8_layChain_320 (by decide) ?_
                      refine z_iinc (M := M_X8_layChain) (lv' := [some (vr 193), some (vi i_0), some (zv x_20), some (vi x_32), some (vi x_44), some (vi (x_56 - x_32)), some (vi (x_68 - x_44)), some (vi x_70), some (vi x_72), some (vi x_74), some (vi size_77), some (vi column_78), some (vi (h_79 + 1))]) dX8_layChain_394 rfl (Nat.le_of_ble_eq_true rfl) rfl rfl ?_
                      refine z_goto (M := M_X8_layChain) (tgt := 224) dX8_layChain_397 (by decide) ?_
                      exact K_86 _ (Option.some.inj H).symm
              · refine z_icmp_gt_t (M := M_X8_layChain) (tgt := 400) dX8_layChain_242 (by decide) rfl rfl (Int.not_le.mp h_99) ?_
                exact J_178 _ _ _ _ (K_87 _ (Option.some.inj H).symm).symm
            · refine z_icmp_ge_t (M := M_X8_layChain) (tgt := 400) dX8_layChain_230 (by decide) rfl rfl (Int.not_lt.mp h_96) ?_
              exact J_178 _ _ _ _ (K_87 _ (Option.some.inj H).symm).symm
          have H := he_180
          refine z_zload_n (M := M_X8_layChain) dX8_layChain_151 rfl ?_
          rcases if_e H with ⟨h_61, H⟩ | ⟨h_61, H⟩
          · refine z_zeq_f (M := M_X8_layChain) (tgt := 167) dX8_layChain_152 (by decide) h_61 ?_
            refine z_aload_n (M := M_X8_layChain) dX8_layChain_155 rfl ?_
            refine z_getR (M := M_X8_layChain) (ci := 11) (C := RX8) (T := TX8) (Nf := 13) (ty := tyX8) cl11 dX8_layChain_156 ly_193 0 (by decide) t_327 rfl ?_
            refine z_getR (M := M_X8_layChain) (ci := 8) (C := RX5) (T := TX5) (Nf := 8) (ty := tyX5) cl8 dX8_layChain_159 (ly_G (by decide)) 1 (by decide) t_239 rfl ?_
            refine z_iload_n (M := M_X8_layChain) dX8_layChain_162 rfl ?_
            obtain ⟨x_62, x_62_e, hi_63, H⟩ := rd_e H
            refine z_iald (M := M_X8_layChain) dX8_layChain_163 ly_196 rfl rfl rfl hi_63 x_62_e ?_
            refine z_goto (M := M_X8_layChain) (tgt := 176) dX8_layChain_164 (by decide) ?_
            exact J_182 _ (Option.some.inj H).symm
          · refine z_zeq_t (M := M_X8_layChain) (tgt := 167) dX8_layChain_152 (by decide) h_61 ?_
            refine z_aload_n (M := M_X8_layChain) dX8_layChain_167 rfl ?_
            refine z_getR (M := M_X8_layChain) (ci := 11) (C := RX8) (T := TX8) (Nf := 13) (ty := tyX8) cl11 dX8_layChain_168 ly_193 0 (by decide) t_327 rfl ?_
            refine z_getR (M := M_X8_layChain) (ci := 8) (C := RX5) (T := TX5) (Nf := 8) (ty := tyX5) cl8 dX8_layChain_171 (ly_G (by decide)) 3 (by decide) t_247 rfl ?_
            refine z_iload_n (M := M_X8_layChain) dX8_layChain_174 rfl ?_
            obtain ⟨x_65, x_65_e, hi_66, H⟩ := rd_e H
            refine z_iald (M := M_X8_layChain) dX8_layChain_175 ly_198 rfl rfl rfl hi_66 x_65_e ?_
            exact J_182 _ (Option.some.inj H).symm
        have H := he_184
        refine z_zload_n (M := M_X8_layChain) dX8_layChain_122 rfl ?_
        rcases if_e H with ⟨h_49, H⟩ | ⟨h_49, H⟩
        · refine z_zeq_f (M := M_X8_layChain) (tgt := 138) dX8_layChain_123 (by decide) h_49 ?_
          refine z_aload_n (M := M_X8_layChain) dX8_layChain_126 rfl ?_
          refine z_getR (M := M_X8_layChain) (ci := 11) (C := RX8) (T := TX8) (Nf := 13) (ty := tyX8) cl11 dX8_layChain_127 ly_193 0 (by decide) t_327 rfl ?_
          refine z_getR (M := M_X8_layChain) (ci := 8) (C := RX5) (T := TX5) (Nf := 8) (ty := tyX5) cl8 dX8_layChain_130 (ly_G (by decide)) 0 (by decide) t_235 rfl ?_
          refine z_iload_n (M := M_X8_layChain) dX8_layChain_133 rfl ?_
          obtain ⟨x_50, x_50_e, hi_51, H⟩ := rd_e H
          refine z_iald (M := M_X8_layChain) dX8_layChain_134 ly_195 rfl rfl rfl hi_51 x_50_e ?_
          refine z_goto (M := M_X8_layChain) (tgt := 147) dX8_layChain_135 (by decide) ?_
          exact J_186 _ (Option.some.inj H).symm
        · refine z_zeq_t (M := M_X8_layChain) (tgt := 138) dX8_layChain_123 (by decide) h_49 ?_
          refine z_aload_n (M := M_X8_layChain) dX8_layChain_138 rfl ?_
          refine z_getR (M := M_X8_layChain) (ci := 11) (C := RX8) (T := TX8) (Nf := 13) (ty := tyX8) cl11 dX8_layChain_139 ly_193 0 (by decide) t_327 rfl ?_
          refine z_getR (M := M_X8_layChain) (ci := 8) (C := RX5) (T := TX5) (Nf := 8) (ty := tyX5) cl8 dX8_layChain_142 (ly_G (by decide)) 2 (by decide) t_243 rfl ?_
          refine z_iload_n (M := M_X8_layChain) dX8_layChain_145 rfl ?_
          obtain ⟨x_53, x_53_e, hi_54, H⟩ := rd_e H
          refine z_iald (M := M_X8_layChain) dX8_layChain_146 ly_197 rfl rfl rfl hi_54 x_53_e ?_
          exact J_186 _ (Option.some.inj H).symm
      have H := he_188
      refine z_zload_n (M := M_X8_layChain) dX8_layChain_95 rfl ?_
      rcases if_e H with ⟨h_37, H⟩ | ⟨h_37, H⟩
      · refine z_zeq_f (M := M_X8_layChain) (tgt := 111) dX8_layChain_96 (by decide) h_37 ?_
        refine z_aload_n (M := M_X8_layChain) dX8_layChain_99 rfl ?_
        refine z_getR (M := M_X8_layChain) (ci := 11) (C := RX8) (T := TX8) (Nf := 13) (ty := tyX8) cl11 dX8_layChain_100 ly_193 0 (by decide) t_327 rfl ?_
        refine z_getR (M := M_X8_layChain) (ci := 8) (C := RX5) (T := TX5) (Nf := 8) (ty := tyX5) cl8 dX8_layChain_103 (ly_G (by decide)) 3 (by decide) t_247 rfl ?_
        refine z_iload_n (M := M_X8_layChain) dX8_layChain_106 rfl ?_
        obtain ⟨x_38, x_38_e, hi_39, H⟩ := rd_e H
        refine z_iald (M := M_X8_layChain) dX8_layChain_107 ly_198 rfl rfl rfl hi_39 x_38_e ?_
        refine z_goto (M := M_X8_layChain) (tgt := 120) dX8_layChain_108 (by decide) ?_
        exact J_190 _ (Option.some.inj H).symm
      · refine z_zeq_t (M := M_X8_layChain) (tgt := 111) dX8_layChain_96 (by decide) h_37 ?_
        refine z_aload_n (M := M_X8_layChain) dX8_layChain_111 rfl ?_
        refine z_getR (M := M_X8_layChain) (ci := 11) (C := RX8) (T := TX8) (Nf := 13) (ty := tyX8) cl11 dX8_layChain_112 ly_193 0 (by decide) t_327 rfl ?_
        refine z_getR (M := M_X8_layChain) (ci := 8) (C := RX5) (T := TX5) (Nf := 8) (ty := tyX5) cl8 dX8_layChain_115 (ly_G (by decide)) 1 (by decide) t_239 rfl ?_
        refine z_iload_n (M := M_X8_layChain) dX8_layChain_118 rfl ?_
        obtain ⟨x_41, x_41_e, hi_42, H⟩ := rd_e H
        refine z_iald (M := M_X8_layChain) dX8_layChain_119 ly_196 rfl rfl rfl hi_42 x_41_e ?_
        exact J_190 _ (Option.some.inj H).symm
    have H := he_192
    refine z_zload_n (M := M_X8_layChain) dX8_layChain_69 rfl ?_
    rcases if_e H with ⟨h_25, H⟩ | ⟨h_25, H⟩
    · refine z_zeq_f (M := M_X8_layChain) (tgt := 85) dX8_layChain_70 (by decide) h_25 ?_
      refine z_aload_n (M := M_X8_layChain) dX8_layChain_73 rfl ?_
      refine z_getR (M := M_X8_layChain) (ci := 11) (C := RX8) (T := TX8) (Nf := 13) (ty := tyX8) cl11 dX8_layChain_74 ly_193 0 (by decide) t_327 rfl ?_
      refine z_getR (M := M_X8_layChain) (ci := 8) (C := RX5) (T := TX5) (Nf := 8) (ty := tyX5) cl8 dX8_layChain_77 (ly_G (by decide)) 2 (by decide) t_243 rfl ?_
      refine z_iload_n (M := M_X8_layChain) dX8_layChain_80 rfl ?_
      obtain ⟨x_26, x_26_e, hi_27, H⟩ := rd_e H
      refine z_iald (M := M_X8_layChain) dX8_layChain_81 ly_197 rfl rfl rfl hi_27 x_26_e ?_
      refine z_goto (M := M_X8_layChain) (tgt := 94) dX8_layChain_82 (by decide) ?_
      exact J_194 _ (Option.some.inj H).symm
    · refine z_zeq_t (M := M_X8_layChain) (tgt := 85) dX8_layChain_70 (by decide) h_25 ?_
      refine z_aload_n (M := M_X8_layChain) dX8_layChain_85 rfl ?_
      refine z_getR (M := M_X8_layChain) (ci := 11) (C := RX8) (T := TX8) (Nf := 13) (ty := tyX8) cl11 dX8_layChain_86 ly_193 0 (by decide) t_327 rfl ?_
      refine z_getR (M := M_X8_layChain) (ci := 8) (C := RX5) (T := TX5) (Nf := 8) (ty := tyX5) cl8 dX8_layChain_89 (ly_G (by decide)) 0 (by decide) t_235 rfl ?_
      refine z_iload_n (M := M_X8_layChain) dX8_layChain_92 rfl ?_
      obtain ⟨x_29, x_29_e, hi_30, H⟩ := rd_e H
      refine z_iald (M := M_X8_layChain) dX8_layChain_93 ly_195 rfl rfl rfl hi_30 x_29_e ?_
      exact J_194 _ (Option.some.inj H).symm
  have H := he_196
  refine z_aload_n (M := M_X8_layChain) dX8_layChain_0 rfl ?_
  refine z_getR (M := M_X8_layChain) (ci := 11) (C := RX8) (T := TX8) (Nf := 13) (ty := tyX8) cl11 dX8_layChain_1 ly_193 0 (by decide) t_327 rfl ?_
  refine z_getR (M := M_X8_layChain) (ci := 8) (C := RX5) (T := TX5) (Nf := 8) (ty := tyX5) cl8 dX8_layChain_4 (ly_G (by decide)) 0 (by decide) t_235 rfl ?_
  refine z_iload_n (M := M_X8_layChain) dX8_layChain_7 rfl ?_
  obtain ⟨x_1, x_1_e, hi_2, H⟩ := rd_e H
  refine z_iald (M := M_X8_layChain) dX8_layChain_8 ly_195 rfl rfl rfl hi_2 x_1_e ?_
  refine z_aload_n (M := M_X8_layChain) dX8_layChain_9 rfl ?_
  refine z_getR (M := M_X8_layChain) (ci := 11) (C := RX8) (T := TX8) (Nf := 13) (ty := tyX8) cl11 dX8_layChain_10 ly_193 0 (by decide) t_327 rfl ?_
  refine z_getR (M := M_X8_layChain) (ci := 8) (C := RX5) (T := TX5) (Nf := 8) (ty := tyX5) cl8 dX8_layChain_13 (ly_G (by decide)) 2 (by decide) t_243 rfl ?_
  refine z_iload_n (M := M_X8_layChain) dX8_layChain_16 rfl ?_
  obtain ⟨x_3, x_3_e, hi_4, H⟩ := rd_e H
  refine z_iald (M := M_X8_layChain) dX8_layChain_17 ly_197 rfl rfl rfl hi_4 x_3_e ?_
  rcases if_e H with ⟨h_5, H⟩ | ⟨h_5, H⟩
  · refine z_icmp_gt_t (M := M_X8_layChain) (tgt := 63) dX8_layChain_18 (by decide) rfl rfl h_5 ?_
    refine z_zconst (M := M_X8_layChain) (b := true) dX8_layChain_63 rfl ?_
    refine z_goto (M := M_X8_layChain) (tgt := 68) dX8_layChain_64 (by decide) ?_
    exact J_198 _ (Option.some.inj H).symm
  · refine z_icmp_gt_f (M := M_X8_layChain) (tgt := 63) dX8_layChain_18 (by decide) rfl rfl (Int.not_lt.mp h_5) ?_
    refine z_aload_n (M := M_X8_layChain) dX8_layChain_21 rfl ?_
    refine z_getR (M := M_X8_layChain) (ci := 11) (C := RX8) (T := TX8) (Nf := 13) (ty := tyX8) cl11 dX8_layChain_22 ly_193 0 (by decide) t_327 rfl ?_
    refine z_getR (M := M_X8_layChain) (ci := 8) (C := RX5) (T := TX5) (Nf := 8) (ty := tyX5) cl8 dX8_layChain_25 (ly_G (by decide)) 0 (by decide) t_235 rfl ?_
    refine z_iload_n (M := M_X8_layChain) dX8_layChain_28 rfl ?_
    obtain ⟨x_7, x_7_e, hi_8, H⟩ := rd_e H
    refine z_iald (M := M_X8_layChain) dX8_layChain_29 ly_195 rfl rfl rfl hi_8 x_7_e ?_
    refine z_aload_n (M := M_X8_layChain) dX8_layChain_30 rfl ?_
    refine z_getR (M := M_X8_layChain) (ci := 11) (C := RX8) (T := TX8) (Nf := 13) (ty := tyX8) cl11 dX8_layChain_31 ly_193 0 (by decide) t_327 rfl ?_
    refine z_getR (M := M_X8_layChain) (ci := 8) (C := RX5) (T := TX5) (Nf := 8) (ty := tyX5) cl8 dX8_layChain_34 (ly_G (by decide)) 2 (by decide) t_243 rfl ?_
    refine z_iload_n (M := M_X8_layChain) dX8_layChain_37 rfl ?_
    obtain ⟨x_9, x_9_e, hi_10, H⟩ := rd_e H
    refine z_iald (M := M_X8_layChain) dX8_layChain_38 ly_197 rfl rfl rfl hi_10 x_9_e ?_
    rcases if_e H with ⟨h_11, H⟩ | ⟨h_11, H⟩
    · refine z_icmp_ne_f (M := M_X8_layChain) (tgt := 67) dX8_layChain_39 (by decide) rfl rfl h_11 ?_
      refine z_aload_n (M := M_X8_layChain) dX8_layChain_42 rfl ?_
      refine z_getR (M := M_X8_layChain) (ci := 11) (C := RX8) (T := TX8) (Nf := 13) (ty := tyX8) cl11 dX8_layChain_43 ly_193 0 (by decide) t_327 rfl ?_
      refine z_getR (M := M_X8_layChain) (ci := 8) (C := RX5) (T := TX5) (Nf := 8) (ty := tyX5) cl8 dX8_layChain_46 (ly_G (by decide)) 1 (by decide) t_239 rfl ?_
      refine z_iload_n (M := M_X8_layChain) dX8_layChain_49 rfl ?_
      obtain ⟨x_12, x_12_e, hi_13, H⟩ := rd_e H
      refine z_iald (M := M_X8_layChain) dX8_layChain_50 ly_196 rfl rfl rfl hi_13 x_12_e ?_
      refine z_aload_n (M := M_X8_layChain) dX8_layChain_51 rfl ?_
      refine z_getR (M := M_X8_layChain) (ci := 11) (C := RX8) (T := TX8) (Nf := 13) (ty := tyX8) cl11 dX8_layChain_52 ly_193 0 (by decide) t_327 rfl ?_
      refine z_getR (M := M_X8_layChain) (ci := 8) (C := RX5) (T := TX5) (Nf := 8) (ty := tyX5) cl8 dX8_layChain_55 (ly_G (by decide)) 3 (by decide) t_247 rfl ?_
      refine z_iload_n (M := M_X8_layChain) dX8_layChain_58 rfl ?_
      obtain ⟨x_14, x_14_e, hi_15, H⟩ := rd_e H
      refine z_iald (M := M_X8_layChain) dX8_layChain_59 ly_198 rfl rfl rfl hi_15 x_14_e ?_
      rcases if_e H with ⟨h_16, H⟩ | ⟨h_16, H⟩
      · refine z_icmp_le_f (M := M_X8_layChain) (tgt := 67) dX8_layChain_60 (by decide) rfl rfl h_16 ?_
        refine z_zconst (M := M_X8_layChain) (b := true) dX8_layChain_63 rfl ?_
        refine z_goto (M := M_X8_layChain) (tgt := 68) dX8_layChain_64 (by decide) ?_
        exact J_198 _ (Option.some.inj H).symm
      · refine z_icmp_le_t (M := M_X8_layChain) (tgt := 67) dX8_layChain_60 (by decide) rfl rfl (Int.not_lt.mp h_16) ?_
        refine z_zconst (M := M_X8_layChain) (b := false) dX8_layChain_67 rfl ?_
        exact J_198 _ (Option.some.inj H).symm
    · refine z_icmp_ne_t (M := M_X8_layChain) (tgt := 67) dX8_layChain_39 (by decide) rfl rfl h_11 ?_
      refine z_zconst (M := M_X8_layChain) (b := false) dX8_layChain_67 rfl ?_
      exact J_198 _ (Option.some.inj H).symm
theorem c_X8_leavePieces (hl : l.stackTraces = false) {σ : SG} {told_0 : Int} {σ' : SG}  (H : fN_leavePieces σ told_0 = some σ') : en_S l E M_X8_leavePieces 1 0 0 [vr 193, vi told_0] σ (pS (none) σ') := by
  unfold fN_leavePieces at H
  refine z_mk (lv := [some (vr 193), some (vi told_0), none, none, none, none]) m_X8_leavePieces rfl hl (Nat.le_of_ble_eq_true rfl) rfl ?_
  refine z_aload_n (M := M_X8_leavePieces) dX8_leavePieces_0 rfl ?_
  refine z_iconst (M := M_X8_leavePieces) dX8_leavePieces_1 ?_
  obtain ⟨σ_1, σ_1_e, H⟩ := wf_e H
  refine z_putI (M := M_X8_leavePieces) (ci := 11) (C := RX8) (T := TX8) (Nf := 13) (ty := tyX8) cl11 dX8_leavePieces_2 ly_193 12 (by decide) t_346 rfl rfl rfl rfl σ_1_e ?_
  refine z_iconst (M := M_X8_leavePieces) dX8_leavePieces_5 ?_
  refine z_istore_n (M := M_X8_leavePieces) (lv' := [some (vr 193), some (vi told_0), some (vi 0), none, none, none]) dX8_leavePieces_6 (Nat.le_of_ble_eq_true rfl) rfl rfl ?_
  refine z_iconst (M := M_X8_leavePieces) dX8_leavePieces_7 ?_
  refine z_istore_n (M := M_X8_leavePieces) (lv' := [some (vr 193), some (vi told_0), some (vi 0), some (vi 0), none, none]) dX8_leavePieces_8 (Nat.le_of_ble_eq_true rfl) rfl rfl ?_
  obtain ⟨rl_8, hw_5, hk_6⟩ := bd_e H
  have J_76 : ∀ mask_73 i_74 σ_75, rl_8 = (mask_73, i_74, σ_75) → YY l E M_X8_leavePieces 1 0 0 (pS (none) σ') 127 [some (vr 193), some (vi told_0), some (vi mask_73), some (vi i_74), none, none] [] σ_75 0 0 := by
    intro mask_73 i_74 σ_75 e
    have H := hk_6
    rw [e] at H
    cases H
    exact z_vret (M := M_X8_leavePieces) dX8_leavePieces_127 rfl (Nat.le_of_ble_eq_true rfl) (Nat.le_of_ble_eq_true rfl) ⟨rfl, rfl⟩
  refine whl_go hw_5 (fun (mask_2, i_3, σ_4) => YY l E M_X8_leavePieces 1 0 0 (pS (none) σ') 9 [some (vr 193), some (vi told_0), some (vi mask_2), some (vi i_3), none, none] [] σ_4 0 0) ?_
  rintro ⟨mask_2, i_3, σ_4⟩ o_9 H K_10 K_11
  refine z_iload_n (M := M_X8_leavePieces) dX8_leavePieces_9 rfl ?_
  refine z_iload_n (M := M_X8_leavePieces) dX8_leavePieces_10 rfl ?_
  rcases if_e H with ⟨h_12, H⟩ | ⟨h_12, H⟩
  · refine z_icmp_ge_f (M := M_X8_leavePieces) (tgt := 127) dX8_leavePieces_11 (by decide) rfl rfl h_12 ?_
    refine z_aload_n (M := M_X8_leavePieces) dX8_leavePieces_14 rfl ?_
    refine z_getR (M := M_X8_leavePieces) (ci := 11) (C := RX8) (T := TX8) (Nf := 13) (ty := tyX8) cl11 dX8_leavePieces_15 ly_193 4 (by decide) t_331 rfl ?_
    refine z_iload_n (M := M_X8_leavePieces) dX8_leavePieces_18 rfl ?_
    obtain ⟨x_13, x_13_e, hi_14, H⟩ := rd_e H
    refine z_lald (M := M_X8_leavePieces) dX8_leavePieces_19 ly_201 rfl rfl rfl hi_14 x_13_e ?_
    refine z_iconst (M := M_X8_leavePieces) dX8_leavePieces_20 ?_
    refine z_lshr (M := M_X8_leavePieces) dX8_leavePieces_21 ?_
    refine z_lstore (M := M_X8_leavePieces) (lv' := [some (vr 193), some (vi told_0), some (vi mask_2), some (vi i_3), some (vl (q_lsr x_13 2)), none]) dX8_leavePieces_22 (Nat.le_of_ble_eq_true rfl) rfl rfl ?_
    refine z_iload_n (M := M_X8_leavePieces) dX8_leavePieces_24 rfl ?_
    refine z_aload_n (M := M_X8_leavePieces) dX8_leavePieces_25 rfl ?_
    refine z_getR (M := M_X8_leavePieces) (ci := 11) (C := RX8) (T := TX8) (Nf := 13) (ty := tyX8) cl11 dX8_leavePieces_26 ly_193 4 (by decide) t_331 rfl ?_
    refine z_iload_n (M := M_X8_leavePieces) dX8_leavePieces_29 rfl ?_
    obtain ⟨x_15, x_15_e, hi_16, H⟩ := rd_e H
    refine z_lald (M := M_X8_leavePieces) dX8_leavePieces_30 ly_201 rfl rfl rfl hi_16 x_15_e ?_
    refine z_ldc2 (M := M_X8_leavePieces) (n := 3) dX8_leavePieces_31 t_1486 (by decide +kernel) ?_
    refine z_land (M := M_X8_leavePieces) dX8_leavePieces_34 ?_
    refine z_l2i (M := M_X8_leavePieces) dX8_leavePieces_35 ?_
    refine z_ixor (M := M_X8_leavePieces) dX8_leavePieces_36 ?_
    refine z_istore_n (M := M_X8_leavePieces) (lv' := [some (vr 193), some (vi told_0), some (vi (q_ixo mask_2 (q_lan x_15 3))), some (vi i_3), some (vl (q_lsr x_13 2)), none]) dX8_leavePieces_37 (Nat.le_of_ble_eq_true rfl) rfl rfl ?_
    obtain ⟨v_67, he_68, hk_69⟩ := bd_e H
    have J_70 : v_67 = true → YY l E M_X8_leavePieces 1 0 0 (pS (none) σ') 61 [some (vr 193), some (vi told_0), some (vi (q_ixo mask_2 (q_lan x_15 3))), some (vi i_3), some (vl (q_lsr x_13 2)), none] [] σ_4 0 0 := by
      intro e
      have H := hk_69
      rw [e] at H
      rcases if_e H with ⟨_, H⟩ | ⟨q, H⟩
      · refine z_goto (M := M_X8_leavePieces) (tgt := 121) dX8_leavePieces_61 (by decide) ?_
        refine z_iinc (M := M_X8_leavePieces) (lv' := [some (vr 193), some (vi told_0), some (vi (q_ixo mask_2 (q_lan x_15 3))), some (vi (i_3 + 1)), some (vl (q_lsr x_13 2)), none]) dX8_leavePieces_121 rfl (Nat.le_of_ble_eq_true rfl) rfl rfl ?_
        refine z_goto (M := M_X8_leavePieces) (tgt := 9) dX8_leavePieces_124 (by decide) ?_
        refine z_le (lv' := [some (vr 193), some (vi told_0), some (vi (q_ixo mask_2 (q_lan x_15 3))), some (vi (i_3 + 1)), none, none]) ⟨Or.inr rfl, Or.inr rfl, Or.inr rfl, Or.inr rfl, Or.inl rfl, Or.inl rfl, trivial⟩ ?_
        exact K_10 _ (Option.some.inj H).symm
      · exact absurd rfl q
    have J_71 : v_67 = false → YY l E M_X8_leavePieces 1 0 0 (pS (none) σ') 64 [some (vr 193), some (vi told_0), some (vi (q_ixo mask_2 (q_lan x_15 3))), some (vi i_3), some (vl (q_lsr x_13 2)), none] [] σ_4 0 0 := by
      intro e
      have H := hk_69
      rw [e] at H
      rcases if_e H with ⟨q, H⟩ | ⟨_, H⟩
      · exact nomatch q
      · obtain ⟨v_53, he_50, hk_51⟩ := bd_e H
        have J_66 : ∀ σ_64, v_53 = σ_64 → YY l E M_X8_leavePieces 1 0 0 (pS (none) σ') 119 [some (vr 193), some (vi told_0), some (vi (q_ixo mask_2 (q_lan x_15 3))), some (vi i_3), some (vl (q_lsr x_13 2)), none] [] σ_64 0 0 := by
          intro σ_64 e
          have H := hk_51
          rw [e] at H
          refine z_iconst (M := M_X8_leavePieces) dX8_leavePieces_119 ?_
          refine z_istore_n (M := M_X8_leavePieces) (lv' := [some (vr 193), some (vi told_0), some (vi 0), some (vi i_3), some (vl (q_lsr x_13 2)), none]) dX8_leavePieces_120 (Nat.le_of_ble_eq_true rfl) rfl rfl ?_
          refine z_iinc (M := M_X8_leavePieces) (lv' := [some (vr 193), some (vi told_0), some (vi 0), some (vi (i_3 + 1)), some (vl (q_lsr x_13 2)), none]) dX8_leavePieces_121 rfl (Nat.le_of_ble_eq_true rfl) rfl rfl ?_
          refine z_goto (M := M_X8_leavePieces) (tgt := 9) dX8_leavePieces_124 (by decide) ?_
          refine z_le (lv' := [some (vr 193), some (vi told_0), some (vi 0), some (vi (i_3 + 1)), none, none]) ⟨Or.inr rfl, Or.inr rfl, Or.inr rfl, Or.inr rfl, Or.inl rfl, Or.inl rfl, trivial⟩ ?_
          exact K_10 _ (Option.some.inj H).symm
        have H := he_50
        refine z_iload_n (M := M_X8_leavePieces) dX8_leavePieces_64 rfl ?_
        rcases if_e H with ⟨h_54, H⟩ | ⟨h_54, H⟩
        · refine z_if_eq_f (M := M_X8_leavePieces) (tgt := 119) dX8_leavePieces_65 (by decide) rfl h_54 ?_
          refine z_aload_n (M := M_X8_leavePieces) dX8_leavePieces_68 rfl ?_
          refine z_getR (M := M_X8_leavePieces) (ci := 11) (C := RX8) (T := TX8) (Nf := 13) (ty := tyX8) cl11 dX8_leavePieces_69 ly_193 9 (by decide) t_339 rfl ?_
          refine z_aload_n (M := M_X8_leavePieces) dX8_leavePieces_72 rfl ?_
          refine z_getI (M := M_X8_leavePieces) (ci := 11) (C := RX8) (T := TX8) (Nf := 13) (ty := tyX8) cl11 dX8_leavePieces_73 ly_193 12 (by decide) t_346 rfl rfl ?_
          refine z_lload (M := M_X8_leavePieces) dX8_leavePieces_76 rfl ?_
          refine z_bipush (M := M_X8_leavePieces) dX8_leavePieces_78 (by decide +kernel) ?_
          refine z_lshr (M := M_X8_leavePieces) dX8_leavePieces_80 ?_
          refine z_l2i (M := M_X8_leavePieces) dX8_leavePieces_81 ?_
          obtain ⟨σ_55, σ_55_e, hi_56, H⟩ := wa_e H
          refine z_iast (M := M_X8_leavePieces) dX8_leavePieces_82 ly_205 rfl rfl rfl hi_56 σ_55_e ?_
          refine z_aload_n (M := M_X8_leavePieces) dX8_leavePieces_83 rfl ?_
          refine z_getR (M := M_X8_leavePieces) (ci := 11) (C := RX8) (T := TX8) (Nf := 13) (ty := tyX8) cl11 dX8_leavePieces_84 ly_193 10 (by decide) t_341 rfl ?_
          refine z_aload_n (M := M_X8_leavePieces) dX8_leavePieces_87 rfl ?_
          refine z_getI (M := M_X8_leavePieces) (ci := 11) (C := RX8) (T := TX8) (Nf := 13) (ty := tyX8) cl11 dX8_leavePieces_88 ly_193 12 (by decide) t_346 rfl rfl ?_
          refine z_lload (M := M_X8_leavePieces) dX8_leavePieces_91 rfl ?_
          refine z_ldc2 (M := M_X8_leavePieces) (n := 8191) dX8_leavePieces_93 t_1487 (by decide +kernel) ?_
          refine z_land (M := M_X8_leavePieces) dX8_leavePieces_96 ?_
          refine z_l2i (M := M_X8_leavePieces) dX8_leavePieces_97 ?_
          obtain ⟨σ_57, σ_57_e, hi_58, H⟩ := wa_e H
          refine z_iast (M := M_X8_leavePieces) dX8_leavePieces_98 ly_206 rfl rfl rfl hi_58 σ_57_e ?_
          refine z_aload_n (M := M_X8_leavePieces) dX8_leavePieces_99 rfl ?_
          refine z_getR (M := M_X8_leavePieces) (ci := 11) (C := RX8) (T := TX8) (Nf := 13) (ty := tyX8) cl11 dX8_leavePieces_100 ly_193 11 (by decide) t_343 rfl ?_
          refine z_aload_n (M := M_X8_leavePieces) dX8_leavePieces_103 rfl ?_
          refine z_getI (M := M_X8_leavePieces) (ci := 11) (C := RX8) (T := TX8) (Nf := 13) (ty := tyX8) cl11 dX8_leavePieces_104 ly_193 12 (by decide) t_346 rfl rfl ?_
          refine z_iload_n (M := M_X8_leavePieces) dX8_leavePieces_107 rfl ?_
          obtain ⟨σ_59, σ_59_e, hi_60, H⟩ := wa_e H
          refine z_iast (M := M_X8_leavePieces) dX8_leavePieces_108 ly_207 rfl rfl rfl hi_60 σ_59_e ?_
          refine z_aload_n (M := M_X8_leavePieces) dX8_leavePieces_109 rfl ?_
          refine z_dup (M := M_X8_leavePieces) dX8_leavePieces_110 rfl ?_
          refine z_getI (M := M_X8_leavePieces) (ci := 11) (C := RX8) (T := TX8) (Nf := 13) (ty := tyX8) cl11 dX8_leavePieces_111 ly_193 12 (by decide) t_346 rfl rfl ?_
          refine z_iconst (M := M_X8_leavePieces) dX8_leavePieces_114 ?_
          refine z_iadd (M := M_X8_leavePieces) dX8_leavePieces_115 ?_
          obtain ⟨σ_61, σ_61_e, H⟩ := wf_e H
          refine z_putI (M := M_X8_leavePieces) (ci := 11) (C := RX8) (T := TX8) (Nf := 13) (ty := tyX8) cl11 dX8_leavePieces_116 ly_193 12 (by decide) t_346 rfl rfl rfl rfl σ_61_e ?_
          exact J_66 _ (Option.some.inj H).symm
        · refine z_if_eq_t (M := M_X8_leavePieces) (tgt := 119) dX8_leavePieces_65 (by decide) rfl (Decidable.not_not.mp h_54) ?_
          exact J_66 _ (Option.some.inj H).symm
    have H := he_68
    refine z_iload_n (M := M_X8_leavePieces) dX8_leavePieces_38 rfl ?_
    refine z_iconst (M := M_X8_leavePieces) dX8_leavePieces_39 ?_
    refine z_iadd (M := M_X8_leavePieces) dX8_leavePieces_40 ?_
    refine z_iload_n (M := M_X8_leavePieces) dX8_leavePieces_41 rfl ?_
    rcases if_e H with ⟨h_41, H⟩ | ⟨h_41, H⟩
    · refine z_icmp_ge_f (M := M_X8_leavePieces) (tgt := 64) dX8_leavePieces_42 (by decide) rfl rfl h_41 ?_
      refine z_aload_n (M := M_X8_leavePieces) dX8_leavePieces_45 rfl ?_
      refine z_getR (M := M_X8_leavePieces) (ci := 11) (C := RX8) (T := TX8) (Nf := 13) (ty := tyX8) cl11 dX8_leavePieces_46 ly_193 4 (by decide) t_331 rfl ?_
      refine z_iload_n (M := M_X8_leavePieces) dX8_leavePieces_49 rfl ?_
      refine z_iconst (M := M_X8_leavePieces) dX8_leavePieces_50 ?_
      refine z_iadd (M := M_X8_leavePieces) dX8_leavePieces_51 ?_
      obtain ⟨x_42, x_42_e, hi_43, H⟩ := rd_e H
      refine z_lald (M := M_X8_leavePieces) dX8_leavePieces_52 ly_201 rfl rfl rfl hi_43 x_42_e ?_
      refine z_iconst (M := M_X8_leavePieces) dX8_leavePieces_53 ?_
      refine z_lshr (M := M_X8_leavePieces) dX8_leavePieces_54 ?_
      refine z_lload (M := M_X8_leavePieces) dX8_leavePieces_55 rfl ?_
      refine z_lcmp (M := M_X8_leavePieces) dX8_leavePieces_57 ?_
      rcases if_e H with ⟨h_44, H⟩ | ⟨h_44, H⟩
      · refine z_lif_ne_f (M := M_X8_leavePieces) (tgt := 64) dX8_leavePieces_58 (by decide) rfl rfl h_44 ?_
        exact J_70 (Option.some.inj H).symm
      · refine z_lif_ne_t (M := M_X8_leavePieces) (tgt := 64) dX8_leavePieces_58 (by decide) rfl rfl h_44 ?_
        exact J_71 (Option.some.inj H).symm
    · refine z_icmp_ge_t (M := M_X8_leavePieces) (tgt := 64) dX8_leavePieces_42 (by decide) rfl rfl (Int.not_lt.mp h_41) ?_
      exact J_71 (Option.some.inj H).symm
  · refine z_icmp_ge_t (M := M_X8_leavePieces) (tgt := 127) dX8_leavePieces_11 (by decide) rfl rfl (Int.not_lt.mp h_12) ?_
    exact J_76 _ _ _ (K_11 _ (Option.some.inj H).symm).symm
theorem c_X8_layChains (hl : l.stackTraces = false) {σ : SG} {r : Bool} {σ' : SG}  (H : fN_layChains σ = some (r, σ')) : en_S l E M_X8_layChains 3 0 0 [vr 193] σ (pS (some (zv r)) σ') := by
  unfold fN_layChains at H
  refine z_mk (lv := [some (vr 193), none, none, none, none, none, none, none, none, none]) m_X8_layChains rfl hl (Nat.le_of_ble_eq_true rfl) rfl ?_
  refine z_aload_n (M := M_X8_layChains) dX8_layChains_0 rfl ?_
  refine z_getI (M := M_X8_layChains) (ci := 11) (C := RX8) (T := TX8) (Nf := 13) (ty := tyX8) cl11 dX8_layChains_1 ly_193 1 (by decide) t_328 rfl rfl ?_
  refine z_istore_n (M := M_X8_layChains) (lv' := [some (vr 193), some (vi (σ kN_lengthless 0)), none, none, none, none, none, none, none, none]) dX8_layChains_4 (Nat.le_of_ble_eq_true rfl) rfl rfl ?_
  refine z_iconst (M := M_X8_layChains) dX8_layChains_5 ?_
  refine z_istore_n (M := M_X8_layChains) (lv' := [some (vr 193), some (vi (σ kN_lengthless 0)), some (vi 0), none, none, none, none, none, none, none]) dX8_layChains_6 (Nat.le_of_ble_eq_true rfl) rfl rfl ?_
  refine z_iconst (M := M_X8_layChains) dX8_layChains_7 ?_
  refine z_istore_n (M := M_X8_layChains) (lv' := [some (vr 193), some (vi (σ kN_lengthless 0)), some (vi 0), some (vi 0), none, none, none, none, none, none]) dX8_layChains_8 (Nat.le_of_ble_eq_true rfl) rfl rfl ?_
  obtain ⟨rl_8, hw_5, hk_6, hk_7⟩ := bx_e H
  have J_56 : ∀ places_48 told_49 i_50 σ_51, rl_8 = (.inl (places_48, told_49, i_50, σ_51)) → YY l E M_X8_layChains 3 0 0 (pS (some (zv r)) σ') 139 [some (vr 193), some (vi places_48), some (vi told_49), some (vi i_50), none, none, none, none, none, none] [] σ_51 0 0 := by
    intro places_48 told_49 i_50 σ_51 e
    have H := hk_6 _ e
    refine z_aload_n (M := M_X8_layChains) dX8_layChains_139 rfl ?_
    refine z_getR (M := M_X8_layChains) (ci := 11) (C := RX8) (T := TX8) (Nf := 13) (ty := tyX8) cl11 dX8_layChains_140 ly_193 4 (by decide) t_331 rfl ?_
    refine z_iload_n (M := M_X8_layChains) dX8_layChains_143 rfl ?_
    obtain ⟨σ_53, hc_52, H⟩ := bd_e H
    refine z_callSN (M := M_X8_layChains) (M' := M_X11_sortRow) (as := [vr 201, vi told_49]) (rest := []) rfl rfl dX8_layChains_144 m_X11_sortRow n_1416 t_1417 (c_X11_sortRow hl ly_201 hc_52) rfl rfl (Nat.le_of_ble_eq_true rfl) (Nat.le_of_ble_eq_true rfl) (Nat.le_of_ble_eq_true rfl) (Nat.le_of_ble_eq_true rfl) ?_
    refine z_st (st' := []) rfl ?_
    refine z_aload_n (M := M_X8_layChains) dX8_layChains_147 rfl ?_
    refine z_iload_n (M := M_X8_layChains) dX8_layChains_148 rfl ?_
    obtain ⟨σ_55, hc_54, H⟩ := bd_e H
    refine z_callV (M := M_X8_layChains) (M' := M_X8_leavePieces) (as := [vi told_49]) (rest := []) rfl rfl dX8_layChains_149 m_X8_leavePieces t_1482 t_1484 s_79 (c_X8_leavePieces hl  hc_54) rfl rfl ly_193 rfl (Nat.le_of_ble_eq_true rfl) (Nat.le_of_ble_eq_true rfl) (Nat.le_of_ble_eq_true rfl) (Nat.le_of_ble_eq_true rfl) ?_
    refine z_st (st' := []) rfl ?_
    refine z_zconst (M := M_X8_layChains) (b := true) dX8_layChains_152 rfl ?_
    cases H
    exact z_zret (M := M_X8_layChains) dX8_layChains_153 rfl (Nat.le_of_ble_eq_true rfl) (Nat.le_of_ble_eq_true rfl) ⟨rfl, rfl⟩
  refine whl_go hw_5 (fun (places_1, told_2, i_3, σ_4) => YY l E M_X8_layChains 3 0 0 (pS (some (zv r)) σ') 9 [some (vr 193), some (vi places_1), some (vi told_2), some (vi i_3), none, none, none, none, none, none] [] σ_4 0 0) ?_
  rintro ⟨places_1, told_2, i_3, σ_4⟩ o_9 H K_10 K_11
  refine z_iload_n (M := M_X8_layChains) dX8_layChains_9 rfl ?_
  refine z_aload_n (M := M_X8_layChains) dX8_layChains_10 rfl ?_
  refine z_getR (M := M_X8_layChains) (ci := 11) (C := RX8) (T := TX8) (Nf := 13) (ty := tyX8) cl11 dX8_layChains_11 ly_193 0 (by decide) t_327 rfl ?_
  refine z_getI (M := M_X8_layChains) (ci := 8) (C := RX5) (T := TX5) (Nf := 8) (ty := tyX5) cl8 dX8_layChains_14 (ly_G (by decide)) 5 (by decide) t_255 rfl rfl ?_
  rcases if_e H with ⟨h_12, H⟩ | ⟨h_12, H⟩
  · refine z_icmp_ge_f (M := M_X8_layChains) (tgt := 139) dX8_layChains_17 (by decide) rfl rfl h_12 ?_
    refine z_aload_n (M := M_X8_layChains) dX8_layChains_20 rfl ?_
    refine z_iload_n (M := M_X8_layChains) dX8_layChains_21 rfl ?_
    obtain ⟨⟨x_15, σ_14⟩, hc_13, H⟩ := bd_e H
    refine z_callV (M := M_X8_layChains) (M' := M_X8_layChain) (as := [vi i_3]) (rest := []) rfl rfl dX8_layChains_22 m_X8_layChain t_1463 t_1465 s_76 (c_X8_layChain hl  hc_13) rfl rfl ly_193 rfl (Nat.le_of_ble_eq_true rfl) (Nat.le_of_ble_eq_true rfl) (Nat.le_of_ble_eq_true rfl) (Nat.le_of_ble_eq_true rfl) ?_
    refine z_st (st' := [vi x_15]) rfl ?_
    refine z_istore (M := M_X8_layChains) (lv' := [some (vr 193), some (vi places_1), some (vi told_2), some (vi i_3), some (vi x_15), none, none, none, none, none]) dX8_layChains_25 (Nat.le_of_ble_eq_true rfl) rfl rfl ?_
    refine z_iload_n (M := M_X8_layChains) dX8_layChains_27 rfl ?_
    refine z_iload (M := M_X8_layChains) dX8_layChains_28 rfl ?_
    refine z_iadd (M := M_X8_layChains) dX8_layChains_30 ?_
    refine z_istore_n (M := M_X8_layChains) (lv' := [some (vr 193), some (vi (places_1 + x_15)), some (vi told_2), some (vi i_3), some (vi x_15), none, none, none, none, none]) dX8_layChains_31 (Nat.le_of_ble_eq_true rfl) rfl rfl ?_
    refine z_iload_n (M := M_X8_layChains) dX8_layChains_32 rfl ?_
    refine z_sipush (M := M_X8_layChains) dX8_layChains_33 (by decide +kernel) ?_
    rcases if_e H with ⟨h_16, H⟩ | ⟨h_16, H⟩
    · refine z_icmp_le_f (M := M_X8_layChains) (tgt := 41) dX8_layChains_36 (by decide) rfl (by decide +kernel) h_16 ?_
      refine z_zconst (M := M_X8_layChains) (b := false) dX8_layChains_39 rfl ?_
      have H := congrArg some (hk_7 _ ((K_11 _ (Option.some.inj H).symm).symm))
      cases H
      exact z_zret (M := M_X8_layChains) dX8_layChains_40 rfl (Nat.le_of_ble_eq_true rfl) (Nat.le_of_ble_eq_true rfl) ⟨rfl, rfl⟩
    · refine z_icmp_le_t (M := M_X8_layChains) (tgt := 41) dX8_layChains_36 (by decide) rfl (by decide +kernel) (Int.not_lt.mp h_16) ?_
      refine z_iconst (M := M_X8_layChains) dX8_layChains_41 ?_
      refine z_istore (M := M_X8_layChains) (lv' := [some (vr 193), some (vi (places_1 + x_15)), some (vi told_2), some (vi i_3), some (vi x_15), some (vi 0), none, none, none, none]) dX8_layChains_42 (Nat.le_of_ble_eq_true rfl) rfl rfl ?_
      obtain ⟨rl_23, hw_20, hk_21⟩ := bd_e H
      have J_46 : ∀ told_42 k_43 σ_44, rl_23 = (told_42, k_43, σ_44) → YY l E M_X8_layChains 3 0 0 (pS (some (zv r)) σ') 133 [some (vr 193), some (vi (places_1 + x_15)), some (vi told_42), some (vi i_3), some (vi x_15), some (vi k_43), none, none, none, none] [] σ_44 0 0 := by
        intro told_42 k_43 σ_44 e
        have H := hk_21
        rw [e] at H
        refine z_iinc (M := M_X8_layChains) (lv' := [some (vr 193), some (vi (places_1 + x_15)), some (vi told_42), some (vi (i_3 + 1)), some (vi x_15), some (vi k_43), none, none, none, none]) dX8_layChains_133 rfl (Nat.le_of_ble_eq_true rfl) rfl rfl ?_
        refine z_goto (M := M_X8_layChains) (tgt := 9) dX8_layChains_136 (by decide) ?_
        refine z_le (lv' := [some (vr 193), some (vi (places_1 + x_15)), some (vi told_42), some (vi (i_3 + 1)), none, none, none, none, none, none]) ⟨Or.inr rfl, Or.inr rfl, Or.inr rfl, Or.inr rfl, Or.inl rfl, Or.inl rfl, Or.inl rfl, Or.inl rfl, Or.inl rfl, Or.inl rfl, trivial⟩ ?_
        exact K_10 _ (Option.some.inj H).symm
      refine whl_go hw_20 (fun (told_17, k_18, σ_19) => YY l E M_X8_layChains 3 0 0 (pS (some (zv r)) σ') 44 [some (vr 193), some (vi (places_1 + x_15)), some (vi told_17), some (vi i_3), some (vi x_15), some (vi k_18), none, none, none, none] [] σ_19 0 0) ?_
      rintro ⟨told_17, k_18, σ_19⟩ o_24 H K_25 K_26
      refine z_iload (M := M_X8_layChains) dX8_layChains_44 rfl ?_
      refine z_iconst (M := M_X8_layChains) dX8_layChains_46 ?_
      refine z_iadd (M := M_X8_layChains) dX8_layChains_47 ?_
      refine z_iload (M := M_X8_layChains) dX8_layChains_48 rfl ?_
      rcases if_e H with ⟨h_27, H⟩ | ⟨h_27, H⟩
      · refine z_icmp_ge_f (M := M_X8_layChains) (tgt := 133) dX8_layChains_50 (by decide) rfl rfl h_27 ?_
        refine z_aload_n (M := M_X8_layChains) dX8_layChains_53 rfl ?_
        refine z_getR (M := M_X8_layChains) (ci := 11) (C := RX8) (T := TX8) (Nf := 13) (ty := tyX8) cl11 dX8_layChains_54 ly_193 5 (by decide) t_332 rfl ?_
        refine z_iload (M := M_X8_layChains) dX8_layChains_57 rfl ?_
        obtain ⟨x_28, x_28_e, hi_29, H⟩ := rd_e H
        refine z_iald (M := M_X8_layChains) dX8_layChains_59 ly_202 rfl rfl rfl hi_29 x_28_e ?_
        refine z_aload_n (M := M_X8_layChains) dX8_layChains_60 rfl ?_
        refine z_getR (M := M_X8_layChains) (ci := 11) (C := RX8) (T := TX8) (Nf := 13) (ty := tyX8) cl11 dX8_layChains_61 ly_193 5 (by decide) t_332 rfl ?_
        refine z_iload (M := M_X8_layChains) dX8_layChains_64 rfl ?_
        refine z_iconst (M := M_X8_layChains) dX8_layChains_66 ?_
        refine z_iadd (M := M_X8_layChains) dX8_layChains_67 ?_
        obtain ⟨x_30, x_30_e, hi_31, H⟩ := rd_e H
        refine z_iald (M := M_X8_layChains) dX8_layChains_68 ly_202 rfl rfl rfl hi_31 x_30_e ?_
        refine z_mmin (M := M_X8_layChains) dX8_layChains_69 t_1480 t_626 t_20 t_627 (Nat.le_of_ble_eq_true rfl) (Nat.le_of_ble_eq_true rfl) (Nat.le_of_ble_eq_true rfl) (Nat.le_of_ble_eq_true rfl) ?_
        refine z_i2l (M := M_X8_layChains) dX8_layChains_72 ?_
        refine z_lstore (M := M_X8_layChains) (lv' := [some (vr 193), some (vi (places_1 + x_15)), some (vi told_17), some (vi i_3), some (vi x_15), some (vi k_18), some (vl (w32 (q_mni x_28 x_30))), none, none, none]) dX8_layChains_73 (Nat.le_of_ble_eq_true rfl) rfl rfl ?_
        refine z_aload_n (M := M_X8_layChains) dX8_layChains_75 rfl ?_
        refine z_getR (M := M_X8_layChains) (ci := 11) (C := RX8) (T := TX8) (Nf := 13) (ty := tyX8) cl11 dX8_layChains_76 ly_193 5 (by decide) t_332 rfl ?_
        refine z_iload (M := M_X8_layChains) dX8_layChains_79 rfl ?_
        obtain ⟨x_32, x_32_e, hi_33, H⟩ := rd_e H
        refine z_iald (M := M_X8_layChains) dX8_layChains_81 ly_202 rfl rfl rfl hi_33 x_32_e ?_
        refine z_aload_n (M := M_X8_layChains) dX8_layChains_82 rfl ?_
        refine z_getR (M := M_X8_layChains) (ci := 11) (C := RX8) (T := TX8) (Nf := 13) (ty := tyX8) cl11 dX8_layChains_83 ly_193 5 (by decide) t_332 rfl ?_
        refine z_iload (M := M_X8_layChains) dX8_layChains_86 rfl ?_
        refine z_iconst (M := M_X8_layChains) dX8_layChains_88 ?_
        refine z_iadd (M := M_X8_layChains) dX8_layChains_89 ?_
        obtain ⟨x_34, x_34_e, hi_35, H⟩ := rd_e H
        refine z_iald (M := M_X8_layChains) dX8_layChains_90 ly_202 rfl rfl rfl hi_35 x_34_e ?_
        refine z_mmax (M := M_X8_layChains) dX8_layChains_91 t_1481 t_1013 t_20 t_1014 (Nat.le_of_ble_eq_true rfl) (Nat.le_of_ble_eq_true rfl) (Nat.le_of_ble_eq_true rfl) (Nat.le_of_ble_eq_true rfl) ?_
        refine z_i2l (M := M_X8_layChains) dX8_layChains_94 ?_
        refine z_lstore (M := M_X8_layChains) (lv' := [some (vr 193), some (vi (places_1 + x_15)), some (vi told_17), some (vi i_3), some (vi x_15), some (vi k_18), some (vl (w32 (q_mni x_28 x_30))), none, some (vl (w32 (q_mxi x_32 x_34))), none]) dX8_layChains_95 (Nat.le_of_ble_eq_true rfl) rfl rfl ?_
        refine z_aload_n (M := M_X8_layChains) dX8_layChains_97 rfl ?_
        refine z_getR (M := M_X8_layChains) (ci := 11) (C := RX8) (T := TX8) (Nf := 13) (ty := tyX8) cl11 dX8_layChains_98 ly_193 4 (by decide) t_331 rfl ?_
        refine z_iload_n (M := M_X8_layChains) dX8_layChains_101 rfl ?_
        refine z_lload (M := M_X8_layChains) dX8_layChains_102 rfl ?_
        refine z_bipush (M := M_X8_layChains) dX8_layChains_104 (by decide +kernel) ?_
        refine z_lshl (M := M_X8_layChains) dX8_layChains_106 ?_
        refine z_lload (M := M_X8_layChains) dX8_layChains_107 rfl ?_
        refine z_lor (M := M_X8_layChains) dX8_layChains_109 ?_
        refine z_iconst (M := M_X8_layChains) dX8_layChains_110 ?_
        refine z_lshl (M := M_X8_layChains) dX8_layChains_111 ?_
        refine z_aload_n (M := M_X8_layChains) dX8_layChains_112 rfl ?_
        refine z_getR (M := M_X8_layChains) (ci := 11) (C := RX8) (T := TX8) (Nf := 13) (ty := tyX8) cl11 dX8_layChains_113 ly_193 0 (by decide) t_327 rfl ?_
        refine z_getR (M := M_X8_layChains) (ci := 8) (C := RX5) (T := TX5) (Nf := 8) (ty := tyX5) cl8 dX8_layChains_116 (ly_G (by decide)) 4 (by decide) t_252 rfl ?_
        refine z_iload_n (M := M_X8_layChains) dX8_layChains_119 rfl ?_
        obtain ⟨x_36, x_36_e, hi_37, H⟩ := rd_e H
        refine z_iald (M := M_X8_layChains) dX8_layChains_120 ly_199 rfl rfl rfl hi_37 x_36_e ?_
        refine z_i2l (M := M_X8_layChains) dX8_layChains_121 ?_
        refine z_lor (M := M_X8_layChains) dX8_layChains_122 ?_
        obtain ⟨σ_38, σ_38_e, hi_39, H⟩ := wa_e H
        refine z_last (M := M_X8_layChains) dX8_layChains_123 ly_201 rfl rfl rfl hi_39 σ_38_e ?_
        refine z_iinc (M := M_X8_layChains) (lv' := [some (vr 193), some (vi (places_1 + x_15)), some (vi (told_17 + 1)), some (vi i_3), some (vi x_15), some (vi k_18), some (vl (w32 (q_mni x_28 x_30))), none, some (vl (w32 (q_mxi x_32 x_34))), none]) dX8_layChains_124 rfl (Nat.le_of_ble_eq_true rfl) rfl rfl ?_
        refine z_iinc (M := M_X8_layChains) (lv' := [some (vr 193), some (vi (places_1 + x_15)), some (vi (told_17 + 1)), some (vi i_3), some (vi x_15), some (vi (k_18 + 1)), some (vl (w32 (q_mni x_28 x_30))), none, some (vl (w32 (q_mxi x_32 x_34))), none]) dX8_layChains_127 rfl (Nat.le_of_ble_eq_true rfl) rfl rfl ?_
        refine z_goto (M := M_X8_layChains) (tgt := 44) dX8_layChains_130 (by decide) ?_
        refine z_le (lv' := [some (vr 193), some (vi (places_1 + x_15)), some (vi (told_17 + 1)), some (vi i_3), some (vi x_15), some (vi (k_18 + 1)), none, none, none, none]) ⟨Or.inr rfl, Or.inr rfl, Or.inr rfl, Or.inr rfl, Or.inr rfl, Or.inr rfl, Or.inl rfl, Or.inl rfl, Or.inl rfl, Or.inl rfl, trivial⟩ ?_
        exact K_25 _ (Option.some.inj H).symm
      · refine z_icmp_ge_t (M := M_X8_layChains) (tgt := 133) dX8_layChains_50 (by decide) rfl rfl (Int.not_lt.mp h_27) ?_
        exact J_46 _ _ _ (K_26 _ (Option.some.inj H).symm).symm
  · refine z_icmp_ge_t (M := M_X8_layChains) (tgt := 139) dX8_layChains_17 (by decide) rfl rfl (Int.not_lt.mp h_12) ?_
    exact J_56 _ _ _ _ (K_11 _ (Option.some.inj H).symm).symm
theorem c_X11_keyX (hl : l.stackTraces = false) {σ : SG} {key_0 : Int} {r : Int}  (H : fQ_keyX key_0 = r) : en_S l E M_X11_keyX 1 0 0 [vl key_0] σ (pS (some (vi r)) σ) := by
  unfold fQ_keyX at H
  refine z_mk (lv := [some (vl key_0), none]) m_X11_keyX rfl hl (Nat.le_of_ble_eq_true rfl) rfl ?_
  refine z_lload_n (M := M_X11_keyX) dX11_keyX_0 rfl ?_
  refine z_bipush (M := M_X11_keyX) dX11_keyX_1 (by decide +kernel) ?_
  refine z_lshr (M := M_X11_keyX) dX11_keyX_3 ?_
  refine z_l2i (M := M_X11_keyX) dX11_keyX_4 ?_
  cases H
  exact z_iret (M := M_X11_keyX) dX11_keyX_5 rfl (Nat.le_of_ble_eq_true rfl) (Nat.le_of_ble_eq_true rfl) ⟨rfl, rfl⟩
theorem c_X11_keyY (hl : l.stackTraces = false) {σ : SG} {key_0 : Int} {r : Int}  (H : fQ_keyY key_0 = r) : en_S l E M_X11_keyY 1 0 0 [vl key_0] σ (pS (some (vi r)) σ) := by
  unfold fQ_keyY at H
  refine z_mk (lv := [some (vl key_0), none]) m_X11_keyY rfl hl (Nat.le_of_ble_eq_true rfl) rfl ?_
  refine z_lload_n (M := M_X11_keyY) dX11_keyY_0 rfl ?_
  refine z_l2i (M := M_X11_keyY) dX11_keyY_1 ?_
  refine z_ldcw (M := M_X11_keyY) (n := (-2147483648)) dX11_keyY_2 t_1428 (by decide +kernel) ?_
  refine z_ixor (M := M_X11_keyY) dX11_keyY_5 ?_
  cases H
  exact z_iret (M := M_X11_keyY) dX11_keyY_6 rfl (Nat.le_of_ble_eq_true rfl) (Nat.le_of_ble_eq_true rfl) ⟨rfl, rfl⟩
theorem c_X8_sortHot (hl : l.stackTraces = false) {σ : SG} {r : Bool} {σ' : SG}  (H : fN_sortHot σ = some (r, σ')) : en_S l E M_X8_sortHot 4 0 0 [vr 193] σ (pS (some (zv r)) σ') := by
  unfold fN_sortHot at H
  refine z_mk (lv := [some (vr 193), none]) m_X8_sortHot rfl hl (Nat.le_of_ble_eq_true rfl) rfl ?_
  refine z_aload_n (M := M_X8_sortHot) dX8_sortHot_0 rfl ?_
  obtain ⟨⟨x_3, σ_2⟩, hc_1, H⟩ := bd_e H
  refine z_callV (M := M_X8_sortHot) (M' := M_X8_sortOutKeys) (as := []) (rest := []) rfl rfl dX8_sortHot_1 m_X8_sortOutKeys t_1412 t_1414 s_71 (c_X8_sortOutKeys hl  hc_1) rfl rfl ly_193 rfl (Nat.le_of_ble_eq_true rfl) (Nat.le_of_ble_eq_true rfl) (Nat.le_of_ble_eq_true rfl) (Nat.le_of_ble_eq_true rfl) ?_
  refine z_st (st' := [zv x_3]) rfl ?_
  rcases if_e H with ⟨h_4, H⟩ | ⟨h_4, H⟩
  · refine z_zne_t (M := M_X8_sortHot) (tgt := 9) dX8_sortHot_4 (by decide) h_4 ?_
    refine z_aload_n (M := M_X8_sortHot) dX8_sortHot_9 rfl ?_
    refine z_aload_n (M := M_X8_sortHot) dX8_sortHot_10 rfl ?_
    refine z_getI (M := M_X8_sortHot) (ci := 11) (C := RX8) (T := TX8) (Nf := 13) (ty := tyX8) cl11 dX8_sortHot_11 ly_193 3 (by decide) t_330 rfl rfl ?_
    obtain ⟨σ_5, σ_5_e, H⟩ := wf_e H
    refine z_putI (M := M_X8_sortHot) (ci := 11) (C := RX8) (T := TX8) (Nf := 13) (ty := tyX8) cl11 dX8_sortHot_14 ly_193 8 (by decide) t_338 rfl rfl rfl rfl σ_5_e ?_
    refine z_iconst (M := M_X8_sortHot) dX8_sortHot_17 ?_
    refine z_istore_n (M := M_X8_sortHot) (lv' := [some (vr 193), some (vi 0)]) dX8_sortHot_18 (Nat.le_of_ble_eq_true rfl) rfl rfl ?_
    obtain ⟨rl_11, hw_8, hk_9⟩ := bd_e H
    have J_28 : ∀ i_26 σ_27, rl_11 = (i_26, σ_27) → YY l E M_X8_sortHot 4 0 0 (pS (some (zv r)) σ') 63 [some (vr 193), some (vi i_26)] [] σ_27 0 0 := by
      intro i_26 σ_27 e
      have H := hk_9
      rw [e] at H
      refine z_zconst (M := M_X8_sortHot) (b := true) dX8_sortHot_63 rfl ?_
      cases H
      exact z_zret (M := M_X8_sortHot) dX8_sortHot_64 rfl (Nat.le_of_ble_eq_true rfl) (Nat.le_of_ble_eq_true rfl) ⟨rfl, rfl⟩
    refine whl_go hw_8 (fun (i_6, σ_7) => YY l E M_X8_sortHot 4 0 0 (pS (some (zv r)) σ') 19 [some (vr 193), some (vi i_6)] [] σ_7 0 0) ?_
    rintro ⟨i_6, σ_7⟩ o_12 H K_13 K_14
    refine z_iload_n (M := M_X8_sortHot) dX8_sortHot_19 rfl ?_
    refine z_aload_n (M := M_X8_sortHot) dX8_sortHot_20 rfl ?_
    refine z_getI (M := M_X8_sortHot) (ci := 11) (C := RX8) (T := TX8) (Nf := 13) (ty := tyX8) cl11 dX8_sortHot_21 ly_193 8 (by decide) t_338 rfl rfl ?_
    rcases if_e H with ⟨h_15, H⟩ | ⟨h_15, H⟩
    · refine z_icmp_ge_f (M := M_X8_sortHot) (tgt := 63) dX8_sortHot_24 (by decide) rfl rfl h_15 ?_
      refine z_aload_n (M := M_X8_sortHot) dX8_sortHot_27 rfl ?_
      refine z_getR (M := M_X8_sortHot) (ci := 11) (C := RX8) (T := TX8) (Nf := 13) (ty := tyX8) cl11 dX8_sortHot_28 ly_193 6 (by decide) t_333 rfl ?_
      refine z_iload_n (M := M_X8_sortHot) dX8_sortHot_31 rfl ?_
      refine z_aload_n (M := M_X8_sortHot) dX8_sortHot_32 rfl ?_
      refine z_getR (M := M_X8_sortHot) (ci := 11) (C := RX8) (T := TX8) (Nf := 13) (ty := tyX8) cl11 dX8_sortHot_33 ly_193 2 (by decide) t_329 rfl ?_
      refine z_iload_n (M := M_X8_sortHot) dX8_sortHot_36 rfl ?_
      obtain ⟨x_16, x_16_e, hi_17, H⟩ := rd_e H
      refine z_lald (M := M_X8_sortHot) dX8_sortHot_37 ly_200 rfl rfl rfl hi_17 x_16_e ?_
      refine z_callSN (M := M_X8_sortHot) (M' := M_X11_keyX) (as := [vl x_16]) (rest := [vi i_6, vr 203]) rfl rfl dX8_sortHot_38 m_X11_keyX n_1453 t_1454 (c_X11_keyX hl  rfl) rfl rfl (Nat.le_of_ble_eq_true rfl) (Nat.le_of_ble_eq_true rfl) (Nat.le_of_ble_eq_true rfl) (Nat.le_of_ble_eq_true rfl) ?_
      refine z_st (st' := [vi (fQ_keyX x_16), vi i_6, vr 203]) rfl ?_
      obtain ⟨σ_18, σ_18_e, hi_19, H⟩ := wa_e H
      refine z_iast (M := M_X8_sortHot) dX8_sortHot_41 ly_203 rfl rfl rfl hi_19 σ_18_e ?_
      refine z_aload_n (M := M_X8_sortHot) dX8_sortHot_42 rfl ?_
      refine z_getR (M := M_X8_sortHot) (ci := 11) (C := RX8) (T := TX8) (Nf := 13) (ty := tyX8) cl11 dX8_sortHot_43 ly_193 7 (by decide) t_335 rfl ?_
      refine z_iload_n (M := M_X8_sortHot) dX8_sortHot_46 rfl ?_
      refine z_aload_n (M := M_X8_sortHot) dX8_sortHot_47 rfl ?_
      refine z_getR (M := M_X8_sortHot) (ci := 11) (C := RX8) (T := TX8) (Nf := 13) (ty := tyX8) cl11 dX8_sortHot_48 ly_193 2 (by decide) t_329 rfl ?_
      refine z_iload_n (M := M_X8_sortHot) dX8_sortHot_51 rfl ?_
      obtain ⟨x_20, x_20_e, hi_21, H⟩ := rd_e H
      refine z_lald (M := M_X8_sortHot) dX8_sortHot_52 ly_200 rfl rfl rfl hi_21 x_20_e ?_
      refine z_callSN (M := M_X8_sortHot) (M' := M_X11_keyY) (as := [vl x_20]) (rest := [vi i_6, vr 204]) rfl rfl dX8_sortHot_53 m_X11_keyY n_1456 t_1457 (c_X11_keyY hl  rfl) rfl rfl (Nat.le_of_ble_eq_true rfl) (Nat.le_of_ble_eq_true rfl) (Nat.le_of_ble_eq_true rfl) (Nat.le_of_ble_eq_true rfl) ?_
      refine z_st (st' := [vi (fQ_keyY x_20), vi i_6, vr 204]) rfl ?_
      obtain ⟨σ_22, σ_22_e, hi_23, H⟩ := wa_e H
      refine z_iast (M := M_X8_sortHot) dX8_sortHot_56 ly_204 rfl rfl rfl hi_23 σ_22_e ?_
      refine z_iinc (M := M_X8_sortHot) (lv' := [some (vr 193), some (vi (i_6 + 1))]) dX8_sortHot_57 rfl (Nat.le_of_ble_eq_true rfl) rfl rfl ?_
      refine z_goto (M := M_X8_sortHot) (tgt := 19) dX8_sortHot_60 (by decide) ?_
      exact K_13 _ (Option.some.inj H).symm
    · refine z_icmp_ge_t (M := M_X8_sortHot) (tgt := 63) dX8_sortHot_24 (by decide) rfl rfl (Int.not_lt.mp h_15) ?_
      exact J_28 _ _ (K_14 _ (Option.some.inj H).symm).symm
  · refine z_zne_f (M := M_X8_sortHot) (tgt := 9) dX8_sortHot_4 (by decide) h_4 ?_
    refine z_zconst (M := M_X8_sortHot) (b := false) dX8_sortHot_7 rfl ?_
    cases H
    exact z_zret (M := M_X8_sortHot) dX8_sortHot_8 rfl (Nat.le_of_ble_eq_true rfl) (Nat.le_of_ble_eq_true rfl) ⟨rfl, rfl⟩
theorem c_X8_snap (hl : l.stackTraces = false) {σ : SG} {one_0 : Nat} {two_0 : Nat} {r : Bool} {σ' : SG} (h_one : isS one_0) (h_two : isS two_0) (H : fN_snap σ one_0 two_0 = some (r, σ')) : en_S l E M_X8_snap 7 0 0 [vr 193, vr one_0, vr two_0] σ (pS (some (zv r)) σ') := by
  unfold fN_snap at H
  refine z_mk (lv := [some (vr 193), some (vr one_0), some (vr two_0)]) m_X8_snap rfl hl (Nat.le_of_ble_eq_true rfl) rfl ?_
  refine z_aload_n (M := M_X8_snap) dX8_snap_0 rfl ?_
  refine z_getR (M := M_X8_snap) (ci := 11) (C := RX8) (T := TX8) (Nf := 13) (ty := tyX8) cl11 dX8_snap_1 ly_193 0 (by decide) t_327 rfl ?_
  refine z_iconst (M := M_X8_snap) dX8_snap_4 ?_
  obtain ⟨σ_1, σ_1_e, H⟩ := wf_e H
  refine z_putI (M := M_X8_snap) (ci := 8) (C := RX5) (T := TX5) (Nf := 8) (ty := tyX5) cl8 dX8_snap_5 (ly_G (by decide)) 5 (by decide) t_255 rfl rfl rfl rfl σ_1_e ?_
  refine z_aload_n (M := M_X8_snap) dX8_snap_8 rfl ?_
  refine z_iconst (M := M_X8_snap) dX8_snap_9 ?_
  obtain ⟨σ_2, σ_2_e, H⟩ := wf_e H
  refine z_putI (M := M_X8_snap) (ci := 11) (C := RX8) (T := TX8) (Nf := 13) (ty := tyX8) cl11 dX8_snap_10 ly_193 1 (by decide) t_328 rfl rfl rfl rfl σ_2_e ?_
  refine z_aload_n (M := M_X8_snap) dX8_snap_13 rfl ?_
  refine z_iconst (M := M_X8_snap) dX8_snap_14 ?_
  obtain ⟨σ_3, σ_3_e, H⟩ := wf_e H
  refine z_putI (M := M_X8_snap) (ci := 11) (C := RX8) (T := TX8) (Nf := 13) (ty := tyX8) cl11 dX8_snap_15 ly_193 3 (by decide) t_330 rfl rfl rfl rfl σ_3_e ?_
  obtain ⟨v_32, he_33, hk_34⟩ := bd_e H
  have J_35 : ∀ x_30 σ_31, v_32 = (x_30, σ_31) → YY l E M_X8_snap 7 0 0 (pS (some (zv r)) σ') 62 [some (vr 193), some (vr one_0), some (vr two_0)] [zv x_30] σ_31 0 0 := by
    intro x_30 σ_31 e
    have H := hk_34
    rw [e] at H
    cases H
    exact z_zret (M := M_X8_snap) dX8_snap_62 rfl (Nat.le_of_ble_eq_true rfl) (Nat.le_of_ble_eq_true rfl) ⟨rfl, rfl⟩
  have H := he_33
  refine z_aload_n (M := M_X8_snap) dX8_snap_18 rfl ?_
  refine z_aload_n (M := M_X8_snap) dX8_snap_19 rfl ?_
  refine z_iconst (M := M_X8_snap) dX8_snap_20 ?_
  obtain ⟨⟨x_6, σ_5⟩, hc_4, H⟩ := bd_e H
  refine z_callV (M := M_X8_snap) (M' := M_X8_collect) (as := [vr one_0, vi 1]) (rest := []) rfl rfl dX8_snap_21 m_X8_collect t_1396 t_1398 s_68 (c_X8_collect hl h_one hc_4) rfl rfl ly_193 rfl (Nat.le_of_ble_eq_true rfl) (Nat.le_of_ble_eq_true rfl) (Nat.le_of_ble_eq_true rfl) (Nat.le_of_ble_eq_true rfl) ?_
  refine z_st (st' := [zv x_6]) rfl ?_
  rcases if_e H with ⟨h_7, H⟩ | ⟨h_7, H⟩
  · refine z_zeq_f (M := M_X8_snap) (tgt := 61) dX8_snap_24 (by decide) h_7 ?_
    refine z_aload_n (M := M_X8_snap) dX8_snap_27 rfl ?_
    refine z_aload_n (M := M_X8_snap) dX8_snap_28 rfl ?_
    refine z_iconst (M := M_X8_snap) dX8_snap_29 ?_
    obtain ⟨⟨x_10, σ_9⟩, hc_8, H⟩ := bd_e H
    refine z_callV (M := M_X8_snap) (M' := M_X8_collect) (as := [vr two_0, vi 2]) (rest := []) rfl rfl dX8_snap_30 m_X8_collect t_1396 t_1398 s_68 (c_X8_collect hl h_two hc_8) rfl rfl ly_193 rfl (Nat.le_of_ble_eq_true rfl) (Nat.le_of_ble_eq_true rfl) (Nat.le_of_ble_eq_true rfl) (Nat.le_of_ble_eq_true rfl) ?_
    refine z_st (st' := [zv x_10]) rfl ?_
    rcases if_e H with ⟨h_11, H⟩ | ⟨h_11, H⟩
    · refine z_zeq_f (M := M_X8_snap) (tgt := 61) dX8_snap_33 (by decide) h_11 ?_
      refine z_aload_n (M := M_X8_snap) dX8_snap_36 rfl ?_
      obtain ⟨⟨x_14, σ_13⟩, hc_12, H⟩ := bd_e H
      refine z_callV (M := M_X8_snap) (M' := M_X8_addCrossings) (as := []) (rest := []) rfl rfl dX8_snap_37 m_X8_addCrossings t_1431 t_1433 s_72 (c_X8_addCrossings hl  hc_12) rfl rfl ly_193 rfl (Nat.le_of_ble_eq_true rfl) (Nat.le_of_ble_eq_true rfl) (Nat.le_of_ble_eq_true rfl) (Nat.le_of_ble_eq_true rfl) ?_
      refine z_st (st' := [zv x_14]) rfl ?_
      rcases if_e H with ⟨h_15, H⟩ | ⟨h_15, H⟩
      · refine z_zeq_f (M := M_X8_snap) (tgt := 61) dX8_snap_40 (by decide) h_15 ?_
        refine z_aload_n (M := M_X8_snap) dX8_snap_43 rfl ?_
        obtain ⟨⟨x_18, σ_17⟩, hc_16, H⟩ := bd_e H
        refine z_callV (M := M_X8_snap) (M' := M_X8_sortHot) (as := []) (rest := []) rfl rfl dX8_snap_44 m_X8_sortHot t_1449 t_1451 s_74 (c_X8_sortHot hl  hc_16) rfl rfl ly_193 rfl (Nat.le_of_ble_eq_true rfl) (Nat.le_of_ble_eq_true rfl) (Nat.le_of_ble_eq_true rfl) (Nat.le_of_ble_eq_true rfl) ?_
        refine z_st (st' := [zv x_18]) rfl ?_
        rcases if_e H with ⟨h_19, H⟩ | ⟨h_19, H⟩
        · refine z_zeq_f (M := M_X8_snap) (tgt := 61) dX8_snap_47 (by decide) h_19 ?_
          refine z_aload_n (M := M_X8_snap) dX8_snap_50 rfl ?_
          obtain ⟨⟨x_22, σ_21⟩, hc_20, H⟩ := bd_e H
          refine z_callV (M := M_X8_snap) (M' := M_X8_layChains) (as := []) (rest := []) rfl rfl dX8_snap_51 m_X8_layChains t_1459 t_1461 s_75 (c_X8_layChains hl  hc_20) rfl rfl ly_193 rfl (Nat.le_of_ble_eq_true rfl) (Nat.le_of_ble_eq_true rfl) (Nat.le_of_ble_eq_true rfl) (Nat.le_of_ble_eq_true rfl) ?_
          refine z_st (st' := [zv x_22]) rfl ?_
          rcases if_e H with ⟨h_23, H⟩ | ⟨h_23, H⟩
          · refine z_zeq_f (M := M_X8_snap) (tgt := 61) dX8_snap_54 (by decide) h_23 ?_
            refine z_zconst (M := M_X8_snap) (b := true) dX8_snap_57 rfl ?_
            refine z_goto (M := M_X8_snap) (tgt := 62) dX8_snap_58 (by decide) ?_
            exact J_35 _ _ (Option.some.inj H).symm
          · refine z_zeq_t (M := M_X8_snap) (tgt := 61) dX8_snap_54 (by decide) h_23 ?_
            refine z_zconst (M := M_X8_snap) (b := false) dX8_snap_61 rfl ?_
            exact J_35 _ _ (Option.some.inj H).symm
        · refine z_zeq_t (M := M_X8_snap) (tgt := 61) dX8_snap_47 (by decide) h_19 ?_
          refine z_zconst (M := M_X8_snap) (b := false) dX8_snap_61 rfl ?_
          exact J_35 _ _ (Option.some.inj H).symm
      · refine z_zeq_t (M := M_X8_snap) (tgt := 61) dX8_snap_40 (by decide) h_15 ?_
        refine z_zconst (M := M_X8_snap) (b := false) dX8_snap_61 rfl ?_
        exact J_35 _ _ (Option.some.inj H).symm
    · refine z_zeq_t (M := M_X8_snap) (tgt := 61) dX8_snap_33 (by decide) h_11 ?_
      refine z_zconst (M := M_X8_snap) (b := false) dX8_snap_61 rfl ?_
      exact J_35 _ _ (Option.some.inj H).symm
  · refine z_zeq_t (M := M_X8_snap) (tgt := 61) dX8_snap_24 (by decide) h_7 ?_
    refine z_zconst (M := M_X8_snap) (b := false) dX8_snap_61 rfl ?_
    exact J_35 _ _ (Option.some.inj H).symm
theorem c_X11_isBeyond (hl : l.stackTraces = false) {σ : SG} {value_0 : Int} {limit_0 : Int} {r : Bool}  (H : fQ_isBeyond value_0 limit_0 = r) : en_S l E M_X11_isBeyond 1 0 0 [vi value_0, vi limit_0] σ (pS (some (zv r)) σ) := by
  unfold fQ_isBeyond at H
  refine z_mk (lv := [some (vi value_0), some (vi limit_0)]) m_X11_isBeyond rfl hl (Nat.le_of_ble_eq_true rfl) rfl ?_
  have J_1 : YY l E M_X11_isBeyond 1 0 0 (pS (some (zv r)) σ) 16 [some (vi value_0), some (vi limit_0)] [zv (decide (((w32 value_0) < (w32 (-limit_0))) ∨ ((w32 limit_0) < (w32 value_0))))] σ 0 0 := by
    cases H
    exact z_zret (M := M_X11_isBeyond) dX11_isBeyond_16 rfl (Nat.le_of_ble_eq_true rfl) (Nat.le_of_ble_eq_true rfl) ⟨rfl, rfl⟩
  refine z_iload_n (M := M_X11_isBeyond) dX11_isBeyond_0 rfl ?_
  refine z_iload_n (M := M_X11_isBeyond) dX11_isBeyond_1 rfl ?_
  refine z_ineg (M := M_X11_isBeyond) dX11_isBeyond_2 ?_
  by_cases h_2 : (w32 value_0) < (w32 (-limit_0))
  · refine z_icmp_lt_t (M := M_X11_isBeyond) (tgt := 11) dX11_isBeyond_3 (by decide) rfl rfl h_2 ?_
    refine z_iconst (M := M_X11_isBeyond) dX11_isBeyond_11 ?_
    refine z_goto (M := M_X11_isBeyond) (tgt := 16) dX11_isBeyond_12 (by decide) ?_
    exact z_st (by rw [zv_t (p := ((w32 value_0) < (w32 (-limit_0))) ∨ ((w32 limit_0) < (w32 value_0))) (Or.inl h_2)]) J_1
  · refine z_icmp_lt_f (M := M_X11_isBeyond) (tgt := 11) dX11_isBeyond_3 (by decide) rfl rfl (Int.not_lt.mp h_2) ?_
    refine z_iload_n (M := M_X11_isBeyond) dX11_isBeyond_6 rfl ?_
    refine z_iload_n (M := M_X11_isBeyond) dX11_isBeyond_7 rfl ?_
    by_cases h_3 : (w32 limit_0) < (w32 value_0)
    · refine z_icmp_le_f (M := M_X11_isBeyond) (tgt := 15) dX11_isBeyond_8 (by decide) rfl rfl h_3 ?_
      refine z_iconst (M := M_X11_isBeyond) dX11_isBeyond_11 ?_
      refine z_goto (M := M_X11_isBeyond) (tgt := 16) dX11_isBeyond_12 (by decide) ?_
      exact z_st (by rw [zv_t (p := ((w32 value_0) < (w32 (-limit_0))) ∨ ((w32 limit_0) < (w32 value_0))) (Or.inr h_3)]) J_1
    · refine z_icmp_le_t (M := M_X11_isBeyond) (tgt := 15) dX11_isBeyond_8 (by decide) rfl rfl (Int.not_lt.mp h_3) ?_
      refine z_iconst (M := M_X11_isBeyond) dX11_isBeyond_15 ?_
      exact z_st (by rw [zv_f (p := ((w32 value_0) < (w32 (-limit_0))) ∨ ((w32 limit_0) < (w32 value_0))) (fun q => q.elim h_2 h_3)]) J_1
theorem c_X6_liesWithin (hl : l.stackTraces = false) {σ : SG} {this_0 : Nat} {limit_0 : Int} {r : Bool} (h_this : isS this_0) (H : fA_liesWithin σ this_0 limit_0 = some r) : en_S l E M_X6_liesWithin 2 0 0 [vr this_0, vi limit_0] σ (pS (some (zv r)) σ) := by
  unfold fA_liesWithin at H
  refine z_mk (lv := [some (vr this_0), some (vi limit_0), none]) m_X6_liesWithin rfl hl (Nat.le_of_ble_eq_true rfl) rfl ?_
  refine z_iconst (M := M_X6_liesWithin) dX6_liesWithin_0 ?_
  refine z_istore_n (M := M_X6_liesWithin) (lv' := [some (vr this_0), some (vi limit_0), some (vi 0)]) dX6_liesWithin_1 (Nat.le_of_ble_eq_true rfl) rfl rfl ?_
  obtain ⟨rl_5, hw_2, hk_3, hk_4⟩ := bx_e H
  have J_28 : ∀ i_27, rl_5 = (.inl i_27) → YY l E M_X6_liesWithin 2 0 0 (pS (some (zv r)) σ) 44 [some (vr this_0), some (vi limit_0), some (vi i_27)] [] σ 0 0 := by
    intro i_27 e
    have H := hk_3 _ e
    refine z_zconst (M := M_X6_liesWithin) (b := true) dX6_liesWithin_44 rfl ?_
    cases H
    exact z_zret (M := M_X6_liesWithin) dX6_liesWithin_45 rfl (Nat.le_of_ble_eq_true rfl) (Nat.le_of_ble_eq_true rfl) ⟨rfl, rfl⟩
  refine whl_go hw_2 (fun i_1 => YY l E M_X6_liesWithin 2 0 0 (pS (some (zv r)) σ) 2 [some (vr this_0), some (vi limit_0), some (vi i_1)] [] σ 0 0) ?_
  rintro i_1 o_6 H K_7 K_8
  refine z_iload_n (M := M_X6_liesWithin) dX6_liesWithin_2 rfl ?_
  refine z_aload_n (M := M_X6_liesWithin) dX6_liesWithin_3 rfl ?_
  refine z_getI (M := M_X6_liesWithin) (ci := 9) (C := RX6) (T := TX6) (Nf := 5) (ty := tyX6) cl9 dX6_liesWithin_4 (ly_S h_this) 4 (by decide) t_83 rfl rfl ?_
  rcases if_e H with ⟨h_9, H⟩ | ⟨h_9, H⟩
  · refine z_icmp_ge_f (M := M_X6_liesWithin) (tgt := 44) dX6_liesWithin_7 (by decide) rfl rfl h_9 ?_
    refine z_aload_n (M := M_X6_liesWithin) dX6_liesWithin_10 rfl ?_
    refine z_getR (M := M_X6_liesWithin) (ci := 9) (C := RX6) (T := TX6) (Nf := 5) (ty := tyX6) cl9 dX6_liesWithin_11 (ly_S h_this) 1 (by decide) t_58 rfl ?_
    refine z_iload_n (M := M_X6_liesWithin) dX6_liesWithin_14 rfl ?_
    obtain ⟨x_19, x_19_e, hi_20, H⟩ := rd_e H
    refine z_iald (M := M_X6_liesWithin) dX6_liesWithin_15 (ly_Sx h_this) rfl rfl rfl hi_20 x_19_e ?_
    refine z_iload_n (M := M_X6_liesWithin) dX6_liesWithin_16 rfl ?_
    refine z_callSN (M := M_X6_liesWithin) (M' := M_X11_isBeyond) (as := [vi x_19, vi limit_0]) (rest := []) rfl rfl dX6_liesWithin_17 m_X11_isBeyond n_1385 t_1386 (c_X11_isBeyond hl  rfl) rfl rfl (Nat.le_of_ble_eq_true rfl) (Nat.le_of_ble_eq_true rfl) (Nat.le_of_ble_eq_true rfl) (Nat.le_of_ble_eq_true rfl) ?_
    refine z_st (st' := [zv (fQ_isBeyond x_19 limit_0)]) rfl ?_
    rcases if_e H with ⟨h_21, H⟩ | ⟨h_21, H⟩
    · refine z_zne_t (M := M_X6_liesWithin) (tgt := 36) dX6_liesWithin_20 (by decide) h_21 ?_
      refine z_zconst (M := M_X6_liesWithin) (b := false) dX6_liesWithin_36 rfl ?_
      have H := congrArg some (hk_4 _ ((K_8 _ (Option.some.inj H).symm).symm))
      cases H
      exact z_zret (M := M_X6_liesWithin) dX6_liesWithin_37 rfl (Nat.le_of_ble_eq_true rfl) (Nat.le_of_ble_eq_true rfl) ⟨rfl, rfl⟩
    · refine z_zne_f (M := M_X6_liesWithin) (tgt := 36) dX6_liesWithin_20 (by decide) h_21 ?_
      refine z_aload_n (M := M_X6_liesWithin) dX6_liesWithin_23 rfl ?_
      refine z_getR (M := M_X6_liesWithin) (ci := 9) (C := RX6) (T := TX6) (Nf := 5) (ty := tyX6) cl9 dX6_liesWithin_24 (ly_S h_this) 2 (by decide) t_65 rfl ?_
      refine z_iload_n (M := M_X6_liesWithin) dX6_liesWithin_27 rfl ?_
      obtain ⟨x_22, x_22_e, hi_23, H⟩ := rd_e H
      refine z_iald (M := M_X6_liesWithin) dX6_liesWithin_28 (ly_Sy h_this) rfl rfl rfl hi_23 x_22_e ?_
      refine z_iload_n (M := M_X6_liesWithin) dX6_liesWithin_29 rfl ?_
      refine z_callSN (M := M_X6_liesWithin) (M' := M_X11_isBeyond) (as := [vi x_22, vi limit_0]) (rest := []) rfl rfl dX6_liesWithin_30 m_X11_isBeyond n_1385 t_1386 (c_X11_isBeyond hl  rfl) rfl rfl (Nat.le_of_ble_eq_true rfl) (Nat.le_of_ble_eq_true rfl) (Nat.le_of_ble_eq_true rfl) (Nat.le_of_ble_eq_true rfl) ?_
      refine z_st (st' := [zv (fQ_isBeyond x_22 limit_0)]) rfl ?_
      rcases if_e H with ⟨h_24, H⟩ | ⟨h_24, H⟩
      · refine z_zeq_f (M := M_X6_liesWithin) (tgt := 38) dX6_liesWithin_33 (by decide) h_24 ?_
        refine z_zconst (M := M_X6_liesWithin) (b := false) dX6_liesWithin_36 rfl ?_
        have H := congrArg some (hk_4 _ ((K_8 _ (Option.some.inj H).symm).symm))
        cases H
        exact z_zret (M := M_X6_liesWithin) dX6_liesWithin_37 rfl (Nat.le_of_ble_eq_true rfl) (Nat.le_of_ble_eq_true rfl) ⟨rfl, rfl⟩
      · refine z_zeq_t (M := M_X6_liesWithin) (tgt := 38) dX6_liesWithin_33 (by decide) h_24 ?_
        refine z_iinc (M := M_X6_liesWithin) (lv' := [some (vr this_0), some (vi limit_0), some (vi (i_1 + 1))]) dX6_liesWithin_38 rfl (Nat.le_of_ble_eq_true rfl) rfl rfl ?_
        refine z_goto (M := M_X6_liesWithin) (tgt := 2) dX6_liesWithin_41 (by decide) ?_
        exact K_7 _ (Option.some.inj H).symm
  · refine z_icmp_ge_t (M := M_X6_liesWithin) (tgt := 44) dX6_liesWithin_7 (by decide) rfl rfl (Int.not_lt.mp h_9) ?_
    exact J_28 _ (K_8 _ (Option.some.inj H).symm).symm
theorem c_X11_canBeLaidOver (hl : l.stackTraces = false) {σ : SG} {shape_0 : Nat} {r : Bool} (h_shape : isS shape_0) (H : fQ_canBeLaidOver σ shape_0 = some r) : en_S l E M_X11_canBeLaidOver 3 0 0 [vr shape_0] σ (pS (some (zv r)) σ) := by
  unfold fQ_canBeLaidOver at H
  refine z_mk (lv := [some (vr shape_0), none, none, none, none, none]) m_X11_canBeLaidOver rfl hl (Nat.le_of_ble_eq_true rfl) rfl ?_
  refine z_aload_n (M := M_X11_canBeLaidOver) dX11_canBeLaidOver_0 rfl ?_
  obtain ⟨x_2, hc_1, H⟩ := bd_e H
  refine z_callV (M := M_X11_canBeLaidOver) (M' := M_X6_kind) (as := []) (rest := []) rfl rfl dX11_canBeLaidOver_1 m_X6_kind t_950 t_951 t_952 (c_X6_kind hl h_shape hc_1) rfl rfl (ly_S h_shape) rfl (Nat.le_of_ble_eq_true rfl) (Nat.le_of_ble_eq_true rfl) (Nat.le_of_ble_eq_true rfl) (Nat.le_of_ble_eq_true rfl) ?_
  refine z_st (st' := [vi x_2]) rfl ?_
  refine z_istore_n (M := M_X11_canBeLaidOver) (lv' := [some (vr shape_0), some (vi x_2), none, none, none, none]) dX11_canBeLaidOver_4 (Nat.le_of_ble_eq_true rfl) rfl rfl ?_
  obtain ⟨v_108, he_109, hk_110⟩ := bd_e H
  have J_111 : v_108 = true → YY l E M_X11_canBeLaidOver 3 0 0 (pS (some (zv r)) σ) 25 [some (vr shape_0), some (vi x_2), none, none, none, none] [] σ 0 0 := by
    intro e
    have H := hk_110
    rw [e] at H
    rcases if_e H with ⟨_, H⟩ | ⟨q, H⟩
    · refine z_zconst (M := M_X11_canBeLaidOver) (b := false) dX11_canBeLaidOver_25 rfl ?_
      cases H
      exact z_zret (M := M_X11_canBeLaidOver) dX11_canBeLaidOver_26 rfl (Nat.le_of_ble_eq_true rfl) (Nat.le_of_ble_eq_true rfl) ⟨rfl, rfl⟩
    · exact absurd rfl q
  have J_112 : v_108 = false → YY l E M_X11_canBeLaidOver 3 0 0 (pS (some (zv r)) σ) 27 [some (vr shape_0), some (vi x_2), none, none, none, none] [] σ 0 0 := by
    intro e
    have H := hk_110
    rw [e] at H
    rcases if_e H with ⟨q, H⟩ | ⟨_, H⟩
    · exact nomatch q
    · refine z_iconst (M := M_X11_canBeLaidOver) dX11_canBeLaidOver_27 ?_
      refine z_istore_n (M := M_X11_canBeLaidOver) (lv' := [some (vr shape_0), some (vi x_2), some (vi 0), none, none, none]) dX11_canBeLaidOver_28 (Nat.le_of_ble_eq_true rfl) rfl rfl ?_
      refine z_iconst (M := M_X11_canBeLaidOver) dX11_canBeLaidOver_29 ?_
      refine z_istore_n (M := M_X11_canBeLaidOver) (lv' := [some (vr shape_0), some (vi x_2), some (vi 0), some (vi 0), none, none]) dX11_canBeLaidOver_30 (Nat.le_of_ble_eq_true rfl) rfl rfl ?_
      obtain ⟨rl_74, hw_71, hk_72, hk_73⟩ := bx_e H
      have J_107 : ∀ from_105 at_106, rl_74 = (.inl (from_105, at_106)) → YY l E M_X11_canBeLaidOver 3 0 0 (pS (some (zv r)) σ) 95 [some (vr shape_0), some (vi x_2), some (vi from_105), some (vi at_106), none, none] [] σ 0 0 := by
        intro from_105 at_106 e
        have H := hk_72 _ e
        refine z_zconst (M := M_X11_canBeLaidOver) (b := true) dX11_canBeLaidOver_95 rfl ?_
        cases H
        exact z_zret (M := M_X11_canBeLaidOver) dX11_canBeLaidOver_96 rfl (Nat.le_of_ble_eq_true rfl) (Nat.le_of_ble_eq_true rfl) ⟨rfl, rfl⟩
      refine whl_go hw_71 (fun (from_69, at_70) => YY l E M_X11_canBeLaidOver 3 0 0 (pS (some (zv r)) σ) 31 [some (vr shape_0), some (vi x_2), some (vi from_69), some (vi at_70), none, none] [] σ 0 0) ?_
      rintro ⟨from_69, at_70⟩ o_75 H K_76 K_77
      refine z_iload_n (M := M_X11_canBeLaidOver) dX11_canBeLaidOver_31 rfl ?_
      refine z_iconst (M := M_X11_canBeLaidOver) dX11_canBeLaidOver_32 ?_
      refine z_iadd (M := M_X11_canBeLaidOver) dX11_canBeLaidOver_33 ?_
      refine z_aload_n (M := M_X11_canBeLaidOver) dX11_canBeLaidOver_34 rfl ?_
      refine z_getI (M := M_X11_canBeLaidOver) (ci := 9) (C := RX6) (T := TX6) (Nf := 5) (ty := tyX6) cl9 dX11_canBeLaidOver_35 (ly_S h_shape) 3 (by decide) t_79 rfl rfl ?_
      rcases if_e H with ⟨h_78, H⟩ | ⟨h_78, H⟩
      · refine z_icmp_ge_f (M := M_X11_canBeLaidOver) (tgt := 95) dX11_canBeLaidOver_38 (by decide) rfl rfl h_78 ?_
        refine z_iconst (M := M_X11_canBeLaidOver) dX11_canBeLaidOver_41 ?_
        refine z_istore (M := M_X11_canBeLaidOver) (lv' := [some (vr shape_0), some (vi x_2), some (vi from_69), some (vi at_70), some (vi 0), none]) dX11_canBeLaidOver_42 (Nat.le_of_ble_eq_true rfl) rfl rfl ?_
        obtain ⟨rl_84, hw_81, hk_82, hk_83⟩ := bx_e H
        have J_103 : ∀ from_98 row_99, rl_84 = (.inl (from_98, row_99)) → YY l E M_X11_canBeLaidOver 3 0 0 (pS (some (zv r)) σ) 86 [some (vr shape_0), some (vi x_2), some (vi from_98), some (vi at_70), some (vi row_99), none] [] σ 0 0 := by
          intro from_98 row_99 e
          have H := hk_82 _ e
          refine z_aload_n (M := M_X11_canBeLaidOver) dX11_canBeLaidOver_86 rfl ?_
          refine z_iload_n (M := M_X11_canBeLaidOver) dX11_canBeLaidOver_87 rfl ?_
          obtain ⟨x_101, hc_100, H⟩ := bd_e H
          refine z_callV (M := M_X11_canBeLaidOver) (M' := M_X6_behind) (as := [vi at_70]) (rest := []) rfl rfl dX11_canBeLaidOver_88 m_X6_behind t_1391 t_1107 t_1108 (c_X6_behind hl h_shape hc_100) rfl rfl (ly_S h_shape) rfl (Nat.le_of_ble_eq_true rfl) (Nat.le_of_ble_eq_true rfl) (Nat.le_of_ble_eq_true rfl) (Nat.le_of_ble_eq_true rfl) ?_
          refine z_st (st' := [vi x_101]) rfl ?_
          refine z_istore_n (M := M_X11_canBeLaidOver) (lv' := [some (vr shape_0), some (vi x_2), some (vi from_98), some (vi x_101), some (vi row_99), none]) dX11_canBeLaidOver_91 (Nat.le_of_ble_eq_true rfl) rfl rfl ?_
          refine z_goto (M := M_X11_canBeLaidOver) (tgt := 31) dX11_canBeLaidOver_92 (by decide) ?_
          refine z_le (lv' := [some (vr shape_0), some (vi x_2), some (vi from_98), some (vi x_101), none, none]) ⟨Or.inr rfl, Or.inr rfl, Or.inr rfl, Or.inr rfl, Or.inl rfl, Or.inl rfl, trivial⟩ ?_
          exact K_76 _ (Option.some.inj H).symm
        refine whl_go hw_81 (fun (from_79, row_80) => YY l E M_X11_canBeLaidOver 3 0 0 (pS (some (zv r)) σ) 44 [some (vr shape_0), some (vi x_2), some (vi from_79), some (vi at_70), some (vi row_80), none] [] σ 0 0) ?_
        rintro ⟨from_79, row_80⟩ o_85 H K_86 K_87
        refine z_iload (M := M_X11_canBeLaidOver) dX11_canBeLaidOver_44 rfl ?_
        refine z_aload_n (M := M_X11_canBeLaidOver) dX11_canBeLaidOver_46 rfl ?_
        refine z_iload_n (M := M_X11_canBeLaidOver) dX11_canBeLaidOver_47 rfl ?_
        obtain ⟨x_89, hc_88, H⟩ := bd_e H
        refine z_callV (M := M_X11_canBeLaidOver) (M' := M_X6_rows) (as := [vi at_70]) (rest := [vi row_80]) rfl rfl dX11_canBeLaidOver_48 m_X6_rows t_1388 t_1075 t_1076 (c_X6_rows hl h_shape hc_88) rfl rfl (ly_S h_shape) rfl (Nat.le_of_ble_eq_true rfl) (Nat.le_of_ble_eq_true rfl) (Nat.le_of_ble_eq_true rfl) (Nat.le_of_ble_eq_true rfl) ?_
        refine z_st (st' := [vi x_89, vi row_80]) rfl ?_
        rcases if_e H with ⟨h_90, H⟩ | ⟨h_90, H⟩
        · refine z_icmp_ge_f (M := M_X11_canBeLaidOver) (tgt := 86) dX11_canBeLaidOver_51 (by decide) rfl rfl h_90 ?_
          refine z_aload_n (M := M_X11_canBeLaidOver) dX11_canBeLaidOver_54 rfl ?_
          refine z_iload_n (M := M_X11_canBeLaidOver) dX11_canBeLaidOver_55 rfl ?_
          refine z_iload (M := M_X11_canBeLaidOver) dX11_canBeLaidOver_56 rfl ?_
          obtain ⟨x_92, hc_91, H⟩ := bd_e H
          refine z_callV (M := M_X11_canBeLaidOver) (M' := M_X6_rowLength) (as := [vi at_70, vi row_80]) (rest := []) rfl rfl dX11_canBeLaidOver_58 m_X6_rowLength t_1389 t_1080 t_1081 (c_X6_rowLength hl h_shape hc_91) rfl rfl (ly_S h_shape) rfl (Nat.le_of_ble_eq_true rfl) (Nat.le_of_ble_eq_true rfl) (Nat.le_of_ble_eq_true rfl) (Nat.le_of_ble_eq_true rfl) ?_
          refine z_st (st' := [vi x_92]) rfl ?_
          refine z_istore (M := M_X11_canBeLaidOver) (lv' := [some (vr shape_0), some (vi x_2), some (vi from_79), some (vi at_70), some (vi row_80), some (vi x_92)]) dX11_canBeLaidOver_61 (Nat.le_of_ble_eq_true rfl) rfl rfl ?_
          refine z_aload_n (M := M_X11_canBeLaidOver) dX11_canBeLaidOver_63 rfl ?_
          refine z_iload_n (M := M_X11_canBeLaidOver) dX11_canBeLaidOver_64 rfl ?_
          refine z_iload (M := M_X11_canBeLaidOver) dX11_canBeLaidOver_65 rfl ?_
          obtain ⟨x_94, hc_93, H⟩ := bd_e H
          refine z_callV (M := M_X11_canBeLaidOver) (M' := M_X6_isClosed) (as := [vi from_79, vi x_92]) (rest := []) rfl rfl dX11_canBeLaidOver_67 m_X6_isClosed t_1390 t_1202 t_1203 (c_X6_isClosed hl h_shape hc_93) rfl rfl (ly_S h_shape) rfl (Nat.le_of_ble_eq_true rfl) (Nat.le_of_ble_eq_true rfl) (Nat.le_of_ble_eq_true rfl) (Nat.le_of_ble_eq_true rfl) ?_
          refine z_st (st' := [zv x_94]) rfl ?_
          rcases if_e H with ⟨h_95, H⟩ | ⟨h_95, H⟩
          · refine z_zne_t (M := M_X11_canBeLaidOver) (tgt := 75) dX11_canBeLaidOver_70 (by decide) h_95 ?_
            refine z_iload_n (M := M_X11_canBeLaidOver) dX11_canBeLaidOver_75 rfl ?_
            refine z_iload (M := M_X11_canBeLaidOver) dX11_canBeLaidOver_76 rfl ?_
            refine z_iadd (M := M_X11_canBeLaidOver) dX11_canBeLaidOver_78 ?_
            refine z_istore_n (M := M_X11_canBeLaidOver) (lv' := [some (vr shape_0), some (vi x_2), some (vi (from_79 + x_92)), some (vi at_70), some (vi row_80), some (vi x_92)]) dX11_canBeLaidOver_79 (Nat.le_of_ble_eq_true rfl) rfl rfl ?_
            refine z_iinc (M := M_X11_canBeLaidOver) (lv' := [some (vr shape_0), some (vi x_2), some (vi (from_79 + x_92)), some (vi at_70), some (vi (row_80 + 1)), some (vi x_92)]) dX11_canBeLaidOver_80 rfl (Nat.le_of_ble_eq_true rfl) rfl rfl ?_
            refine z_goto (M := M_X11_canBeLaidOver) (tgt := 44) dX11_canBeLaidOver_83 (by decide) ?_
            refine z_le (lv' := [some (vr shape_0), some (vi x_2), some (vi (from_79 + x_92)), some (vi at_70), some (vi (row_80 + 1)), none]) ⟨Or.inr rfl, Or.inr rfl, Or.inr rfl, Or.inr rfl, Or.inr rfl, Or.inl rfl, trivial⟩ ?_
            exact K_86 _ (Option.some.inj H).symm
          · refine z_zne_f (M := M_X11_canBeLaidOver) (tgt := 75) dX11_canBeLaidOver_70 (by decide) h_95 ?_
            refine z_zconst (M := M_X11_canBeLaidOver) (b := false) dX11_canBeLaidOver_73 rfl ?_
            have H := congrArg some (hk_83 _ ((K_87 _ (Option.some.inj H).symm).symm))
            have H := congrArg some (hk_73 _ ((K_77 _ (Option.some.inj H).symm).symm))
            cases H
            exact z_zret (M := M_X11_canBeLaidOver) dX11_canBeLaidOver_74 rfl (Nat.le_of_ble_eq_true rfl) (Nat.le_of_ble_eq_true rfl) ⟨rfl, rfl⟩
        · refine z_icmp_ge_t (M := M_X11_canBeLaidOver) (tgt := 86) dX11_canBeLaidOver_51 (by decide) rfl rfl (Int.not_lt.mp h_90) ?_
          exact J_103 _ _ (K_87 _ (Option.some.inj H).symm).symm
      · refine z_icmp_ge_t (M := M_X11_canBeLaidOver) (tgt := 95) dX11_canBeLaidOver_38 (by decide) rfl rfl (Int.not_lt.mp h_78) ?_
        exact J_107 _ _ (K_77 _ (Option.some.inj H).symm).symm
  have H := he_109
  refine z_iload_n (M := M_X11_canBeLaidOver) dX11_canBeLaidOver_5 rfl ?_
  refine z_iconst (M := M_X11_canBeLaidOver) dX11_canBeLaidOver_6 ?_
  rcases if_e H with ⟨h_55, H⟩ | ⟨h_55, H⟩
  · refine z_icmp_eq_f (M := M_X11_canBeLaidOver) (tgt := 16) dX11_canBeLaidOver_7 (by decide) rfl (by decide +kernel) h_55 ?_
    refine z_iload_n (M := M_X11_canBeLaidOver) dX11_canBeLaidOver_10 rfl ?_
    refine z_bipush (M := M_X11_canBeLaidOver) dX11_canBeLaidOver_11 (by decide +kernel) ?_
    rcases if_e H with ⟨h_56, H⟩ | ⟨h_56, H⟩
    · refine z_icmp_ne_t (M := M_X11_canBeLaidOver) (tgt := 25) dX11_canBeLaidOver_13 (by decide) rfl (by decide +kernel) h_56 ?_
      exact J_111 (Option.some.inj H).symm
    · refine z_icmp_ne_f (M := M_X11_canBeLaidOver) (tgt := 25) dX11_canBeLaidOver_13 (by decide) rfl (by decide +kernel) (Decidable.not_not.mp h_56) ?_
      refine z_aload_n (M := M_X11_canBeLaidOver) dX11_canBeLaidOver_16 rfl ?_
      refine z_ldc (M := M_X11_canBeLaidOver) (n := 500000000) dX11_canBeLaidOver_17 t_1380 (by decide +kernel) ?_
      obtain ⟨x_59, hc_58, H⟩ := bd_e H
      refine z_callV (M := M_X11_canBeLaidOver) (M' := M_X6_liesWithin) (as := [vi 500000000]) (rest := []) rfl rfl dX11_canBeLaidOver_19 m_X6_liesWithin t_1381 t_1382 t_1383 (c_X6_liesWithin hl h_shape hc_58) rfl rfl (ly_S h_shape) rfl (Nat.le_of_ble_eq_true rfl) (Nat.le_of_ble_eq_true rfl) (Nat.le_of_ble_eq_true rfl) (Nat.le_of_ble_eq_true rfl) ?_
      refine z_st (st' := [zv x_59]) rfl ?_
      rcases if_e H with ⟨h_60, H⟩ | ⟨h_60, H⟩
      · refine z_zne_t (M := M_X11_canBeLaidOver) (tgt := 27) dX11_canBeLaidOver_22 (by decide) h_60 ?_
        exact J_112 (Option.some.inj H).symm
      · refine z_zne_f (M := M_X11_canBeLaidOver) (tgt := 27) dX11_canBeLaidOver_22 (by decide) h_60 ?_
        exact J_111 (Option.some.inj H).symm
  · refine z_icmp_eq_t (M := M_X11_canBeLaidOver) (tgt := 16) dX11_canBeLaidOver_7 (by decide) rfl (by decide +kernel) (Decidable.not_not.mp h_55) ?_
    refine z_aload_n (M := M_X11_canBeLaidOver) dX11_canBeLaidOver_16 rfl ?_
    refine z_ldc (M := M_X11_canBeLaidOver) (n := 500000000) dX11_canBeLaidOver_17 t_1380 (by decide +kernel) ?_
    obtain ⟨x_64, hc_63, H⟩ := bd_e H
    refine z_callV (M := M_X11_canBeLaidOver) (M' := M_X6_liesWithin) (as := [vi 500000000]) (rest := []) rfl rfl dX11_canBeLaidOver_19 m_X6_liesWithin t_1381 t_1382 t_1383 (c_X6_liesWithin hl h_shape hc_63) rfl rfl (ly_S h_shape) rfl (Nat.le_of_ble_eq_true rfl) (Nat.le_of_ble_eq_true rfl) (Nat.le_of_ble_eq_true rfl) (Nat.le_of_ble_eq_true rfl) ?_
    refine z_st (st' := [zv x_64]) rfl ?_
    rcases if_e H with ⟨h_65, H⟩ | ⟨h_65, H⟩
    · refine z_zne_t (M := M_X11_canBeLaidOver) (tgt := 27) dX11_canBeLaidOver_22 (by decide) h_65 ?_
      exact J_112 (Option.some.inj H).symm
    · refine z_zne_f (M := M_X11_canBeLaidOver) (tgt := 27) dX11_canBeLaidOver_22 (by decide) h_65 ?_
      exact J_111 (Option.some.inj H).symm
theorem c_X11_overlay (hl : l.stackTraces = false) {σ : SG} {what_0 : Int} {slot_0 : Int} {other_0 : Int} {to_0 : Int} {r : Int ⊕ Nat} {σ' : SG}  (H : fQ_overlay σ what_0 slot_0 other_0 to_0 = some (r, σ')) : en_S l E M_X11_overlay 9 6 36 [vr 32, vi what_0, vi slot_0, vi other_0, vi to_0] σ (pT (riT r) σ') := by
  unfold fQ_overlay at H
  refine z_mk (lv := [some (vr 32), some (vi what_0), some (vi slot_0), some (vi other_0), some (vi to_0), none, none, none]) m_X11_overlay rfl hl (Nat.le_of_ble_eq_true rfl) rfl ?_
  refine z_aload_n (M := M_X11_overlay) dX11_overlay_0 rfl ?_
  refine z_iload_n (M := M_X11_overlay) dX11_overlay_1 rfl ?_
  obtain ⟨z_77, σ_2, hc_1, K_4, K_5⟩ := bt_e H
  rcases z_77 with x_3 | z_77
  · have H := K_4 _ rfl
    refine z_callV (M := M_X11_overlay) (M' := M_X11_slotNumbered) (as := [vi slot_0]) (rest := []) rfl rfl dX11_overlay_2 m_X11_slotNumbered t_744 t_746 s_2 (v := some (vr x_3)) (c_X11_slotNumbered hl  hc_1) rfl rfl ly_32 rfl (Nat.le_of_ble_eq_true rfl) (Nat.le_of_ble_eq_true rfl) (Nat.le_of_ble_eq_true rfl) (Nat.le_of_ble_eq_true rfl) ?_
    refine z_st (st' := [vr x_3]) rfl ?_
    obtain ⟨hs_6, H⟩ := ck_e H
    refine z_astore (M := M_X11_overlay) (lv' := [some (vr 32), some (vi what_0), some (vi slot_0), some (vi other_0), some (vi to_0), some (vr x_3), none, none]) dX11_overlay_5 (Nat.le_of_ble_eq_true rfl) rfl rfl ?_
    refine z_aload_n (M := M_X11_overlay) dX11_overlay_7 rfl ?_
    refine z_iload_n (M := M_X11_overlay) dX11_overlay_8 rfl ?_
    obtain ⟨z_76, σ_8, hc_7, K_10, K_11⟩ := bt_e H
    rcases z_76 with x_9 | z_76
    · have H := K_10 _ rfl
      refine z_callV (M := M_X11_overlay) (M' := M_X11_slotNumbered) (as := [vi other_0]) (rest := []) rfl rfl dX11_overlay_9 m_X11_slotNumbered t_744 t_746 s_2 (v := some (vr x_9)) (c_X11_slotNumbered hl  hc_7) rfl rfl ly_32 rfl (Nat.le_of_ble_eq_true rfl) (Nat.le_of_ble_eq_true rfl) (Nat.le_of_ble_eq_true rfl) (Nat.le_of_ble_eq_true rfl) ?_
      refine z_st (st' := [vr x_9]) rfl ?_
      obtain ⟨hs_12, H⟩ := ck_e H
      refine z_astore (M := M_X11_overlay) (lv' := [some (vr 32), some (vi what_0), some (vi slot_0), some (vi other_0), some (vi to_0), some (vr x_3), some (vr x_9), none]) dX11_overlay_12 (Nat.le_of_ble_eq_true rfl) rfl rfl ?_
      refine z_aload_n (M := M_X11_overlay) dX11_overlay_14 rfl ?_
      refine z_iload (M := M_X11_overlay) dX11_overlay_15 rfl ?_
      obtain ⟨z_75, σ_14, hc_13, K_16, K_17⟩ := bt_e H
      rcases z_75 with x_15 | z_75
      · have H := K_16 _ rfl
        refine z_callV (M := M_X11_overlay) (M' := M_X11_slotNumbered) (as := [vi to_0]) (rest := []) rfl rfl dX11_overlay_17 m_X11_slotNumbered t_744 t_746 s_2 (v := some (vr x_15)) (c_X11_slotNumbered hl  hc_13) rfl rfl ly_32 rfl (Nat.le_of_ble_eq_true rfl) (Nat.le_of_ble_eq_true rfl) (Nat.le_of_ble_eq_true rfl) (Nat.le_of_ble_eq_true rfl) ?_
        refine z_st (st' := [vr x_15]) rfl ?_
        obtain ⟨hs_18, H⟩ := ck_e H
        refine z_astore (M := M_X11_overlay) (lv' := [some (vr 32), some (vi what_0), some (vi slot_0), some (vi other_0), some (vi to_0), some (vr x_3), some (vr x_9), some (vr x_15)]) dX11_overlay_20 (Nat.le_of_ble_eq_true rfl) rfl rfl ?_
        refine z_aload (M := M_X11_overlay) dX11_overlay_22 rfl ?_
        obtain ⟨z_74, σ_20, hc_19, K_22, K_23⟩ := bt_e H
        rcases z_74 with x_21 | z_74
        · have H := K_22 _ rfl
          refine z_callS (M := M_X11_overlay) (M' := M_X11_mustBeThere) (as := [vr x_3]) (rest := []) rfl rfl dX11_overlay_24 m_X11_mustBeThere t_1047 t_1048 (v := none) (c_X11_mustBeThere hl hs_6 hc_19) rfl rfl (Nat.le_of_ble_eq_true rfl) (Nat.le_of_ble_eq_true rfl) (Nat.le_of_ble_eq_true rfl) (Nat.le_of_ble_eq_true rfl) ?_
          refine z_st (st' := []) rfl ?_
          refine z_aload (M := M_X11_overlay) dX11_overlay_27 rfl ?_
          obtain ⟨z_73, σ_25, hc_24, K_27, K_28⟩ := bt_e H
          rcases z_73 with x_26 | z_73
          · have H := K_27 _ rfl
            refine z_callS (M := M_X11_overlay) (M' := M_X11_mustBeThere) (as := [vr x_9]) (rest := []) rfl rfl dX11_overlay_29 m_X11_mustBeThere t_1047 t_1048 (v := none) (c_X11_mustBeThere hl hs_12 hc_24) rfl rfl (Nat.le_of_ble_eq_true rfl) (Nat.le_of_ble_eq_true rfl) (Nat.le_of_ble_eq_true rfl) (Nat.le_of_ble_eq_true rfl) ?_
            refine z_st (st' := []) rfl ?_
            refine z_iload_n (M := M_X11_overlay) dX11_overlay_32 rfl ?_
            rcases if_e H with ⟨h_42, H⟩ | ⟨h_42, H⟩
            · refine z_if_lt_t (M := M_X11_overlay) (tgt := 57) dX11_overlay_33 (by decide) rfl h_42 ?_
              cases H
              exact z_throw (M := M_X11_overlay) (names := en_nm) rfl dX11_overlay_57 dX11_overlay_60 dX11_overlay_61 dX11_overlay_64 (by decide +kernel) en_nm_ok (Or.inl t_721) (Or.inl t_19) at_X11_IllegalArgumentException_118 (Nat.le_of_ble_eq_true rfl) (Nat.le_of_ble_eq_true rfl) (Nat.le_of_ble_eq_true rfl) (Nat.le_of_ble_eq_true rfl) ⟨rfl, rfl⟩
            · refine z_if_lt_f (M := M_X11_overlay) (tgt := 57) dX11_overlay_33 (by decide) rfl (Int.not_lt.mp h_42) ?_
              refine z_iload_n (M := M_X11_overlay) dX11_overlay_36 rfl ?_
              refine z_iconst (M := M_X11_overlay) dX11_overlay_37 ?_
              rcases if_e H with ⟨h_43, H⟩ | ⟨h_43, H⟩
              · refine z_icmp_ge_t (M := M_X11_overlay) (tgt := 57) dX11_overlay_38 (by decide) rfl (by decide +kernel) h_43 ?_
                cases H
                exact z_throw (M := M_X11_overlay) (names := en_nm) rfl dX11_overlay_57 dX11_overlay_60 dX11_overlay_61 dX11_overlay_64 (by decide +kernel) en_nm_ok (Or.inl t_721) (Or.inl t_19) at_X11_IllegalArgumentException_118 (Nat.le_of_ble_eq_true rfl) (Nat.le_of_ble_eq_true rfl) (Nat.le_of_ble_eq_true rfl) (Nat.le_of_ble_eq_true rfl) ⟨rfl, rfl⟩
              · refine z_icmp_ge_f (M := M_X11_overlay) (tgt := 57) dX11_overlay_38 (by decide) rfl (by decide +kernel) (Int.not_le.mp h_43) ?_
                refine z_aload (M := M_X11_overlay) dX11_overlay_41 rfl ?_
                obtain ⟨x_45, hc_44, H⟩ := bd_e H
                refine z_callS (M := M_X11_overlay) (M' := M_X11_canBeLaidOver) (as := [vr x_3]) (rest := []) rfl rfl dX11_overlay_43 m_X11_canBeLaidOver t_1377 t_1378 (c_X11_canBeLaidOver hl hs_6 hc_44) rfl rfl (Nat.le_of_ble_eq_true rfl) (Nat.le_of_ble_eq_true rfl) (Nat.le_of_ble_eq_true rfl) (Nat.le_of_ble_eq_true rfl) ?_
                refine z_st (st' := [zv x_45]) rfl ?_
                rcases if_e H with ⟨h_46, H⟩ | ⟨h_46, H⟩
                · refine z_zeq_f (M := M_X11_overlay) (tgt := 57) dX11_overlay_46 (by decide) h_46 ?_
                  refine z_aload (M := M_X11_overlay) dX11_overlay_49 rfl ?_
                  obtain ⟨x_48, hc_47, H⟩ := bd_e H
                  refine z_callS (M := M_X11_overlay) (M' := M_X11_canBeLaidOver) (as := [vr x_9]) (rest := []) rfl rfl dX11_overlay_51 m_X11_canBeLaidOver t_1377 t_1378 (c_X11_canBeLaidOver hl hs_12 hc_47) rfl rfl (Nat.le_of_ble_eq_true rfl) (Nat.le_of_ble_eq_true rfl) (Nat.le_of_ble_eq_true rfl) (Nat.le_of_ble_eq_true rfl) ?_
                  refine z_st (st' := [zv x_48]) rfl ?_
                  rcases if_e H with ⟨h_49, H⟩ | ⟨h_49, H⟩
                  · refine z_zne_t (M := M_X11_overlay) (tgt := 65) dX11_overlay_54 (by decide) h_49 ?_
                    refine z_aload_n (M := M_X11_overlay) dX11_overlay_65 rfl ?_
                    refine z_getR (M := M_X11_overlay) (ci := 14) (C := RX11) (T := TX11) (Nf := 19) (ty := tyX11) cl14 dX11_overlay_66 ly_32 10 (by decide) t_573 rfl ?_
                    refine z_aload (M := M_X11_overlay) dX11_overlay_69 rfl ?_
                    refine z_aload (M := M_X11_overlay) dX11_overlay_71 rfl ?_
                    obtain ⟨⟨x_63, σ_62⟩, hc_61, H⟩ := bd_e H
                    refine z_callV (M := M_X11_overlay) (M' := M_X8_snap) (as := [vr x_3, vr x_9]) (rest := []) rfl rfl dX11_overlay_73 m_X8_snap t_1392 t_1393 t_1394 (c_X8_snap hl hs_6 hs_12 hc_61) rfl rfl ly_193 rfl (Nat.le_of_ble_eq_true rfl) (Nat.le_of_ble_eq_true rfl) (Nat.le_of_ble_eq_true rfl) (Nat.le_of_ble_eq_true rfl) ?_
                    refine z_st (st' := [zv x_63]) rfl ?_
                    rcases if_e H with ⟨h_64, H⟩ | ⟨h_64, H⟩
                    · refine z_zeq_f (M := M_X11_overlay) (tgt := 94) dX11_overlay_76 (by decide) h_64 ?_
                      refine z_aload_n (M := M_X11_overlay) dX11_overlay_79 rfl ?_
                      refine z_getR (M := M_X11_overlay) (ci := 14) (C := RX11) (T := TX11) (Nf := 19) (ty := tyX11) cl14 dX11_overlay_80 ly_32 11 (by decide) t_574 rfl ?_
                      refine z_iload_n (M := M_X11_overlay) dX11_overlay_83 rfl ?_
                      refine z_aload_n (M := M_X11_overlay) dX11_overlay_84 rfl ?_
                      refine z_getR (M := M_X11_overlay) (ci := 14) (C := RX11) (T := TX11) (Nf := 19) (ty := tyX11) cl14 dX11_overlay_85 ly_32 1 (by decide) t_564 rfl ?_
                      obtain ⟨⟨x_67, σ_66⟩, hc_65, H⟩ := bd_e H
                      refine z_callV (M := M_X11_overlay) (M' := M_X4_make) (as := [vi what_0, vr 162]) (rest := []) rfl rfl dX11_overlay_88 m_X4_make t_1488 t_1489 t_1490 (c_X4_make hl (by decide) hc_65) rfl rfl ly_208 rfl (Nat.le_of_ble_eq_true rfl) (Nat.le_of_ble_eq_true rfl) (Nat.le_of_ble_eq_true rfl) (Nat.le_of_ble_eq_true rfl) ?_
                      refine z_st (st' := [zv x_67]) rfl ?_
                      rcases if_e H with ⟨h_68, H⟩ | ⟨h_68, H⟩
                      · refine z_zne_t (M := M_X11_overlay) (tgt := 102) dX11_overlay_91 (by decide) h_68 ?_
                        refine z_aload (M := M_X11_overlay) dX11_overlay_102 rfl ?_
                        refine z_aload_n (M := M_X11_overlay) dX11_overlay_104 rfl ?_
                        refine z_getR (M := M_X11_overlay) (ci := 14) (C := RX11) (T := TX11) (Nf := 19) (ty := tyX11) cl14 dX11_overlay_105 ly_32 1 (by decide) t_564 rfl ?_
                        obtain ⟨σ_70, hc_69, H⟩ := bd_e H
                        refine z_callV (M := M_X11_overlay) (M' := M_X6_become) (as := [vr 162]) (rest := []) rfl rfl dX11_overlay_108 m_X6_become t_1150 t_1151 t_1152 (c_X6_become hl hs_18 (by decide) hc_69) rfl rfl (ly_S hs_18) rfl (Nat.le_of_ble_eq_true rfl) (Nat.le_of_ble_eq_true rfl) (Nat.le_of_ble_eq_true rfl) (Nat.le_of_ble_eq_true rfl) ?_
                        refine z_st (st' := []) rfl ?_
                        refine z_aload (M := M_X11_overlay) dX11_overlay_111 rfl ?_
                        refine z_getR (M := M_X11_overlay) (ci := 9) (C := RX6) (T := TX6) (Nf := 5) (ty := tyX6) cl9 dX11_overlay_113 (ly_S hs_18) 0 (by decide) t_55 rfl ?_
                        refine z_iconst (M := M_X11_overlay) dX11_overlay_116 ?_
                        obtain ⟨x_71, x_71_e, hi_72, H⟩ := rd_e H
                        refine z_iald (M := M_X11_overlay) dX11_overlay_117 (ly_Sp hs_18) rfl (by decide +kernel) rfl hi_72 x_71_e ?_
                        cases H
                        exact z_iret (M := M_X11_overlay) dX11_overlay_118 rfl (Nat.le_of_ble_eq_true rfl) (Nat.le_of_ble_eq_true rfl) ⟨rfl, rfl⟩
                      · refine z_zne_f (M := M_X11_overlay) (tgt := 102) dX11_overlay_91 (by decide) h_68 ?_
                        cases H
                        exact z_throw (M := M_X11_overlay) (names := en_nm) rfl dX11_overlay_94 dX11_overlay_97 dX11_overlay_98 dX11_overlay_101 (by decide +kernel) en_nm_ok (Or.inl t_1857) (Or.inl t_34) at_X11_UnsupportedOperationException_234 (Nat.le_of_ble_eq_true rfl) (Nat.le_of_ble_eq_true rfl) (Nat.le_of_ble_eq_true rfl) (Nat.le_of_ble_eq_true rfl) ⟨rfl, rfl⟩
                    · refine z_zeq_t (M := M_X11_overlay) (tgt := 94) dX11_overlay_76 (by decide) h_64 ?_
                      cases H
                      exact z_throw (M := M_X11_overlay) (names := en_nm) rfl dX11_overlay_94 dX11_overlay_97 dX11_overlay_98 dX11_overlay_101 (by decide +kernel) en_nm_ok (Or.inl t_1857) (Or.inl t_34) at_X11_UnsupportedOperationException_234 (Nat.le_of_ble_eq_true rfl) (Nat.le_of_ble_eq_true rfl) (Nat.le_of_ble_eq_true rfl) (Nat.le_of_ble_eq_true rfl) ⟨rfl, rfl⟩
                  · refine z_zne_f (M := M_X11_overlay) (tgt := 65) dX11_overlay_54 (by decide) h_49 ?_
                    cases H
                    exact z_throw (M := M_X11_overlay) (names := en_nm) rfl dX11_overlay_57 dX11_overlay_60 dX11_overlay_61 dX11_overlay_64 (by decide +kernel) en_nm_ok (Or.inl t_721) (Or.inl t_19) at_X11_IllegalArgumentException_118 (Nat.le_of_ble_eq_true rfl) (Nat.le_of_ble_eq_true rfl) (Nat.le_of_ble_eq_true rfl) (Nat.le_of_ble_eq_true rfl) ⟨rfl, rfl⟩
                · refine z_zeq_t (M := M_X11_overlay) (tgt := 57) dX11_overlay_46 (by decide) h_46 ?_
                  cases H
                  exact z_throw (M := M_X11_overlay) (names := en_nm) rfl dX11_overlay_57 dX11_overlay_60 dX11_overlay_61 dX11_overlay_64 (by decide +kernel) en_nm_ok (Or.inl t_721) (Or.inl t_19) at_X11_IllegalArgumentException_118 (Nat.le_of_ble_eq_true rfl) (Nat.le_of_ble_eq_true rfl) (Nat.le_of_ble_eq_true rfl) (Nat.le_of_ble_eq_true rfl) ⟨rfl, rfl⟩
          · have H := K_28 _ rfl
            cases H
            exact z_callSX (M := M_X11_overlay) (M' := M_X11_mustBeThere) (as := [vr x_9]) (rest := []) rfl rfl dX11_overlay_29 m_X11_mustBeThere t_1047 t_1048 (e := z_73) (c_X11_mustBeThere hl hs_12 hc_24) rfl rfl (Nat.le_of_ble_eq_true rfl) (Nat.le_of_ble_eq_true rfl) (Nat.le_of_ble_eq_true rfl) (Nat.le_of_ble_eq_true rfl) ⟨rfl, rfl⟩
        · have H := K_23 _ rfl
          cases H
          exact z_callSX (M := M_X11_overlay) (M' := M_X11_mustBeThere) (as := [vr x_3]) (rest := []) rfl rfl dX11_overlay_24 m_X11_mustBeThere t_1047 t_1048 (e := z_74) (c_X11_mustBeThere hl hs_6 hc_19) rfl rfl (Nat.le_of_ble_eq_true rfl) (Nat.le_of_ble_eq_true rfl) (Nat.le_of_ble_eq_true rfl) (Nat.le_of_ble_eq_true rfl) ⟨rfl, rfl⟩
      · have H := K_17 _ rfl
        cases H
        exact z_callVX (M := M_X11_overlay) (M' := M_X11_slotNumbered) (as := [vi to_0]) (rest := []) rfl rfl dX11_overlay_17 m_X11_slotNumbered t_744 t_746 s_2 (e := z_75) (c_X11_slotNumbered hl  hc_13) rfl rfl ly_32 rfl (Nat.le_of_ble_eq_true rfl) (Nat.le_of_ble_eq_true rfl) (Nat.le_of_ble_eq_true rfl) (Nat.le_of_ble_eq_true rfl) ⟨rfl, rfl⟩
    · have H := K_11 _ rfl
      cases H
      exact z_callVX (M := M_X11_overlay) (M' := M_X11_slotNumbered) (as := [vi other_0]) (rest := []) rfl rfl dX11_overlay_9 m_X11_slotNumbered t_744 t_746 s_2 (e := z_76) (c_X11_slotNumbered hl  hc_7) rfl rfl ly_32 rfl (Nat.le_of_ble_eq_true rfl) (Nat.le_of_ble_eq_true rfl) (Nat.le_of_ble_eq_true rfl) (Nat.le_of_ble_eq_true rfl) ⟨rfl, rfl⟩
  · have H := K_5 _ rfl
    cases H
    exact z_callVX (M := M_X11_overlay) (M' := M_X11_slotNumbered) (as := [vi slot_0]) (rest := []) rfl rfl dX11_overlay_2 m_X11_slotNumbered t_744 t_746 s_2 (e := z_77) (c_X11_slotNumbered hl  hc_1) rfl rfl ly_32 rfl (Nat.le_of_ble_eq_true rfl) (Nat.le_of_ble_eq_true rfl) (Nat.le_of_ble_eq_true rfl) (Nat.le_of_ble_eq_true rfl) ⟨rfl, rfl⟩
theorem c_X11_carryOf (hl : l.stackTraces = false) {σ : SG} {sum_0 : Int} {added_0 : Int} {r : Int}  (H : fQ_carryOf sum_0 added_0 = r) : en_S l E M_X11_carryOf 1 0 0 [vl sum_0, vl added_0] σ (pS (some (vi r)) σ) := by
  unfold fQ_carryOf at H
  refine z_mk (lv := [some (vl sum_0), none, some (vl added_0), none]) m_X11_carryOf rfl hl (Nat.le_of_ble_eq_true rfl) rfl ?_
  have J_1 : YY l E M_X11_carryOf 1 0 0 (pS (some (vi r)) σ) 19 [some (vl sum_0), none, some (vl added_0), none] [vi (if (w64 (sum_0 + (-9223372036854775808))) < (w64 (added_0 + (-9223372036854775808))) then 1 else 0)] σ 0 0 := by
    cases H
    exact z_iret (M := M_X11_carryOf) dX11_carryOf_19 rfl (Nat.le_of_ble_eq_true rfl) (Nat.le_of_ble_eq_true rfl) ⟨rfl, rfl⟩
  refine z_lload_n (M := M_X11_carryOf) dX11_carryOf_0 rfl ?_
  refine z_ldc2 (M := M_X11_carryOf) (n := (-9223372036854775808)) dX11_carryOf_1 t_1946 (by decide +kernel) ?_
  refine z_ladd (M := M_X11_carryOf) dX11_carryOf_4 ?_
  refine z_lload_n (M := M_X11_carryOf) dX11_carryOf_5 rfl ?_
  refine z_ldc2 (M := M_X11_carryOf) (n := (-9223372036854775808)) dX11_carryOf_6 t_1946 (by decide +kernel) ?_
  refine z_ladd (M := M_X11_carryOf) dX11_carryOf_9 ?_
  refine z_lcmp (M := M_X11_carryOf) dX11_carryOf_10 ?_
  by_cases h_2 : (w64 (sum_0 + (-9223372036854775808))) < (w64 (added_0 + (-9223372036854775808)))
  · refine z_lif_ge_f (M := M_X11_carryOf) (tgt := 18) dX11_carryOf_11 (by decide) rfl rfl h_2 ?_
    refine z_iconst (M := M_X11_carryOf) dX11_carryOf_14 ?_
    refine z_goto (M := M_X11_carryOf) (tgt := 19) dX11_carryOf_15 (by decide) ?_
    exact z_st (by rw [if_pos (c := (w64 (sum_0 + (-9223372036854775808))) < (w64 (added_0 + (-9223372036854775808)))) h_2]) J_1
  · refine z_lif_ge_t (M := M_X11_carryOf) (tgt := 18) dX11_carryOf_11 (by decide) rfl rfl (Int.not_lt.mp h_2) ?_
    refine z_iconst (M := M_X11_carryOf) dX11_carryOf_18 ?_
    exact z_st (by rw [if_neg (c := (w64 (sum_0 + (-9223372036854775808))) < (w64 (added_0 + (-9223372036854775808)))) h_2]) J_1
theorem c_X11_highOf (hl : l.stackTraces = false) {σ : SG} {a_0 : Int} {b_0 : Int} {r : Int}  (H : fQ_highOf a_0 b_0 = r) : en_S l E M_X11_highOf 1 0 0 [vl a_0, vl b_0] σ (pS (some (vl r)) σ) := by
  unfold fQ_highOf at H
  refine z_mk (lv := [some (vl a_0), none, some (vl b_0), none, none, none, none, none, none, none, none, none, none, none, none, none, none, none]) m_X11_highOf rfl hl (Nat.le_of_ble_eq_true rfl) rfl ?_
  refine z_ldc2 (M := M_X11_highOf) (n := 4294967295) dX11_highOf_0 t_1429 (by decide +kernel) ?_
  refine z_lstore (M := M_X11_highOf) (lv' := [some (vl a_0), none, some (vl b_0), none, some (vl 4294967295), none, none, none, none, none, none, none, none, none, none, none, none, none]) dX11_highOf_3 (Nat.le_of_ble_eq_true rfl) rfl rfl ?_
  refine z_lload_n (M := M_X11_highOf) dX11_highOf_5 rfl ?_
  refine z_lload (M := M_X11_highOf) dX11_highOf_6 rfl ?_
  refine z_land (M := M_X11_highOf) dX11_highOf_8 ?_
  refine z_lstore (M := M_X11_highOf) (lv' := [some (vl a_0), none, some (vl b_0), none, some (vl 4294967295), none, some (vl (q_lan a_0 4294967295)), none, none, none, none, none, none, none, none, none, none, none]) dX11_highOf_9 (Nat.le_of_ble_eq_true rfl) rfl rfl ?_
  refine z_lload_n (M := M_X11_highOf) dX11_highOf_11 rfl ?_
  refine z_bipush (M := M_X11_highOf) dX11_highOf_12 (by decide +kernel) ?_
  refine z_lshr (M := M_X11_highOf) dX11_highOf_14 ?_
  refine z_lstore (M := M_X11_highOf) (lv' := [some (vl a_0), none, some (vl b_0), none, some (vl 4294967295), none, some (vl (q_lan a_0 4294967295)), none, some (vl (q_lsr a_0 32)), none, none, none, none, none, none, none, none, none]) dX11_highOf_15 (Nat.le_of_ble_eq_true rfl) rfl rfl ?_
  refine z_lload_n (M := M_X11_highOf) dX11_highOf_17 rfl ?_
  refine z_lload (M := M_X11_highOf) dX11_highOf_18 rfl ?_
  refine z_land (M := M_X11_highOf) dX11_highOf_20 ?_
  refine z_lstore (M := M_X11_highOf) (lv' := [some (vl a_0), none, some (vl b_0), none, some (vl 4294967295), none, some (vl (q_lan a_0 4294967295)), none, some (vl (q_lsr a_0 32)), none, some (vl (q_lan b_0 4294967295)), none, none, none, none, none, none, none]) dX11_highOf_21 (Nat.le_of_ble_eq_true rfl) rfl rfl ?_
  refine z_lload_n (M := M_X11_highOf) dX11_highOf_23 rfl ?_
  refine z_bipush (M := M_X11_highOf) dX11_highOf_24 (by decide +kernel) ?_
  refine z_lshr (M := M_X11_highOf) dX11_highOf_26 ?_
  refine z_lstore (M := M_X11_highOf) (lv' := [some (vl a_0), none, some (vl b_0), none, some (vl 4294967295), none, some (vl (q_lan a_0 4294967295)), none, some (vl (q_lsr a_0 32)), none, some (vl (q_lan b_0 4294967295)), none, some (vl (q_lsr b_0 32)), none, none, none, none, none]) dX11_highOf_27 (Nat.le_of_ble_eq_true rfl) rfl rfl ?_
  refine z_lload (M := M_X11_highOf) dX11_highOf_29 rfl ?_
  refine z_lload (M := M_X11_highOf) dX11_highOf_31 rfl ?_
  refine z_lmul (M := M_X11_highOf) dX11_highOf_33 ?_
  refine z_lload (M := M_X11_highOf) dX11_highOf_34 rfl ?_
  refine z_lload (M := M_X11_highOf) dX11_highOf_36 rfl ?_
  refine z_lmul (M := M_X11_highOf) dX11_highOf_38 ?_
  refine z_bipush (M := M_X11_highOf) dX11_highOf_39 (by decide +kernel) ?_
  refine z_lushr (M := M_X11_highOf) dX11_highOf_41 ?_
  refine z_ladd (M := M_X11_highOf) dX11_highOf_42 ?_
  refine z_lstore (M := M_X11_highOf) (lv' := [some (vl a_0), none, some (vl b_0), none, some (vl 4294967295), none, some (vl (q_lan a_0 4294967295)), none, some (vl (q_lsr a_0 32)), none, some (vl (q_lan b_0 4294967295)), none, some (vl (q_lsr b_0 32)), none, some (vl (((q_lsr a_0 32) * (q_lan b_0 4294967295)) + (q_lus ((q_lan a_0 4294967295) * (q_lan b_0 4294967295)) 32))), none, none, none]) dX11_highOf_43 (Nat.le_of_ble_eq_true rfl) rfl rfl ?_
  refine z_lload (M := M_X11_highOf) dX11_highOf_45 rfl ?_
  refine z_lload (M := M_X11_highOf) dX11_highOf_47 rfl ?_
  refine z_lmul (M := M_X11_highOf) dX11_highOf_49 ?_
  refine z_lload (M := M_X11_highOf) dX11_highOf_50 rfl ?_
  refine z_lload (M := M_X11_highOf) dX11_highOf_52 rfl ?_
  refine z_land (M := M_X11_highOf) dX11_highOf_54 ?_
  refine z_ladd (M := M_X11_highOf) dX11_highOf_55 ?_
  refine z_lstore (M := M_X11_highOf) (lv' := [some (vl a_0), none, some (vl b_0), none, some (vl 4294967295), none, some (vl (q_lan a_0 4294967295)), none, some (vl (q_lsr a_0 32)), none, some (vl (q_lan b_0 4294967295)), none, some (vl (q_lsr b_0 32)), none, some (vl (((q_lsr a_0 32) * (q_lan b_0 4294967295)) + (q_lus ((q_lan a_0 4294967295) * (q_lan b_0 4294967295)) 32))), none, some (vl (((q_lan a_0 4294967295) * (q_lsr b_0 32)) + (q_lan (((q_lsr a_0 32) * (q_lan b_0 4294967295)) + (q_lus ((q_lan a_0 4294967295) * (q_lan b_0 4294967295)) 32)) 4294967295))), none]) dX11_highOf_56 (Nat.le_of_ble_eq_true rfl) rfl rfl ?_
  refine z_lload (M := M_X11_highOf) dX11_highOf_58 rfl ?_
  refine z_lload (M := M_X11_highOf) dX11_highOf_60 rfl ?_
  refine z_lmul (M := M_X11_highOf) dX11_highOf_62 ?_
  refine z_lload (M := M_X11_highOf) dX11_highOf_63 rfl ?_
  refine z_bipush (M := M_X11_highOf) dX11_highOf_65 (by decide +kernel) ?_
  refine z_lshr (M := M_X11_highOf) dX11_highOf_67 ?_
  refine z_ladd (M := M_X11_highOf) dX11_highOf_68 ?_
  refine z_lload (M := M_X11_highOf) dX11_highOf_69 rfl ?_
  refine z_bipush (M := M_X11_highOf) dX11_highOf_71 (by decide +kernel) ?_
  refine z_lshr (M := M_X11_highOf) dX11_highOf_73 ?_
  refine z_ladd (M := M_X11_highOf) dX11_highOf_74 ?_
  cases H
  exact z_lret (M := M_X11_highOf) dX11_highOf_75 rfl (Nat.le_of_ble_eq_true rfl) (Nat.le_of_ble_eq_true rfl) ⟨rfl, rfl⟩
theorem c_X11_signOfSum (hl : l.stackTraces = false) {σ : SG} {a_0 : Int} {b_0 : Int} {c_0 : Int} {d_0 : Int} {e_0 : Int} {f_0 : Int} {r : Int}  (H : fQ_signOfSum a_0 b_0 c_0 d_0 e_0 f_0 = r) : en_S l E M_X11_signOfSum 2 0 0 [vl a_0, vl b_0, vl c_0, vl d_0, vl e_0, vl f_0] σ (pS (some (vi r)) σ) := by
  unfold fQ_signOfSum at H
  refine z_mk (lv := [some (vl a_0), none, some (vl b_0), none, some (vl c_0), none, some (vl d_0), none, some (vl e_0), none, some (vl f_0), none, none, none, none, none, none, none]) m_X11_signOfSum rfl hl (Nat.le_of_ble_eq_true rfl) rfl ?_
  refine z_lload_n (M := M_X11_signOfSum) dX11_signOfSum_0 rfl ?_
  refine z_lload_n (M := M_X11_signOfSum) dX11_signOfSum_1 rfl ?_
  refine z_lmul (M := M_X11_signOfSum) dX11_signOfSum_2 ?_
  refine z_lstore (M := M_X11_signOfSum) (lv' := [some (vl a_0), none, some (vl b_0), none, some (vl c_0), none, some (vl d_0), none, some (vl e_0), none, some (vl f_0), none, some (vl (a_0 * b_0)), none, none, none, none, none]) dX11_signOfSum_3 (Nat.le_of_ble_eq_true rfl) rfl rfl ?_
  refine z_lload_n (M := M_X11_signOfSum) dX11_signOfSum_5 rfl ?_
  refine z_lload_n (M := M_X11_signOfSum) dX11_signOfSum_6 rfl ?_
  refine z_callS (M := M_X11_signOfSum) (M' := M_X11_highOf) (as := [vl a_0, vl b_0]) (rest := []) rfl rfl dX11_signOfSum_7 m_X11_highOf t_1940 t_1941 (c_X11_highOf hl  rfl) rfl rfl (Nat.le_of_ble_eq_true rfl) (Nat.le_of_ble_eq_true rfl) (Nat.le_of_ble_eq_true rfl) (Nat.le_of_ble_eq_true rfl) ?_
  refine z_st (st' := [vl (fQ_highOf a_0 b_0)]) rfl ?_
  refine z_lstore (M := M_X11_signOfSum) (lv' := [some (vl a_0), none, some (vl b_0), none, some (vl c_0), none, some (vl d_0), none, some (vl e_0), none, some (vl f_0), none, some (vl (a_0 * b_0)), none, some (vl (fQ_highOf a_0 b_0)), none, none, none]) dX11_signOfSum_10 (Nat.le_of_ble_eq_true rfl) rfl rfl ?_
  refine z_lload (M := M_X11_signOfSum) dX11_signOfSum_12 rfl ?_
  refine z_lload (M := M_X11_signOfSum) dX11_signOfSum_14 rfl ?_
  refine z_lmul (M := M_X11_signOfSum) dX11_signOfSum_16 ?_
  refine z_lstore (M := M_X11_signOfSum) (lv' := [some (vl a_0), none, some (vl b_0), none, some (vl c_0), none, some (vl d_0), none, some (vl e_0), none, some (vl f_0), none, some (vl (a_0 * b_0)), none, some (vl (fQ_highOf a_0 b_0)), none, some (vl (c_0 * d_0)), none]) dX11_signOfSum_17 (Nat.le_of_ble_eq_true rfl) rfl rfl ?_
  refine z_lload (M := M_X11_signOfSum) dX11_signOfSum_19 rfl ?_
  refine z_lload (M := M_X11_signOfSum) dX11_signOfSum_21 rfl ?_
  refine z_ladd (M := M_X11_signOfSum) dX11_signOfSum_23 ?_
  refine z_lstore (M := M_X11_signOfSum) (lv' := [some (vl a_0), none, some (vl b_0), none, some (vl c_0), none, some (vl d_0), none, some (vl e_0), none, some (vl f_0), none, some (vl ((a_0 * b_0) + (c_0 * d_0))), none, some (vl (fQ_highOf a_0 b_0)), none, some (vl (c_0 * d_0)), none]) dX11_signOfSum_24 (Nat.le_of_ble_eq_true rfl) rfl rfl ?_
  refine z_lload (M := M_X11_signOfSum) dX11_signOfSum_26 rfl ?_
  refine z_lload (M := M_X11_signOfSum) dX11_signOfSum_28 rfl ?_
  refine z_lload (M := M_X11_signOfSum) dX11_signOfSum_30 rfl ?_
  refine z_callS (M := M_X11_signOfSum) (M' := M_X11_highOf) (as := [vl c_0, vl d_0]) (rest := [vl (fQ_highOf a_0 b_0)]) rfl rfl dX11_signOfSum_32 m_X11_highOf t_1940 t_1941 (c_X11_highOf hl  rfl) rfl rfl (Nat.le_of_ble_eq_true rfl) (Nat.le_of_ble_eq_true rfl) (Nat.le_of_ble_eq_true rfl) (Nat.le_of_ble_eq_true rfl) ?_
  refine z_st (st' := [vl (fQ_highOf c_0 d_0), vl (fQ_highOf a_0 b_0)]) rfl ?_
  refine z_lload (M := M_X11_signOfSum) dX11_signOfSum_35 rfl ?_
  refine z_lload (M := M_X11_signOfSum) dX11_signOfSum_37 rfl ?_
  refine z_callS (M := M_X11_signOfSum) (M' := M_X11_carryOf) (as := [vl ((a_0 * b_0) + (c_0 * d_0)), vl (c_0 * d_0)]) (rest := [vl (fQ_highOf c_0 d_0), vl (fQ_highOf a_0 b_0)]) rfl rfl dX11_signOfSum_39 m_X11_carryOf t_1943 t_1944 (c_X11_carryOf hl  rfl) rfl rfl (Nat.le_of_ble_eq_true rfl) (Nat.le_of_ble_eq_true rfl) (Nat.le_of_ble_eq_true rfl) (Nat.le_of_ble_eq_true rfl) ?_
  refine z_st (st' := [vi (fQ_carryOf ((a_0 * b_0) + (c_0 * d_0)) (c_0 * d_0)), vl (fQ_highOf c_0 d_0), vl (fQ_highOf a_0 b_0)]) rfl ?_
  refine z_i2l (M := M_X11_signOfSum) dX11_signOfSum_42 ?_
  refine z_ladd (M := M_X11_signOfSum) dX11_signOfSum_43 ?_
  refine z_ladd (M := M_X11_signOfSum) dX11_signOfSum_44 ?_
  refine z_lstore (M := M_X11_signOfSum) (lv' := [some (vl a_0), none, some (vl b_0), none, some (vl c_0), none, some (vl d_0), none, some (vl e_0), none, some (vl f_0), none, some (vl ((a_0 * b_0) + (c_0 * d_0))), none, some (vl ((fQ_highOf a_0 b_0) + ((fQ_highOf c_0 d_0) + (w32 (fQ_carryOf ((a_0 * b_0) + (c_0 * d_0)) (c_0 * d_0)))))), none, some (vl (c_0 * d_0)), none]) dX11_signOfSum_45 (Nat.le_of_ble_eq_true rfl) rfl rfl ?_
  refine z_lload (M := M_X11_signOfSum) dX11_signOfSum_47 rfl ?_
  refine z_lload (M := M_X11_signOfSum) dX11_signOfSum_49 rfl ?_
  refine z_lmul (M := M_X11_signOfSum) dX11_signOfSum_51 ?_
  refine z_lstore (M := M_X11_signOfSum) (lv' := [some (vl a_0), none, some (vl b_0), none, some (vl c_0), none, some (vl d_0), none, some (vl e_0), none, some (vl f_0), none, some (vl ((a_0 * b_0) + (c_0 * d_0))), none, some (vl ((fQ_highOf a_0 b_0) + ((fQ_highOf c_0 d_0) + (w32 (fQ_carryOf ((a_0 * b_0) + (c_0 * d_0)) (c_0 * d_0)))))), none, some (vl (e_0 * f_0)), none]) dX11_signOfSum_52 (Nat.le_of_ble_eq_true rfl) rfl rfl ?_
  refine z_lload (M := M_X11_signOfSum) dX11_signOfSum_54 rfl ?_
  refine z_lload (M := M_X11_signOfSum) dX11_signOfSum_56 rfl ?_
  refine z_ladd (M := M_X11_signOfSum) dX11_signOfSum_58 ?_
  refine z_lstore (M := M_X11_signOfSum) (lv' := [some (vl a_0), none, some (vl b_0), none, some (vl c_0), none, some (vl d_0), none, some (vl e_0), none, some (vl f_0), none, some (vl (((a_0 * b_0) + (c_0 * d_0)) + (e_0 * f_0))), none, some (vl ((fQ_highOf a_0 b_0) + ((fQ_highOf c_0 d_0) + (w32 (fQ_carryOf ((a_0 * b_0) + (c_0 * d_0)) (c_0 * d_0)))))), none, some (vl (e_0 * f_0)), none]) dX11_signOfSum_59 (Nat.le_of_ble_eq_true rfl) rfl rfl ?_
  refine z_lload (M := M_X11_signOfSum) dX11_signOfSum_61 rfl ?_
  refine z_lload (M := M_X11_signOfSum) dX11_signOfSum_63 rfl ?_
  refine z_lload (M := M_X11_signOfSum) dX11_signOfSum_65 rfl ?_
  refine z_callS (M := M_X11_signOfSum) (M' := M_X11_highOf) (as := [vl e_0, vl f_0]) (rest := [vl ((fQ_highOf a_0 b_0) + ((fQ_highOf c_0 d_0) + (w32 (fQ_carryOf ((a_0 * b_0) + (c_0 * d_0)) (c_0 * d_0)))))]) rfl rfl dX11_signOfSum_67 m_X11_highOf t_1940 t_1941 (c_X11_highOf hl  rfl) rfl rfl (Nat.le_of_ble_eq_true rfl) (Nat.le_of_ble_eq_true rfl) (Nat.le_of_ble_eq_true rfl) (Nat.le_of_ble_eq_true rfl) ?_
  refine z_st (st' := [vl (fQ_highOf e_0 f_0), vl ((fQ_highOf a_0 b_0) + ((fQ_highOf c_0 d_0) + (w32 (fQ_carryOf ((a_0 * b_0) + (c_0 * d_0)) (c_0 * d_0)))))]) rfl ?_
  refine z_lload (M := M_X11_signOfSum) dX11_signOfSum_70 rfl ?_
  refine z_lload (M := M_X11_signOfSum) dX11_signOfSum_72 rfl ?_
  refine z_callS (M := M_X11_signOfSum) (M' := M_X11_carryOf) (as := [vl (((a_0 * b_0) + (c_0 * d_0)) + (e_0 * f_0)), vl (e_0 * f_0)]) (rest := [vl (fQ_highOf e_0 f_0), vl ((fQ_highOf a_0 b_0) + ((fQ_highOf c_0 d_0) + (w32 (fQ_carryOf ((a_0 * b_0) + (c_0 * d_0)) (c_0 * d_0)))))]) rfl rfl dX11_signOfSum_74 m_X11_carryOf t_1943 t_1944 (c_X11_carryOf hl  rfl) rfl rfl (Nat.le_of_ble_eq_true rfl) (Nat.le_of_ble_eq_true rfl) (Nat.le_of_ble_eq_true rfl) (Nat.le_of_ble_eq_true rfl) ?_
  refine z_st (st' := [vi (fQ_carryOf (((a_0 * b_0) + (c_0 * d_0)) + (e_0 * f_0)) (e_0 * f_0)), vl (fQ_highOf e_0 f_0), vl ((fQ_highOf a_0 b_0) + ((fQ_highOf c_0 d_0) + (w32 (fQ_carryOf ((a_0 * b_0) + (c_0 * d_0)) (c_0 * d_0)))))]) rfl ?_
  refine z_i2l (M := M_X11_signOfSum) dX11_signOfSum_77 ?_
  refine z_ladd (M := M_X11_signOfSum) dX11_signOfSum_78 ?_
  refine z_ladd (M := M_X11_signOfSum) dX11_signOfSum_79 ?_
  refine z_lstore (M := M_X11_signOfSum) (lv' := [some (vl a_0), none, some (vl b_0), none, some (vl c_0), none, some (vl d_0), none, some (vl e_0), none, some (vl f_0), none, some (vl (((a_0 * b_0) + (c_0 * d_0)) + (e_0 * f_0))), none, some (vl (((fQ_highOf a_0 b_0) + ((fQ_highOf c_0 d_0) + (w32 (fQ_carryOf ((a_0 * b_0) + (c_0 * d_0)) (c_0 * d_0))))) + ((fQ_highOf e_0 f_0) + (w32 (fQ_carryOf (((a_0 * b_0) + (c_0 * d_0)) + (e_0 * f_0)) (e_0 * f_0)))))), none, some (vl (e_0 * f_0)), none]) dX11_signOfSum_80 (Nat.le_of_ble_eq_true rfl) rfl rfl ?_
  have J_3 : YY l E M_X11_signOfSum 2 0 0 (pS (some (vi r)) σ) 110 [some (vl a_0), none, some (vl b_0), none, some (vl c_0), none, some (vl d_0), none, some (vl e_0), none, some (vl f_0), none, some (vl (((a_0 * b_0) + (c_0 * d_0)) + (e_0 * f_0))), none, some (vl (((fQ_highOf a_0 b_0) + ((fQ_highOf c_0 d_0) + (w32 (fQ_carryOf ((a_0 * b_0) + (c_0 * d_0)) (c_0 * d_0))))) + ((fQ_highOf e_0 f_0) + (w32 (fQ_carryOf (((a_0 * b_0) + (c_0 * d_0)) + (e_0 * f_0)) (e_0 * f_0)))))), none, some (vl (e_0 * f_0)), none] [vi (if ¬ (w64 (((fQ_highOf a_0 b_0) + ((fQ_highOf c_0 d_0) + (w32 (fQ_carryOf ((a_0 * b_0) + (c_0 * d_0)) (c_0 * d_0))))) + ((fQ_highOf e_0 f_0) + (w32 (fQ_carryOf (((a_0 * b_0) + (c_0 * d_0)) + (e_0 * f_0)) (e_0 * f_0)))))) = 0 then (fL_compare (((fQ_highOf a_0 b_0) + ((fQ_highOf c_0 d_0) + (w32 (fQ_carryOf ((a_0 * b_0) + (c_0 * d_0)) (c_0 * d_0))))) + ((fQ_highOf e_0 f_0) + (w32 (fQ_carryOf (((a_0 * b_0) + (c_0 * d_0)) + (e_0 * f_0)) (e_0 * f_0))))) 0) else (if ¬ (w64 (((a_0 * b_0) + (c_0 * d_0)) + (e_0 * f_0))) = 0 then 1 else 0))] σ 0 0 := by
    cases H
    exact z_iret (M := M_X11_signOfSum) dX11_signOfSum_110 rfl (Nat.le_of_ble_eq_true rfl) (Nat.le_of_ble_eq_true rfl) ⟨rfl, rfl⟩
  refine z_lload (M := M_X11_signOfSum) dX11_signOfSum_82 rfl ?_
  refine z_lconst (M := M_X11_signOfSum) (m := 0) dX11_signOfSum_84 (by decide +kernel) ?_
  refine z_lcmp (M := M_X11_signOfSum) dX11_signOfSum_85 ?_
  by_cases h_4 : ¬ (w64 (((fQ_highOf a_0 b_0) + ((fQ_highOf c_0 d_0) + (w32 (fQ_carryOf ((a_0 * b_0) + (c_0 * d_0)) (c_0 * d_0))))) + ((fQ_highOf e_0 f_0) + (w32 (fQ_carryOf (((a_0 * b_0) + (c_0 * d_0)) + (e_0 * f_0)) (e_0 * f_0)))))) = 0
  · refine z_lif_eq_f (M := M_X11_signOfSum) (tgt := 98) dX11_signOfSum_86 (by decide) rfl (by decide +kernel) h_4 ?_
    refine z_lload (M := M_X11_signOfSum) dX11_signOfSum_89 rfl ?_
    refine z_lconst (M := M_X11_signOfSum) (m := 0) dX11_signOfSum_91 (by decide +kernel) ?_
    refine z_callS (M := M_X11_signOfSum) (M' := M_J13_compare_74951) (as := [vl (((fQ_highOf a_0 b_0) + ((fQ_highOf c_0 d_0) + (w32 (fQ_carryOf ((a_0 * b_0) + (c_0 * d_0)) (c_0 * d_0))))) + ((fQ_highOf e_0 f_0) + (w32 (fQ_carryOf (((a_0 * b_0) + (c_0 * d_0)) + (e_0 * f_0)) (e_0 * f_0))))), vl 0]) (rest := []) rfl rfl dX11_signOfSum_92 m_J13_compare_74951 t_1267 t_1268 (c_J13_compare_74951 hl  rfl) rfl rfl (Nat.le_of_ble_eq_true rfl) (Nat.le_of_ble_eq_true rfl) (Nat.le_of_ble_eq_true rfl) (Nat.le_of_ble_eq_true rfl) ?_
    refine z_st (st' := [vi (fL_compare (((fQ_highOf a_0 b_0) + ((fQ_highOf c_0 d_0) + (w32 (fQ_carryOf ((a_0 * b_0) + (c_0 * d_0)) (c_0 * d_0))))) + ((fQ_highOf e_0 f_0) + (w32 (fQ_carryOf (((a_0 * b_0) + (c_0 * d_0)) + (e_0 * f_0)) (e_0 * f_0))))) 0)]) rfl ?_
    refine z_goto (M := M_X11_signOfSum) (tgt := 110) dX11_signOfSum_95 (by decide) ?_
    exact z_st (by rw [if_pos (c := ¬ (w64 (((fQ_highOf a_0 b_0) + ((fQ_highOf c_0 d_0) + (w32 (fQ_carryOf ((a_0 * b_0) + (c_0 * d_0)) (c_0 * d_0))))) + ((fQ_highOf e_0 f_0) + (w32 (fQ_carryOf (((a_0 * b_0) + (c_0 * d_0)) + (e_0 * f_0)) (e_0 * f_0)))))) = 0) h_4]) J_3
  · refine z_lif_eq_t (M := M_X11_signOfSum) (tgt := 98) dX11_signOfSum_86 (by decide) rfl (by decide +kernel) (Decidable.not_not.mp h_4) ?_
    have J_5 : YY l E M_X11_signOfSum 2 0 0 (pS (some (vi r)) σ) 110 [some (vl a_0), none, some (vl b_0), none, some (vl c_0), none, some (vl d_0), none, some (vl e_0), none, some (vl f_0), none, some (vl (((a_0 * b_0) + (c_0 * d_0)) + (e_0 * f_0))), none, some (vl (((fQ_highOf a_0 b_0) + ((fQ_highOf c_0 d_0) + (w32 (fQ_carryOf ((a_0 * b_0) + (c_0 * d_0)) (c_0 * d_0))))) + ((fQ_highOf e_0 f_0) + (w32 (fQ_carryOf (((a_0 * b_0) + (c_0 * d_0)) + (e_0 * f_0)) (e_0 * f_0)))))), none, some (vl (e_0 * f_0)), none] [vi (if ¬ (w64 (((a_0 * b_0) + (c_0 * d_0)) + (e_0 * f_0))) = 0 then 1 else 0)] σ 0 0 := by
      exact z_st (by rw [if_neg (c := ¬ (w64 (((fQ_highOf a_0 b_0) + ((fQ_highOf c_0 d_0) + (w32 (fQ_carryOf ((a_0 * b_0) + (c_0 * d_0)) (c_0 * d_0))))) + ((fQ_highOf e_0 f_0) + (w32 (fQ_carryOf (((a_0 * b_0) + (c_0 * d_0)) + (e_0 * f_0)) (e_0 * f_0)))))) = 0) h_4]) J_3
    refine z_lload (M := M_X11_signOfSum) dX11_signOfSum_98 rfl ?_
    refine z_lconst (M := M_X11_signOfSum) (m := 0) dX11_signOfSum_100 (by decide +kernel) ?_
    refine z_lcmp (M := M_X11_signOfSum) dX11_signOfSum_101 ?_
    by_cases h_6 : ¬ (w64 (((a_0 * b_0) + (c_0 * d_0)) + (e_0 * f_0))) = 0
    · refine z_lif_eq_f (M := M_X11_signOfSum) (tgt := 109) dX11_signOfSum_102 (by decide) rfl (by decide +kernel) h_6 ?_
      refine z_iconst (M := M_X11_signOfSum) dX11_signOfSum_105 ?_
      refine z_goto (M := M_X11_signOfSum) (tgt := 110) dX11_signOfSum_106 (by decide) ?_
      exact z_st (by rw [if_pos (c := ¬ (w64 (((a_0 * b_0) + (c_0 * d_0)) + (e_0 * f_0))) = 0) h_6]) J_5
    · refine z_lif_eq_t (M := M_X11_signOfSum) (tgt := 109) dX11_signOfSum_102 (by decide) rfl (by decide +kernel) (Decidable.not_not.mp h_6) ?_
      refine z_iconst (M := M_X11_signOfSum) dX11_signOfSum_109 ?_
      exact z_st (by rw [if_neg (c := ¬ (w64 (((a_0 * b_0) + (c_0 * d_0)) + (e_0 * f_0))) = 0) h_6]) J_5
theorem c_X3_addCut (hl : l.stackTraces = false) {σ : SG} {itsShare_0 : Int} {itsWhole_0 : Int} {σ' : SG}  (H : fT_addCut σ itsShare_0 itsWhole_0 = some σ') : en_S l E M_X3_addCut 3 0 0 [vr 222, vl itsShare_0, vl itsWhole_0] σ (pS (none) σ') := by
  unfold fT_addCut at H
  refine z_mk (lv := [some (vr 222), some (vl itsShare_0), none, some (vl itsWhole_0), none, none]) m_X3_addCut rfl hl (Nat.le_of_ble_eq_true rfl) rfl ?_
  rcases if_e H with ⟨h_45, H⟩ | ⟨h_45, H⟩
  · have J_46 : YY l E M_X3_addCut 3 0 0 (pS (none) σ') 18 [some (vr 222), some (vl itsShare_0), none, some (vl itsWhole_0), none, none] [] σ 0 0 := by
      cases H
      exact z_vret (M := M_X3_addCut) dX3_addCut_18 rfl (Nat.le_of_ble_eq_true rfl) (Nat.le_of_ble_eq_true rfl) ⟨rfl, rfl⟩
    refine z_lload_n (M := M_X3_addCut) dX3_addCut_0 rfl ?_
    refine z_lload_n (M := M_X3_addCut) dX3_addCut_1 rfl ?_
    refine z_lcmp (M := M_X3_addCut) dX3_addCut_2 ?_
    by_cases h_48 : (w64 itsWhole_0) ≤ (w64 itsShare_0)
    · refine z_lif_ge_t (M := M_X3_addCut) (tgt := 18) dX3_addCut_3 (by decide) rfl rfl h_48 ?_
      exact J_46
    · refine z_lif_ge_f (M := M_X3_addCut) (tgt := 18) dX3_addCut_3 (by decide) rfl rfl (Int.not_le.mp h_48) ?_
      refine z_aload_n (M := M_X3_addCut) dX3_addCut_6 rfl ?_
      refine z_getI (M := M_X3_addCut) (ci := 6) (C := RX3) (T := TX3) (Nf := 12) (ty := tyX3) cl6 dX3_addCut_7 ly_222 9 (by decide) t_451 rfl rfl ?_
      refine z_aload_n (M := M_X3_addCut) dX3_addCut_10 rfl ?_
      refine z_getR (M := M_X3_addCut) (ci := 6) (C := RX3) (T := TX3) (Nf := 12) (ty := tyX3) cl6 dX3_addCut_11 ly_222 7 (by decide) t_449 rfl ?_
      refine z_alen (M := M_X3_addCut) (N := 512) dX3_addCut_14 ly_234 (by decide) rfl ?_
      by_cases h_49 : 512 ≤ (w32 (σ kT_cuts 0))
      · refine z_icmp_lt_f (M := M_X3_addCut) (tgt := 19) dX3_addCut_15 (by decide) rfl (by decide +kernel) h_49 ?_
        exact J_46
      · refine z_icmp_lt_t (M := M_X3_addCut) (tgt := 19) dX3_addCut_15 (by decide) rfl (by decide +kernel) (Int.not_le.mp h_49) ?_
        exact absurd h_45 (fun q => q.elim h_48 h_49)
  · have J_47 : YY l E M_X3_addCut 3 0 0 (pS (none) σ') 19 [some (vr 222), some (vl itsShare_0), none, some (vl itsWhole_0), none, none] [] σ 0 0 := by
      refine z_aload_n (M := M_X3_addCut) dX3_addCut_19 rfl ?_
      refine z_getI (M := M_X3_addCut) (ci := 6) (C := RX3) (T := TX3) (Nf := 12) (ty := tyX3) cl6 dX3_addCut_20 ly_222 9 (by decide) t_451 rfl rfl ?_
      refine z_istore (M := M_X3_addCut) (lv' := [some (vr 222), some (vl itsShare_0), none, some (vl itsWhole_0), none, some (vi (σ kT_cuts 0))]) dX3_addCut_23 (Nat.le_of_ble_eq_true rfl) rfl rfl ?_
      obtain ⟨rl_6, hw_3, hk_4⟩ := bd_e H
      have J_44 : ∀ at_37 σ_38, rl_6 = (at_37, σ_38) → YY l E M_X3_addCut 3 0 0 (pS (none) σ') 97 [some (vr 222), some (vl itsShare_0), none, some (vl itsWhole_0), none, some (vi at_37)] [] σ_38 0 0 := by
        intro at_37 σ_38 e
        have H := hk_4
        rw [e] at H
        refine z_aload_n (M := M_X3_addCut) dX3_addCut_97 rfl ?_
        refine z_getR (M := M_X3_addCut) (ci := 6) (C := RX3) (T := TX3) (Nf := 12) (ty := tyX3) cl6 dX3_addCut_98 ly_222 7 (by decide) t_449 rfl ?_
        refine z_iload (M := M_X3_addCut) dX3_addCut_101 rfl ?_
        refine z_lload_n (M := M_X3_addCut) dX3_addCut_103 rfl ?_
        obtain ⟨σ_39, σ_39_e, hi_40, H⟩ := wa_e H
        refine z_last (M := M_X3_addCut) dX3_addCut_104 ly_234 rfl rfl rfl hi_40 σ_39_e ?_
        refine z_aload_n (M := M_X3_addCut) dX3_addCut_105 rfl ?_
        refine z_getR (M := M_X3_addCut) (ci := 6) (C := RX3) (T := TX3) (Nf := 12) (ty := tyX3) cl6 dX3_addCut_106 ly_222 8 (by decide) t_450 rfl ?_
        refine z_iload (M := M_X3_addCut) dX3_addCut_109 rfl ?_
        refine z_lload_n (M := M_X3_addCut) dX3_addCut_111 rfl ?_
        obtain ⟨σ_41, σ_41_e, hi_42, H⟩ := wa_e H
        refine z_last (M := M_X3_addCut) dX3_addCut_112 ly_235 rfl rfl rfl hi_42 σ_41_e ?_
        refine z_aload_n (M := M_X3_addCut) dX3_addCut_113 rfl ?_
        refine z_dup (M := M_X3_addCut) dX3_addCut_114 rfl ?_
        refine z_getI (M := M_X3_addCut) (ci := 6) (C := RX3) (T := TX3) (Nf := 12) (ty := tyX3) cl6 dX3_addCut_115 ly_222 9 (by decide) t_451 rfl rfl ?_
        refine z_iconst (M := M_X3_addCut) dX3_addCut_118 ?_
        refine z_iadd (M := M_X3_addCut) dX3_addCut_119 ?_
        obtain ⟨σ_43, σ_43_e, H⟩ := wf_e H
        refine z_putI (M := M_X3_addCut) (ci := 6) (C := RX3) (T := TX3) (Nf := 12) (ty := tyX3) cl6 dX3_addCut_120 ly_222 9 (by decide) t_451 rfl rfl rfl rfl σ_43_e ?_
        cases H
        exact z_vret (M := M_X3_addCut) dX3_addCut_123 rfl (Nat.le_of_ble_eq_true rfl) (Nat.le_of_ble_eq_true rfl) ⟨rfl, rfl⟩
      refine whl_go hw_3 (fun (at_1, σ_2) => YY l E M_X3_addCut 3 0 0 (pS (none) σ') 25 [some (vr 222), some (vl itsShare_0), none, some (vl itsWhole_0), none, some (vi at_1)] [] σ_2 0 0) ?_
      rintro ⟨at_1, σ_2⟩ o_7 H K_8 K_9
      refine z_iload (M := M_X3_addCut) dX3_addCut_25 rfl ?_
      rcases if_e H with ⟨h_20, H⟩ | ⟨h_20, H⟩
      · refine z_if_le_f (M := M_X3_addCut) (tgt := 97) dX3_addCut_27 (by decide) rfl h_20 ?_
        refine z_aload_n (M := M_X3_addCut) dX3_addCut_30 rfl ?_
        refine z_getR (M := M_X3_addCut) (ci := 6) (C := RX3) (T := TX3) (Nf := 12) (ty := tyX3) cl6 dX3_addCut_31 ly_222 7 (by decide) t_449 rfl ?_
        refine z_iload (M := M_X3_addCut) dX3_addCut_34 rfl ?_
        refine z_iconst (M := M_X3_addCut) dX3_addCut_36 ?_
        refine z_isub (M := M_X3_addCut) dX3_addCut_37 ?_
        obtain ⟨x_21, x_21_e, hi_22, H⟩ := rd_e H
        refine z_lald (M := M_X3_addCut) dX3_addCut_38 ly_234 rfl rfl rfl hi_22 x_21_e ?_
        refine z_lload_n (M := M_X3_addCut) dX3_addCut_39 rfl ?_
        refine z_lload_n (M := M_X3_addCut) dX3_addCut_40 rfl ?_
        refine z_lneg (M := M_X3_addCut) dX3_addCut_41 ?_
        refine z_aload_n (M := M_X3_addCut) dX3_addCut_42 rfl ?_
        refine z_getR (M := M_X3_addCut) (ci := 6) (C := RX3) (T := TX3) (Nf := 12) (ty := tyX3) cl6 dX3_addCut_43 ly_222 8 (by decide) t_450 rfl ?_
        refine z_iload (M := M_X3_addCut) dX3_addCut_46 rfl ?_
        refine z_iconst (M := M_X3_addCut) dX3_addCut_48 ?_
        refine z_isub (M := M_X3_addCut) dX3_addCut_49 ?_
        obtain ⟨x_23, x_23_e, hi_24, H⟩ := rd_e H
        refine z_lald (M := M_X3_addCut) dX3_addCut_50 ly_235 rfl rfl rfl hi_24 x_23_e ?_
        refine z_lconst (M := M_X3_addCut) (m := 0) dX3_addCut_51 (by decide +kernel) ?_
        refine z_lconst (M := M_X3_addCut) (m := 0) dX3_addCut_52 (by decide +kernel) ?_
        refine z_callSN (M := M_X3_addCut) (M' := M_X11_signOfSum) (as := [vl x_21, vl itsWhole_0, vl (-itsShare_0), vl x_23, vl 0, vl 0]) (rest := []) rfl rfl dX3_addCut_53 m_X11_signOfSum n_1937 t_1938 (c_X11_signOfSum hl  rfl) rfl rfl (Nat.le_of_ble_eq_true rfl) (Nat.le_of_ble_eq_true rfl) (Nat.le_of_ble_eq_true rfl) (Nat.le_of_ble_eq_true rfl) ?_
        refine z_st (st' := [vi (fQ_signOfSum x_21 itsWhole_0 (-itsShare_0) x_23 0 0)]) rfl ?_
        rcases if_e H with ⟨h_25, H⟩ | ⟨h_25, H⟩
        · refine z_if_le_f (M := M_X3_addCut) (tgt := 97) dX3_addCut_56 (by decide) rfl h_25 ?_
          refine z_aload_n (M := M_X3_addCut) dX3_addCut_59 rfl ?_
          refine z_getR (M := M_X3_addCut) (ci := 6) (C := RX3) (T := TX3) (Nf := 12) (ty := tyX3) cl6 dX3_addCut_60 ly_222 7 (by decide) t_449 rfl ?_
          refine z_iload (M := M_X3_addCut) dX3_addCut_63 rfl ?_
          refine z_aload_n (M := M_X3_addCut) dX3_addCut_65 rfl ?_
          refine z_getR (M := M_X3_addCut) (ci := 6) (C := RX3) (T := TX3) (Nf := 12) (ty := tyX3) cl6 dX3_addCut_66 ly_222 7 (by decide) t_449 rfl ?_
          refine z_iload (M := M_X3_addCut) dX3_addCut_69 rfl ?_
          refine z_iconst (M := M_X3_addCut) dX3_addCut_71 ?_
          refine z_isub (M := M_X3_addCut) dX3_addCut_72 ?_
          obtain ⟨x_26, x_26_e, hi_27, H⟩ := rd_e H
          refine z_lald (M := M_X3_addCut) dX3_addCut_73 ly_234 rfl rfl rfl hi_27 x_26_e ?_
          obtain ⟨σ_28, σ_28_e, hi_29, H⟩ := wa_e H
          refine z_last (M := M_X3_addCut) dX3_addCut_74 ly_234 rfl rfl rfl hi_29 σ_28_e ?_
          refine z_aload_n (M := M_X3_addCut) dX3_addCut_75 rfl ?_
          refine z_getR (M := M_X3_addCut) (ci := 6) (C := RX3) (T := TX3) (Nf := 12) (ty := tyX3) cl6 dX3_addCut_76 ly_222 8 (by decide) t_450 rfl ?_
          refine z_iload (M := M_X3_addCut) dX3_addCut_79 rfl ?_
          refine z_aload_n (M := M_X3_addCut) dX3_addCut_81 rfl ?_
          refine z_getR (M := M_X3_addCut) (ci := 6) (C := RX3) (T := TX3) (Nf := 12) (ty := tyX3) cl6 dX3_addCut_82 ly_222 8 (by decide) t_450 rfl ?_
          refine z_iload (M := M_X3_addCut) dX3_addCut_85 rfl ?_
          refine z_iconst (M := M_X3_addCut) dX3_addCut_87 ?_
          refine z_isub (M := M_X3_addCut) dX3_addCut_88 ?_
          obtain ⟨x_30, x_30_e, hi_31, H⟩ := rd_e H
          refine z_lald (M := M_X3_addCut) dX3_addCut_89 ly_235 rfl rfl rfl hi_31 x_30_e ?_
          obtain ⟨σ_32, σ_32_e, hi_33, H⟩ := wa_e H
          refine z_last (M := M_X3_addCut) dX3_addCut_90 ly_235 rfl rfl rfl hi_33 σ_32_e ?_
          refine z_iinc (M := M_X3_addCut) (lv' := [some (vr 222), some (vl itsShare_0), none, some (vl itsWhole_0), none, some (vi (at_1 + (-1)))]) dX3_addCut_91 rfl (Nat.le_of_ble_eq_true rfl) rfl rfl ?_
          refine z_goto (M := M_X3_addCut) (tgt := 25) dX3_addCut_94 (by decide) ?_
          exact K_8 _ (Option.some.inj H).symm
        · refine z_if_le_t (M := M_X3_addCut) (tgt := 97) dX3_addCut_56 (by decide) rfl (Int.not_lt.mp h_25) ?_
          exact J_44 _ _ (K_9 _ (Option.some.inj H).symm).symm
      · refine z_if_le_t (M := M_X3_addCut) (tgt := 97) dX3_addCut_27 (by decide) rfl (Int.not_lt.mp h_20) ?_
        exact J_44 _ _ (K_9 _ (Option.some.inj H).symm).symm
    refine z_lload_n (M := M_X3_addCut) dX3_addCut_0 rfl ?_
    refine z_lload_n (M := M_X3_addCut) dX3_addCut_1 rfl ?_
    refine z_lcmp (M := M_X3_addCut) dX3_addCut_2 ?_
    by_cases h_50 : (w64 itsWhole_0) ≤ (w64 itsShare_0)
    · refine z_lif_ge_t (M := M_X3_addCut) (tgt := 18) dX3_addCut_3 (by decide) rfl rfl h_50 ?_
      exact absurd (Or.inl h_50) h_45
    · refine z_lif_ge_f (M := M_X3_addCut) (tgt := 18) dX3_addCut_3 (by decide) rfl rfl (Int.not_le.mp h_50) ?_
      refine z_aload_n (M := M_X3_addCut) dX3_addCut_6 rfl ?_
      refine z_getI (M := M_X3_addCut) (ci := 6) (C := RX3) (T := TX3) (Nf := 12) (ty := tyX3) cl6 dX3_addCut_7 ly_222 9 (by decide) t_451 rfl rfl ?_
      refine z_aload_n (M := M_X3_addCut) dX3_addCut_10 rfl ?_
      refine z_getR (M := M_X3_addCut) (ci := 6) (C := RX3) (T := TX3) (Nf := 12) (ty := tyX3) cl6 dX3_addCut_11 ly_222 7 (by decide) t_449 rfl ?_
      refine z_alen (M := M_X3_addCut) (N := 512) dX3_addCut_14 ly_234 (by decide) rfl ?_
      by_cases h_51 : 512 ≤ (w32 (σ kT_cuts 0))
      · refine z_icmp_lt_f (M := M_X3_addCut) (tgt := 19) dX3_addCut_15 (by decide) rfl (by decide +kernel) h_51 ?_
        exact absurd (Or.inr h_51) h_45
      · refine z_icmp_lt_t (M := M_X3_addCut) (tgt := 19) dX3_addCut_15 (by decide) rfl (by decide +kernel) (Int.not_le.mp h_51) ?_
        exact J_47
theorem c_X3_wayX (hl : l.stackTraces = false) {σ : SG} {i_0 : Int} {r : Int}  (H : fT_wayX σ i_0 = some r) : en_S l E M_X3_wayX 1 0 0 [vr 222, vi i_0] σ (pS (some (vl r)) σ) := by
  unfold fT_wayX at H
  refine z_mk (lv := [some (vr 222), some (vi i_0)]) m_X3_wayX rfl hl (Nat.le_of_ble_eq_true rfl) rfl ?_
  refine z_aload_n (M := M_X3_wayX) dX3_wayX_0 rfl ?_
  refine z_getR (M := M_X3_wayX) (ci := 6) (C := RX3) (T := TX3) (Nf := 12) (ty := tyX3) cl6 dX3_wayX_1 ly_222 0 (by decide) t_442 rfl ?_
  refine z_getR (M := M_X3_wayX) (ci := 8) (C := RX5) (T := TX5) (Nf := 8) (ty := tyX5) cl8 dX3_wayX_4 (ly_G (by decide)) 2 (by decide) t_244 rfl ?_
  refine z_iload_n (M := M_X3_wayX) dX3_wayX_7 rfl ?_
  obtain ⟨x_1, x_1_e, hi_2, H⟩ := rd_e H
  refine z_iald (M := M_X3_wayX) dX3_wayX_8 ly_226 rfl rfl rfl hi_2 x_1_e ?_
  refine z_i2l (M := M_X3_wayX) dX3_wayX_9 ?_
  refine z_aload_n (M := M_X3_wayX) dX3_wayX_10 rfl ?_
  refine z_getR (M := M_X3_wayX) (ci := 6) (C := RX3) (T := TX3) (Nf := 12) (ty := tyX3) cl6 dX3_wayX_11 ly_222 0 (by decide) t_442 rfl ?_
  refine z_getR (M := M_X3_wayX) (ci := 8) (C := RX5) (T := TX5) (Nf := 8) (ty := tyX5) cl8 dX3_wayX_14 (ly_G (by decide)) 0 (by decide) t_236 rfl ?_
  refine z_iload_n (M := M_X3_wayX) dX3_wayX_17 rfl ?_
  obtain ⟨x_3, x_3_e, hi_4, H⟩ := rd_e H
  refine z_iald (M := M_X3_wayX) dX3_wayX_18 ly_224 rfl rfl rfl hi_4 x_3_e ?_
  refine z_i2l (M := M_X3_wayX) dX3_wayX_19 ?_
  refine z_lsub (M := M_X3_wayX) dX3_wayX_20 ?_
  cases H
  exact z_lret (M := M_X3_wayX) dX3_wayX_21 rfl (Nat.le_of_ble_eq_true rfl) (Nat.le_of_ble_eq_true rfl) ⟨rfl, rfl⟩
theorem c_X3_wayY (hl : l.stackTraces = false) {σ : SG} {i_0 : Int} {r : Int}  (H : fT_wayY σ i_0 = some r) : en_S l E M_X3_wayY 1 0 0 [vr 222, vi i_0] σ (pS (some (vl r)) σ) := by
  unfold fT_wayY at H
  refine z_mk (lv := [some (vr 222), some (vi i_0)]) m_X3_wayY rfl hl (Nat.le_of_ble_eq_true rfl) rfl ?_
  refine z_aload_n (M := M_X3_wayY) dX3_wayY_0 rfl ?_
  refine z_getR (M := M_X3_wayY) (ci := 6) (C := RX3) (T := TX3) (Nf := 12) (ty := tyX3) cl6 dX3_wayY_1 ly_222 0 (by decide) t_442 rfl ?_
  refine z_getR (M := M_X3_wayY) (ci := 8) (C := RX5) (T := TX5) (Nf := 8) (ty := tyX5) cl8 dX3_wayY_4 (ly_G (by decide)) 3 (by decide) t_248 rfl ?_
  refine z_iload_n (M := M_X3_wayY) dX3_wayY_7 rfl ?_
  obtain ⟨x_1, x_1_e, hi_2, H⟩ := rd_e H
  refine z_iald (M := M_X3_wayY) dX3_wayY_8 ly_227 rfl rfl rfl hi_2 x_1_e ?_
  refine z_i2l (M := M_X3_wayY) dX3_wayY_9 ?_
  refine z_aload_n (M := M_X3_wayY) dX3_wayY_10 rfl ?_
  refine z_getR (M := M_X3_wayY) (ci := 6) (C := RX3) (T := TX3) (Nf := 12) (ty := tyX3) cl6 dX3_wayY_11 ly_222 0 (by decide) t_442 rfl ?_
  refine z_getR (M := M_X3_wayY) (ci := 8) (C := RX5) (T := TX5) (Nf := 8) (ty := tyX5) cl8 dX3_wayY_14 (ly_G (by decide)) 1 (by decide) t_240 rfl ?_
  refine z_iload_n (M := M_X3_wayY) dX3_wayY_17 rfl ?_
  obtain ⟨x_3, x_3_e, hi_4, H⟩ := rd_e H
  refine z_iald (M := M_X3_wayY) dX3_wayY_18 ly_225 rfl rfl rfl hi_4 x_3_e ?_
  refine z_i2l (M := M_X3_wayY) dX3_wayY_19 ?_
  refine z_lsub (M := M_X3_wayY) dX3_wayY_20 ?_
  cases H
  exact z_lret (M := M_X3_wayY) dX3_wayY_21 rfl (Nat.le_of_ble_eq_true rfl) (Nat.le_of_ble_eq_true rfl) ⟨rfl, rfl⟩
theorem c_X3_isAbove (hl : l.stackTraces = false) {σ : SG} {y_0 : Int} {i_0 : Int} {itsShare_0 : Int} {itsWhole_0 : Int} {r : Bool}  (H : fT_isAbove σ y_0 i_0 itsShare_0 itsWhole_0 = some r) : en_S l E M_X3_isAbove 3 0 0 [vr 222, vi y_0, vi i_0, vl itsShare_0, vl itsWhole_0] σ (pS (some (zv r)) σ) := by
  unfold fT_isAbove at H
  refine z_mk (lv := [some (vr 222), some (vi y_0), some (vi i_0), some (vl itsShare_0), none, some (vl itsWhole_0), none, none]) m_X3_isAbove rfl hl (Nat.le_of_ble_eq_true rfl) rfl ?_
  refine z_iload_n (M := M_X3_isAbove) dX3_isAbove_0 rfl ?_
  refine z_i2l (M := M_X3_isAbove) dX3_isAbove_1 ?_
  refine z_aload_n (M := M_X3_isAbove) dX3_isAbove_2 rfl ?_
  refine z_getR (M := M_X3_isAbove) (ci := 6) (C := RX3) (T := TX3) (Nf := 12) (ty := tyX3) cl6 dX3_isAbove_3 ly_222 0 (by decide) t_442 rfl ?_
  refine z_getR (M := M_X3_isAbove) (ci := 8) (C := RX5) (T := TX5) (Nf := 8) (ty := tyX5) cl8 dX3_isAbove_6 (ly_G (by decide)) 1 (by decide) t_240 rfl ?_
  refine z_iload_n (M := M_X3_isAbove) dX3_isAbove_9 rfl ?_
  obtain ⟨x_1, x_1_e, hi_2, H⟩ := rd_e H
  refine z_iald (M := M_X3_isAbove) dX3_isAbove_10 ly_225 rfl rfl rfl hi_2 x_1_e ?_
  refine z_i2l (M := M_X3_isAbove) dX3_isAbove_11 ?_
  refine z_lsub (M := M_X3_isAbove) dX3_isAbove_12 ?_
  refine z_lload (M := M_X3_isAbove) dX3_isAbove_13 rfl ?_
  refine z_aload_n (M := M_X3_isAbove) dX3_isAbove_15 rfl ?_
  refine z_iload_n (M := M_X3_isAbove) dX3_isAbove_16 rfl ?_
  obtain ⟨x_4, hc_3, H⟩ := bd_e H
  refine z_callV (M := M_X3_isAbove) (M' := M_X3_wayY) (as := [vi i_0]) (rest := [vl itsWhole_0, vl ((w32 y_0) - (w32 x_1))]) rfl rfl dX3_isAbove_17 m_X3_wayY t_1965 t_1967 s_113 (c_X3_wayY hl  hc_3) rfl rfl ly_222 rfl (Nat.le_of_ble_eq_true rfl) (Nat.le_of_ble_eq_true rfl) (Nat.le_of_ble_eq_true rfl) (Nat.le_of_ble_eq_true rfl) ?_
  refine z_st (st' := [vl x_4, vl itsWhole_0, vl ((w32 y_0) - (w32 x_1))]) rfl ?_
  refine z_lneg (M := M_X3_isAbove) dX3_isAbove_20 ?_
  refine z_lload_n (M := M_X3_isAbove) dX3_isAbove_21 rfl ?_
  refine z_lconst (M := M_X3_isAbove) (m := 0) dX3_isAbove_22 (by decide +kernel) ?_
  refine z_lconst (M := M_X3_isAbove) (m := 0) dX3_isAbove_23 (by decide +kernel) ?_
  refine z_callSN (M := M_X3_isAbove) (M' := M_X11_signOfSum) (as := [vl ((w32 y_0) - (w32 x_1)), vl itsWhole_0, vl (-x_4), vl itsShare_0, vl 0, vl 0]) (rest := []) rfl rfl dX3_isAbove_24 m_X11_signOfSum n_1937 t_1938 (c_X11_signOfSum hl  rfl) rfl rfl (Nat.le_of_ble_eq_true rfl) (Nat.le_of_ble_eq_true rfl) (Nat.le_of_ble_eq_true rfl) (Nat.le_of_ble_eq_true rfl) ?_
  refine z_st (st' := [vi (fQ_signOfSum ((w32 y_0) - (w32 x_1)) itsWhole_0 (-x_4) itsShare_0 0 0)]) rfl ?_
  obtain ⟨x_5, x_5_e, H⟩ := lt_e H
  refine z_st (congrArg (fun z => vi z :: []) x_5_e) ?_
  refine z_istore (M := M_X3_isAbove) (lv' := [some (vr 222), some (vi y_0), some (vi i_0), some (vl itsShare_0), none, some (vl itsWhole_0), none, some (vi x_5)]) dX3_isAbove_27 (Nat.le_of_ble_eq_true rfl) rfl rfl ?_
  obtain ⟨v_9, he_6, hk_7⟩ := bd_e H
  have J_48 : ∀ height_15, v_9 = height_15 → YY l E M_X3_isAbove 3 0 0 (pS (some (zv r)) σ) 45 [some (vr 222), some (vi y_0), some (vi i_0), some (vl itsShare_0), none, some (vl itsWhole_0), none, some (vi height_15)] [] σ 0 0 := by
    intro height_15 e
    have H := hk_7
    rw [e] at H
    obtain ⟨v_44, he_45, hk_46⟩ := bd_e H
    have J_47 : ∀ x_43, v_44 = x_43 → YY l E M_X3_isAbove 3 0 0 (pS (some (zv r)) σ) 78 [some (vr 222), some (vi y_0), some (vi i_0), some (vl itsShare_0), none, some (vl itsWhole_0), none, some (vi height_15)] [zv x_43] σ 0 0 := by
      intro x_43 e
      have H := hk_46
      rw [e] at H
      cases H
      exact z_zret (M := M_X3_isAbove) dX3_isAbove_78 rfl (Nat.le_of_ble_eq_true rfl) (Nat.le_of_ble_eq_true rfl) ⟨rfl, rfl⟩
    have H := he_45
    refine z_iload (M := M_X3_isAbove) dX3_isAbove_45 rfl ?_
    rcases if_e H with ⟨h_28, H⟩ | ⟨h_28, H⟩
    · refine z_if_eq_f (M := M_X3_isAbove) (tgt := 63) dX3_isAbove_47 (by decide) rfl h_28 ?_
      have J_29 : YY l E M_X3_isAbove 3 0 0 (pS (some (zv r)) σ) 78 [some (vr 222), some (vi y_0), some (vi i_0), some (vl itsShare_0), none, some (vl itsWhole_0), none, some (vi height_15)] [zv (decide (0 < (w32 height_15)))] σ 0 0 := by
        exact J_47 _ (Option.some.inj H).symm
      refine z_iload (M := M_X3_isAbove) dX3_isAbove_50 rfl ?_
      by_cases h_31 : 0 < (w32 height_15)
      · refine z_if_le_f (M := M_X3_isAbove) (tgt := 59) dX3_isAbove_52 (by decide) rfl h_31 ?_
        refine z_iconst (M := M_X3_isAbove) dX3_isAbove_55 ?_
        refine z_goto (M := M_X3_isAbove) (tgt := 78) dX3_isAbove_56 (by decide) ?_
        exact z_st (by rw [zv_t (p := 0 < (w32 height_15)) h_31]) J_29
      · refine z_if_le_t (M := M_X3_isAbove) (tgt := 59) dX3_isAbove_52 (by decide) rfl (Int.not_lt.mp h_31) ?_
        refine z_iconst (M := M_X3_isAbove) dX3_isAbove_59 ?_
        refine z_goto (M := M_X3_isAbove) (tgt := 78) dX3_isAbove_60 (by decide) ?_
        exact z_st (by rw [zv_f (p := 0 < (w32 height_15)) h_31]) J_29
    · refine z_if_eq_t (M := M_X3_isAbove) (tgt := 63) dX3_isAbove_47 (by decide) rfl (Decidable.not_not.mp h_28) ?_
      obtain ⟨v_39, he_40, hk_41⟩ := bd_e H
      have J_42 : ∀ x_37, v_39 = x_37 → YY l E M_X3_isAbove 3 0 0 (pS (some (zv r)) σ) 78 [some (vr 222), some (vi y_0), some (vi i_0), some (vl itsShare_0), none, some (vl itsWhole_0), none, some (vi height_15)] [zv x_37] σ 0 0 := by
        intro x_37 e
        have H := hk_41
        rw [e] at H
        exact J_47 _ (Option.some.inj H).symm
      have H := he_40
      refine z_aload_n (M := M_X3_isAbove) dX3_isAbove_63 rfl ?_
      refine z_iload_n (M := M_X3_isAbove) dX3_isAbove_64 rfl ?_
      obtain ⟨x_33, hc_32, H⟩ := bd_e H
      refine z_callV (M := M_X3_isAbove) (M' := M_X3_wayX) (as := [vi i_0]) (rest := []) rfl rfl dX3_isAbove_65 m_X3_wayX t_1960 t_1962 s_112 (c_X3_wayX hl  hc_32) rfl rfl ly_222 rfl (Nat.le_of_ble_eq_true rfl) (Nat.le_of_ble_eq_true rfl) (Nat.le_of_ble_eq_true rfl) (Nat.le_of_ble_eq_true rfl) ?_
      refine z_st (st' := [vl x_33]) rfl ?_
      refine z_lconst (M := M_X3_isAbove) (m := 0) dX3_isAbove_68 (by decide +kernel) ?_
      refine z_lcmp (M := M_X3_isAbove) dX3_isAbove_69 ?_
      rcases if_e H with ⟨h_34, H⟩ | ⟨h_34, H⟩
      · refine z_lif_ge_f (M := M_X3_isAbove) (tgt := 77) dX3_isAbove_70 (by decide) rfl (by decide +kernel) h_34 ?_
        refine z_zconst (M := M_X3_isAbove) (b := true) dX3_isAbove_73 rfl ?_
        refine z_goto (M := M_X3_isAbove) (tgt := 78) dX3_isAbove_74 (by decide) ?_
        exact J_42 _ (Option.some.inj H).symm
      · refine z_lif_ge_t (M := M_X3_isAbove) (tgt := 77) dX3_isAbove_70 (by decide) rfl (by decide +kernel) (Int.not_lt.mp h_34) ?_
        refine z_zconst (M := M_X3_isAbove) (b := false) dX3_isAbove_77 rfl ?_
        exact J_42 _ (Option.some.inj H).symm
  have H := he_6
  refine z_iload (M := M_X3_isAbove) dX3_isAbove_29 rfl ?_
  rcases if_e H with ⟨h_10, H⟩ | ⟨h_10, H⟩
  · refine z_if_ne_f (M := M_X3_isAbove) (tgt := 45) dX3_isAbove_31 (by decide) rfl h_10 ?_
    refine z_lconst (M := M_X3_isAbove) (m := 0) dX3_isAbove_34 (by decide +kernel) ?_
    refine z_aload_n (M := M_X3_isAbove) dX3_isAbove_35 rfl ?_
    refine z_iload_n (M := M_X3_isAbove) dX3_isAbove_36 rfl ?_
    obtain ⟨x_12, hc_11, H⟩ := bd_e H
    refine z_callV (M := M_X3_isAbove) (M' := M_X3_wayY) (as := [vi i_0]) (rest := [vl 0]) rfl rfl dX3_isAbove_37 m_X3_wayY t_1965 t_1967 s_113 (c_X3_wayY hl  hc_11) rfl rfl ly_222 rfl (Nat.le_of_ble_eq_true rfl) (Nat.le_of_ble_eq_true rfl) (Nat.le_of_ble_eq_true rfl) (Nat.le_of_ble_eq_true rfl) ?_
    refine z_st (st' := [vl x_12, vl 0]) rfl ?_
    refine z_callS (M := M_X3_isAbove) (M' := M_J13_compare_74951) (as := [vl 0, vl x_12]) (rest := []) rfl rfl dX3_isAbove_40 m_J13_compare_74951 t_1986 t_1268 (c_J13_compare_74951 hl  rfl) rfl rfl (Nat.le_of_ble_eq_true rfl) (Nat.le_of_ble_eq_true rfl) (Nat.le_of_ble_eq_true rfl) (Nat.le_of_ble_eq_true rfl) ?_
    refine z_st (st' := [vi (fL_compare 0 x_12)]) rfl ?_
    refine z_istore (M := M_X3_isAbove) (lv' := [some (vr 222), some (vi y_0), some (vi i_0), some (vl itsShare_0), none, some (vl itsWhole_0), none, some (vi (fL_compare 0 x_12))]) dX3_isAbove_43 (Nat.le_of_ble_eq_true rfl) rfl rfl ?_
    exact J_48 _ (Option.some.inj H).symm
  · refine z_if_ne_t (M := M_X3_isAbove) (tgt := 45) dX3_isAbove_31 (by decide) rfl h_10 ?_
    exact J_48 _ (Option.some.inj H).symm
end LFAI
