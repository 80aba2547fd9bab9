section LFAP
variable {l : Launch} {E : EE}
theorem c_X12_word (hl : l.stackTraces = false) {σ : SG} {r : Int} {σ' : SG}  (H : fR_word σ = some (r, σ')) : en_S l E M_X12_word 7 0 0 [vr 277] σ (pS (some (vi r)) σ') := by
  unfold fR_word at H
  refine z_mk (lv := [some (vr 277), none, none, none, none]) m_X12_word rfl hl (Nat.le_of_ble_eq_true rfl) rfl ?_
  refine z_aload_n (M := M_X12_word) dX12_word_0 rfl ?_
  refine z_getI (M := M_X12_word) (ci := 15) (C := RX12) (T := TX12) (Nf := 135) (ty := tyX12) cl15 dX12_word_1 ly_277 17 (by decide) t_2408 rfl rfl ?_
  refine z_istore_n (M := M_X12_word) (lv' := [some (vr 277), some (vi (σ kR_at 0)), none, none, none]) dX12_word_4 (Nat.le_of_ble_eq_true rfl) rfl rfl ?_
  obtain ⟨rl_5, hw_2, hk_3⟩ := bd_e H
  have J_53 : ∀ σ_29, rl_5 = σ_29 → YY l E M_X12_word 7 0 0 (pS (some (vi r)) σ') 36 [some (vr 277), some (vi (σ kR_at 0)), none, none, none] [] σ_29 0 0 := by
    intro σ_29 e
    have H := hk_3
    rw [e] at H
    refine z_iconst (M := M_X12_word) dX12_word_36 ?_
    refine z_istore_n (M := M_X12_word) (lv' := [some (vr 277), some (vi (σ kR_at 0)), some (vi 0), none, none]) dX12_word_37 (Nat.le_of_ble_eq_true rfl) rfl rfl ?_
    refine z_iconst (M := M_X12_word) dX12_word_38 ?_
    refine z_istore_n (M := M_X12_word) (lv' := [some (vr 277), some (vi (σ kR_at 0)), some (vi 0), some (vi 0), none]) dX12_word_39 (Nat.le_of_ble_eq_true rfl) rfl rfl ?_
    refine z_iconst (M := M_X12_word) dX12_word_40 ?_
    refine z_istore (M := M_X12_word) (lv' := [some (vr 277), some (vi (σ kR_at 0)), some (vi 0), some (vi 0), some (vi 0)]) dX12_word_41 (Nat.le_of_ble_eq_true rfl) rfl rfl ?_
    obtain ⟨rl_36, hw_33, hk_34, hk_35⟩ := bx_e H
    have J_52 : ∀ start_49 which_50 k_51, rl_36 = (.inl (start_49, which_50, k_51)) → YY l E M_X12_word 7 0 0 (pS (some (vi r)) σ') 97 [some (vr 277), some (vi (σ kR_at 0)), some (vi start_49), some (vi which_50), some (vi k_51)] [] σ_29 0 0 := by
      intro start_49 which_50 k_51 e
      have H := hk_34 _ e
      refine z_iconst (M := M_X12_word) dX12_word_97 ?_
      cases H
      exact z_iret (M := M_X12_word) dX12_word_98 rfl (Nat.le_of_ble_eq_true rfl) (Nat.le_of_ble_eq_true rfl) ⟨rfl, rfl⟩
    refine whl_go hw_33 (fun (start_30, which_31, k_32) => YY l E M_X12_word 7 0 0 (pS (some (vi r)) σ') 43 [some (vr 277), some (vi (σ kR_at 0)), some (vi start_30), some (vi which_31), some (vi k_32)] [] σ_29 0 0) ?_
    rintro ⟨start_30, which_31, k_32⟩ o_37 H K_38 K_39
    refine z_iload (M := M_X12_word) dX12_word_43 rfl ?_
    refine z_ldcWS (M := M_X12_word) (i := 9) (w := 10) (tx := "POINT LINESTRING POLYGON MULTIPOINT MULTILINESTRING MULTIPOLYGON GEOMETRYCOLLECTION EMPTY ") dX12_word_45 (by decide +kernel) (by decide) rfl ?_
    refine z_strlen (M := M_X12_word) rfl dX12_word_48 t_2889 (by decide) hl (Nat.le_of_ble_eq_true rfl) (Nat.le_of_ble_eq_true rfl) (Nat.le_of_ble_eq_true rfl) (Nat.le_of_ble_eq_true rfl) ?_
    rcases if_e H with ⟨h_40, H⟩ | ⟨h_40, H⟩
    · refine z_icmp_ge_f (M := M_X12_word) (tgt := 97) dX12_word_51 (by decide) rfl rfl h_40 ?_
      refine z_ldcWS (M := M_X12_word) (i := 9) (w := 10) (tx := "POINT LINESTRING POLYGON MULTIPOINT MULTILINESTRING MULTIPOLYGON GEOMETRYCOLLECTION EMPTY ") dX12_word_54 (by decide +kernel) (by decide) rfl ?_
      refine z_iload (M := M_X12_word) dX12_word_57 rfl ?_
      obtain ⟨hi_41, H⟩ := ck_e H
      refine z_strch (M := M_X12_word) rfl dX12_word_59 t_2890 (by decide) rfl hi_41 hl (Nat.le_of_ble_eq_true rfl) (Nat.le_of_ble_eq_true rfl) (Nat.le_of_ble_eq_true rfl) (Nat.le_of_ble_eq_true rfl) ?_
      refine z_bipush (M := M_X12_word) dX12_word_62 (by decide +kernel) ?_
      rcases if_e H with ⟨h_42, H⟩ | ⟨h_42, H⟩
      · refine z_icmp_eq_f (M := M_X12_word) (tgt := 70) dX12_word_64 (by decide) rfl (by decide +kernel) h_42 ?_
        refine z_goto (M := M_X12_word) (tgt := 91) dX12_word_67 (by decide) ?_
        refine z_iinc (M := M_X12_word) (lv' := [some (vr 277), some (vi (σ kR_at 0)), some (vi start_30), some (vi which_31), some (vi (k_32 + 1))]) dX12_word_91 rfl (Nat.le_of_ble_eq_true rfl) rfl rfl ?_
        refine z_goto (M := M_X12_word) (tgt := 43) dX12_word_94 (by decide) ?_
        exact K_38 _ (Option.some.inj H).symm
      · refine z_icmp_eq_t (M := M_X12_word) (tgt := 70) dX12_word_64 (by decide) rfl (by decide +kernel) (Decidable.not_not.mp h_42) ?_
        refine z_iinc (M := M_X12_word) (lv' := [some (vr 277), some (vi (σ kR_at 0)), some (vi start_30), some (vi (which_31 + 1)), some (vi k_32)]) dX12_word_70 rfl (Nat.le_of_ble_eq_true rfl) rfl rfl ?_
        refine z_aload_n (M := M_X12_word) dX12_word_73 rfl ?_
        refine z_iload_n (M := M_X12_word) dX12_word_74 rfl ?_
        refine z_iload_n (M := M_X12_word) dX12_word_75 rfl ?_
        refine z_iload (M := M_X12_word) dX12_word_76 rfl ?_
        obtain ⟨x_45, hc_44, H⟩ := bd_e H
        refine z_callV (M := M_X12_word) (M' := M_X12_isWord) (as := [vi (σ kR_at 0), vi start_30, vi k_32]) (rest := []) rfl rfl dX12_word_78 m_X12_isWord t_2891 t_2893 s_168 (c_X12_isWord hl  hc_44) rfl rfl ly_277 rfl (Nat.le_of_ble_eq_true rfl) (Nat.le_of_ble_eq_true rfl) (Nat.le_of_ble_eq_true rfl) (Nat.le_of_ble_eq_true rfl) ?_
        refine z_st (st' := [zv x_45]) rfl ?_
        rcases if_e H with ⟨h_46, H⟩ | ⟨h_46, H⟩
        · refine z_zeq_f (M := M_X12_word) (tgt := 86) dX12_word_81 (by decide) h_46 ?_
          refine z_iload_n (M := M_X12_word) dX12_word_84 rfl ?_
          have H := congrArg some (hk_35 _ ((K_39 _ (Option.some.inj H).symm).symm))
          cases H
          exact z_iret (M := M_X12_word) dX12_word_85 rfl (Nat.le_of_ble_eq_true rfl) (Nat.le_of_ble_eq_true rfl) ⟨rfl, rfl⟩
        · refine z_zeq_t (M := M_X12_word) (tgt := 86) dX12_word_81 (by decide) h_46 ?_
          refine z_iload (M := M_X12_word) dX12_word_86 rfl ?_
          refine z_iconst (M := M_X12_word) dX12_word_88 ?_
          refine z_iadd (M := M_X12_word) dX12_word_89 ?_
          refine z_istore_n (M := M_X12_word) (lv' := [some (vr 277), some (vi (σ kR_at 0)), some (vi (k_32 + 1)), some (vi (which_31 + 1)), some (vi k_32)]) dX12_word_90 (Nat.le_of_ble_eq_true rfl) rfl rfl ?_
          refine z_iinc (M := M_X12_word) (lv' := [some (vr 277), some (vi (σ kR_at 0)), some (vi (k_32 + 1)), some (vi (which_31 + 1)), some (vi (k_32 + 1))]) dX12_word_91 rfl (Nat.le_of_ble_eq_true rfl) rfl rfl ?_
          refine z_goto (M := M_X12_word) (tgt := 43) dX12_word_94 (by decide) ?_
          exact K_38 _ (Option.some.inj H).symm
    · refine z_icmp_ge_t (M := M_X12_word) (tgt := 97) dX12_word_51 (by decide) rfl rfl (Int.not_lt.mp h_40) ?_
      exact J_52 _ _ _ (K_39 _ (Option.some.inj H).symm).symm
  refine whl_go hw_2 (fun σ_1 => YY l E M_X12_word 7 0 0 (pS (some (vi r)) σ') 5 [some (vr 277), some (vi (σ kR_at 0)), none, none, none] [] σ_1 0 0) ?_
  rintro σ_1 o_6 H K_7 K_8
  refine z_aload_n (M := M_X12_word) dX12_word_5 rfl ?_
  obtain ⟨x_20, hc_19, H⟩ := bd_e H
  refine z_callV (M := M_X12_word) (M' := M_X12_here) (as := []) (rest := []) rfl rfl dX12_word_6 m_X12_here t_2860 t_2862 s_164 (c_X12_here hl  hc_19) rfl rfl ly_277 rfl (Nat.le_of_ble_eq_true rfl) (Nat.le_of_ble_eq_true rfl) (Nat.le_of_ble_eq_true rfl) (Nat.le_of_ble_eq_true rfl) ?_
  refine z_st (st' := [vi x_20]) rfl ?_
  refine z_iconst (M := M_X12_word) dX12_word_9 ?_
  rcases if_e H with ⟨h_21, H⟩ | ⟨h_21, H⟩
  · refine z_icmp_eq_f (M := M_X12_word) (tgt := 36) dX12_word_10 (by decide) rfl (by decide +kernel) h_21 ?_
    refine z_aload_n (M := M_X12_word) dX12_word_13 rfl ?_
    obtain ⟨x_23, hc_22, H⟩ := bd_e H
    refine z_callV (M := M_X12_word) (M' := M_X12_here) (as := []) (rest := []) rfl rfl dX12_word_14 m_X12_here t_2860 t_2862 s_164 (c_X12_here hl  hc_22) rfl rfl ly_277 rfl (Nat.le_of_ble_eq_true rfl) (Nat.le_of_ble_eq_true rfl) (Nat.le_of_ble_eq_true rfl) (Nat.le_of_ble_eq_true rfl) ?_
    refine z_st (st' := [vi x_23]) rfl ?_
    refine z_callS (M := M_X12_word) (M' := M_X12_isLetter) (as := [vi x_23]) (rest := []) rfl rfl dX12_word_17 m_X12_isLetter t_2867 t_2868 (c_X12_isLetter hl  rfl) rfl rfl (Nat.le_of_ble_eq_true rfl) (Nat.le_of_ble_eq_true rfl) (Nat.le_of_ble_eq_true rfl) (Nat.le_of_ble_eq_true rfl) ?_
    refine z_st (st' := [zv (fR_isLetter x_23)]) rfl ?_
    rcases if_e H with ⟨h_24, H⟩ | ⟨h_24, H⟩
    · refine z_zeq_f (M := M_X12_word) (tgt := 36) dX12_word_20 (by decide) h_24 ?_
      refine z_aload_n (M := M_X12_word) dX12_word_23 rfl ?_
      refine z_dup (M := M_X12_word) dX12_word_24 rfl ?_
      refine z_getI (M := M_X12_word) (ci := 15) (C := RX12) (T := TX12) (Nf := 135) (ty := tyX12) cl15 dX12_word_25 ly_277 17 (by decide) t_2408 rfl rfl ?_
      refine z_iconst (M := M_X12_word) dX12_word_28 ?_
      refine z_iadd (M := M_X12_word) dX12_word_29 ?_
      obtain ⟨σ_25, σ_25_e, H⟩ := wf_e H
      refine z_putI (M := M_X12_word) (ci := 15) (C := RX12) (T := TX12) (Nf := 135) (ty := tyX12) cl15 dX12_word_30 ly_277 17 (by decide) t_2408 rfl rfl rfl rfl σ_25_e ?_
      refine z_goto (M := M_X12_word) (tgt := 5) dX12_word_33 (by decide) ?_
      exact K_7 _ (Option.some.inj H).symm
    · refine z_zeq_t (M := M_X12_word) (tgt := 36) dX12_word_20 (by decide) h_24 ?_
      exact J_53 _ (K_8 _ (Option.some.inj H).symm).symm
  · refine z_icmp_eq_t (M := M_X12_word) (tgt := 36) dX12_word_10 (by decide) rfl (by decide +kernel) (Decidable.not_not.mp h_21) ?_
    exact J_53 _ (K_8 _ (Option.some.inj H).symm).symm
theorem c_X12_emptyWord (hl : l.stackTraces = false) {σ : SG} {r : Bool} {σ' : SG}  (H : fR_emptyWord σ = some (r, σ')) : en_S l E M_X12_emptyWord 8 0 0 [vr 277] σ (pS (some (zv r)) σ') := by
  unfold fR_emptyWord at H
  refine z_mk (lv := [some (vr 277), none]) m_X12_emptyWord rfl hl (Nat.le_of_ble_eq_true rfl) rfl ?_
  refine z_aload_n (M := M_X12_emptyWord) dX12_emptyWord_0 rfl ?_
  refine z_getI (M := M_X12_emptyWord) (ci := 15) (C := RX12) (T := TX12) (Nf := 135) (ty := tyX12) cl15 dX12_emptyWord_1 ly_277 17 (by decide) t_2408 rfl rfl ?_
  refine z_istore_n (M := M_X12_emptyWord) (lv' := [some (vr 277), some (vi (σ kR_at 0))]) dX12_emptyWord_4 (Nat.le_of_ble_eq_true rfl) rfl rfl ?_
  obtain ⟨v_14, he_15, hk_16⟩ := bd_e H
  have J_17 : ∀ x_12 σ_13, v_14 = (x_12, σ_13) → YY l E M_X12_emptyWord 8 0 0 (pS (some (zv r)) σ') 28 [some (vr 277), some (vi (σ kR_at 0))] [zv x_12] σ_13 0 0 := by
    intro x_12 σ_13 e
    have H := hk_16
    rw [e] at H
    cases H
    exact z_zret (M := M_X12_emptyWord) dX12_emptyWord_28 rfl (Nat.le_of_ble_eq_true rfl) (Nat.le_of_ble_eq_true rfl) ⟨rfl, rfl⟩
  have H := he_15
  refine z_aload_n (M := M_X12_emptyWord) dX12_emptyWord_5 rfl ?_
  obtain ⟨⟨x_3, σ_2⟩, hc_1, H⟩ := bd_e H
  refine z_callV (M := M_X12_emptyWord) (M' := M_X12_word) (as := []) (rest := []) rfl rfl dX12_emptyWord_6 m_X12_word t_2884 t_2886 s_167 (c_X12_word hl  hc_1) rfl rfl ly_277 rfl (Nat.le_of_ble_eq_true rfl) (Nat.le_of_ble_eq_true rfl) (Nat.le_of_ble_eq_true rfl) (Nat.le_of_ble_eq_true rfl) ?_
  refine z_st (st' := [vi x_3]) rfl ?_
  refine z_bipush (M := M_X12_emptyWord) dX12_emptyWord_9 (by decide +kernel) ?_
  rcases if_e H with ⟨h_4, H⟩ | ⟨h_4, H⟩
  · refine z_icmp_eq_t (M := M_X12_emptyWord) (tgt := 23) dX12_emptyWord_11 (by decide) rfl (by decide +kernel) h_4 ?_
    refine z_zconst (M := M_X12_emptyWord) (b := true) dX12_emptyWord_23 rfl ?_
    refine z_goto (M := M_X12_emptyWord) (tgt := 28) dX12_emptyWord_24 (by decide) ?_
    exact J_17 _ _ (Option.some.inj H).symm
  · refine z_icmp_eq_f (M := M_X12_emptyWord) (tgt := 23) dX12_emptyWord_11 (by decide) rfl (by decide +kernel) h_4 ?_
    refine z_aload_n (M := M_X12_emptyWord) dX12_emptyWord_14 rfl ?_
    refine z_iconst (M := M_X12_emptyWord) dX12_emptyWord_15 ?_
    refine z_iload_n (M := M_X12_emptyWord) dX12_emptyWord_16 rfl ?_
    obtain ⟨⟨x_8, σ_7⟩, hc_6, H⟩ := bd_e H
    refine z_callV (M := M_X12_emptyWord) (M' := M_X12_wrong) (as := [vi 2, vi (σ kR_at 0)]) (rest := []) rfl rfl dX12_emptyWord_17 m_X12_wrong t_2874 t_2876 s_166 (c_X12_wrong hl  hc_6) rfl rfl ly_277 rfl (Nat.le_of_ble_eq_true rfl) (Nat.le_of_ble_eq_true rfl) (Nat.le_of_ble_eq_true rfl) (Nat.le_of_ble_eq_true rfl) ?_
    refine z_st (st' := [zv x_8]) rfl ?_
    rcases if_e H with ⟨h_9, H⟩ | ⟨h_9, H⟩
    · refine z_zeq_f (M := M_X12_emptyWord) (tgt := 27) dX12_emptyWord_20 (by decide) h_9 ?_
      refine z_zconst (M := M_X12_emptyWord) (b := true) dX12_emptyWord_23 rfl ?_
      refine z_goto (M := M_X12_emptyWord) (tgt := 28) dX12_emptyWord_24 (by decide) ?_
      exact J_17 _ _ (Option.some.inj H).symm
    · refine z_zeq_t (M := M_X12_emptyWord) (tgt := 27) dX12_emptyWord_20 (by decide) h_9 ?_
      refine z_zconst (M := M_X12_emptyWord) (b := false) dX12_emptyWord_27 rfl ?_
      exact J_17 _ _ (Option.some.inj H).symm
theorem c_X12_pair (hl : l.stackTraces = false) {σ : SG} {kind_0 : Int} {r : Bool} {σ' : SG}  (H : fR_pair σ kind_0 = some (r, σ')) : en_S l E M_X12_pair 3 0 0 [vr 277, vi kind_0] σ (pS (some (zv r)) σ') := by
  unfold fR_pair at H
  refine z_mk (lv := [some (vr 277), some (vi kind_0)]) m_X12_pair rfl hl (Nat.le_of_ble_eq_true rfl) rfl ?_
  refine z_aload_n (M := M_X12_pair) dX12_pair_0 rfl ?_
  obtain ⟨σ_2, hc_1, H⟩ := bd_e H
  refine z_callV (M := M_X12_pair) (M' := M_X12_skip) (as := []) (rest := []) rfl rfl dX12_pair_1 m_X12_skip t_2856 t_2858 s_163 (c_X12_skip hl  hc_1) rfl rfl ly_277 rfl (Nat.le_of_ble_eq_true rfl) (Nat.le_of_ble_eq_true rfl) (Nat.le_of_ble_eq_true rfl) (Nat.le_of_ble_eq_true rfl) ?_
  refine z_st (st' := []) rfl ?_
  refine z_aload_n (M := M_X12_pair) dX12_pair_4 rfl ?_
  refine z_getR (M := M_X12_pair) (ci := 15) (C := RX12) (T := TX12) (Nf := 135) (ty := tyX12) cl15 dX12_pair_5 ly_277 9 (by decide) t_2400 rfl ?_
  refine z_bipush (M := M_X12_pair) dX12_pair_8 (by decide +kernel) ?_
  obtain ⟨x_3, x_3_e, hi_4, H⟩ := rd_e H
  refine z_iald (M := M_X12_pair) dX12_pair_10 ly_280 rfl (by decide +kernel) rfl hi_4 x_3_e ?_
  refine z_iconst (M := M_X12_pair) dX12_pair_11 ?_
  refine z_iadd (M := M_X12_pair) dX12_pair_12 ?_
  refine z_sipush (M := M_X12_pair) dX12_pair_13 (by decide +kernel) ?_
  rcases if_e H with ⟨h_5, H⟩ | ⟨h_5, H⟩
  · refine z_icmp_le_f (M := M_X12_pair) (tgt := 30) dX12_pair_16 (by decide) rfl (by decide +kernel) h_5 ?_
    refine z_aload_n (M := M_X12_pair) dX12_pair_19 rfl ?_
    refine z_bipush (M := M_X12_pair) dX12_pair_20 (by decide +kernel) ?_
    refine z_aload_n (M := M_X12_pair) dX12_pair_22 rfl ?_
    refine z_getI (M := M_X12_pair) (ci := 15) (C := RX12) (T := TX12) (Nf := 135) (ty := tyX12) cl15 dX12_pair_23 ly_277 17 (by decide) t_2408 rfl rfl ?_
    obtain ⟨⟨x_8, σ_7⟩, hc_6, H⟩ := bd_e H
    refine z_callV (M := M_X12_pair) (M' := M_X12_wrong) (as := [vi 7, vi (σ_2 kR_at 0)]) (rest := []) rfl rfl dX12_pair_26 m_X12_wrong t_2874 t_2876 s_166 (c_X12_wrong hl  hc_6) rfl rfl ly_277 rfl (Nat.le_of_ble_eq_true rfl) (Nat.le_of_ble_eq_true rfl) (Nat.le_of_ble_eq_true rfl) (Nat.le_of_ble_eq_true rfl) ?_
    refine z_st (st' := [zv x_8]) rfl ?_
    cases H
    exact z_zret (M := M_X12_pair) dX12_pair_29 rfl (Nat.le_of_ble_eq_true rfl) (Nat.le_of_ble_eq_true rfl) ⟨rfl, rfl⟩
  · refine z_icmp_le_t (M := M_X12_pair) (tgt := 30) dX12_pair_16 (by decide) rfl (by decide +kernel) (Int.not_lt.mp h_5) ?_
    refine z_aload_n (M := M_X12_pair) dX12_pair_30 rfl ?_
    refine z_iload_n (M := M_X12_pair) dX12_pair_31 rfl ?_
    obtain ⟨σ_10, hc_9, H⟩ := bd_e H
    refine z_callV (M := M_X12_pair) (M' := M_X12_tell) (as := [vi kind_0]) (rest := []) rfl rfl dX12_pair_32 m_X12_tell t_2902 t_2904 s_170 (c_X12_tell hl  hc_9) rfl rfl ly_277 rfl (Nat.le_of_ble_eq_true rfl) (Nat.le_of_ble_eq_true rfl) (Nat.le_of_ble_eq_true rfl) (Nat.le_of_ble_eq_true rfl) ?_
    refine z_st (st' := []) rfl ?_
    refine z_aload_n (M := M_X12_pair) dX12_pair_35 rfl ?_
    refine z_iconst (M := M_X12_pair) dX12_pair_36 ?_
    obtain ⟨σ_12, hc_11, H⟩ := bd_e H
    refine z_callV (M := M_X12_pair) (M' := M_X12_tell) (as := [vi 0]) (rest := []) rfl rfl dX12_pair_37 m_X12_tell t_2902 t_2904 s_170 (c_X12_tell hl  hc_11) rfl rfl ly_277 rfl (Nat.le_of_ble_eq_true rfl) (Nat.le_of_ble_eq_true rfl) (Nat.le_of_ble_eq_true rfl) (Nat.le_of_ble_eq_true rfl) ?_
    refine z_st (st' := []) rfl ?_
    refine z_zconst (M := M_X12_pair) (b := true) dX12_pair_40 rfl ?_
    cases H
    exact z_zret (M := M_X12_pair) dX12_pair_41 rfl (Nat.le_of_ble_eq_true rfl) (Nat.le_of_ble_eq_true rfl) ⟨rfl, rfl⟩
theorem c_X12_more (hl : l.stackTraces = false) {σ : SG} {number_0 : Int} {σ' : SG}  (H : fR_more σ number_0 = some σ') : en_S l E M_X12_more 1 0 0 [vr 277, vi number_0] σ (pS (none) σ') := by
  unfold fR_more at H
  refine z_mk (lv := [some (vr 277), some (vi number_0)]) m_X12_more rfl hl (Nat.le_of_ble_eq_true rfl) rfl ?_
  refine z_aload_n (M := M_X12_more) dX12_more_0 rfl ?_
  refine z_getR (M := M_X12_more) (ci := 15) (C := RX12) (T := TX12) (Nf := 135) (ty := tyX12) cl15 dX12_more_1 ly_277 10 (by decide) t_2401 rfl ?_
  refine z_ldc (M := M_X12_more) (n := 65536) dX12_more_4 t_2385 (by decide +kernel) ?_
  refine z_iload_n (M := M_X12_more) dX12_more_6 rfl ?_
  refine z_iadd (M := M_X12_more) dX12_more_7 ?_
  refine z_dup2 (M := M_X12_more) dX12_more_8 rfl rfl ?_
  obtain ⟨x_1, x_1_e, hi_2, H⟩ := rd_e H
  refine z_iald (M := M_X12_more) dX12_more_9 ly_281 rfl rfl rfl hi_2 x_1_e ?_
  refine z_iconst (M := M_X12_more) dX12_more_10 ?_
  refine z_iadd (M := M_X12_more) dX12_more_11 ?_
  obtain ⟨σ_3, σ_3_e, hi_4, H⟩ := wa_e H
  refine z_iast (M := M_X12_more) dX12_more_12 ly_281 rfl rfl rfl hi_4 σ_3_e ?_
  cases H
  exact z_vret (M := M_X12_more) dX12_more_13 rfl (Nat.le_of_ble_eq_true rfl) (Nat.le_of_ble_eq_true rfl) ⟨rfl, rfl⟩
theorem c_X12_closes (hl : l.stackTraces = false) {σ : SG} {r : Bool} {σ' : SG}  (H : fR_closes σ = some (r, σ')) : en_S l E M_X12_closes 3 0 0 [vr 277] σ (pS (some (zv r)) σ') := by
  unfold fR_closes at H
  refine z_mk (lv := [some (vr 277)]) m_X12_closes rfl hl (Nat.le_of_ble_eq_true rfl) rfl ?_
  refine z_aload_n (M := M_X12_closes) dX12_closes_0 rfl ?_
  obtain ⟨σ_2, hc_1, H⟩ := bd_e H
  refine z_callV (M := M_X12_closes) (M' := M_X12_skip) (as := []) (rest := []) rfl rfl dX12_closes_1 m_X12_skip t_2856 t_2858 s_163 (c_X12_skip hl  hc_1) rfl rfl ly_277 rfl (Nat.le_of_ble_eq_true rfl) (Nat.le_of_ble_eq_true rfl) (Nat.le_of_ble_eq_true rfl) (Nat.le_of_ble_eq_true rfl) ?_
  refine z_st (st' := []) rfl ?_
  refine z_aload_n (M := M_X12_closes) dX12_closes_4 rfl ?_
  obtain ⟨x_4, hc_3, H⟩ := bd_e H
  refine z_callV (M := M_X12_closes) (M' := M_X12_here) (as := []) (rest := []) rfl rfl dX12_closes_5 m_X12_here t_2860 t_2862 s_164 (c_X12_here hl  hc_3) rfl rfl ly_277 rfl (Nat.le_of_ble_eq_true rfl) (Nat.le_of_ble_eq_true rfl) (Nat.le_of_ble_eq_true rfl) (Nat.le_of_ble_eq_true rfl) ?_
  refine z_st (st' := [vi x_4]) rfl ?_
  refine z_bipush (M := M_X12_closes) dX12_closes_8 (by decide +kernel) ?_
  rcases if_e H with ⟨h_5, H⟩ | ⟨h_5, H⟩
  · refine z_icmp_eq_f (M := M_X12_closes) (tgt := 19) dX12_closes_10 (by decide) rfl (by decide +kernel) h_5 ?_
    refine z_aload_n (M := M_X12_closes) dX12_closes_13 rfl ?_
    refine z_zconst (M := M_X12_closes) (b := false) dX12_closes_14 rfl ?_
    obtain ⟨⟨x_8, σ_7⟩, hc_6, H⟩ := bd_e H
    refine z_callV (M := M_X12_closes) (M' := M_X12_strange) (as := [zv false]) (rest := []) rfl rfl dX12_closes_15 m_X12_strange t_2870 t_2872 s_165 (c_X12_strange hl  hc_6) rfl rfl ly_277 rfl (Nat.le_of_ble_eq_true rfl) (Nat.le_of_ble_eq_true rfl) (Nat.le_of_ble_eq_true rfl) (Nat.le_of_ble_eq_true rfl) ?_
    refine z_st (st' := [zv x_8]) rfl ?_
    cases H
    exact z_zret (M := M_X12_closes) dX12_closes_18 rfl (Nat.le_of_ble_eq_true rfl) (Nat.le_of_ble_eq_true rfl) ⟨rfl, rfl⟩
  · refine z_icmp_eq_t (M := M_X12_closes) (tgt := 19) dX12_closes_10 (by decide) rfl (by decide +kernel) (Decidable.not_not.mp h_5) ?_
    refine z_aload_n (M := M_X12_closes) dX12_closes_19 rfl ?_
    refine z_dup (M := M_X12_closes) dX12_closes_20 rfl ?_
    refine z_getI (M := M_X12_closes) (ci := 15) (C := RX12) (T := TX12) (Nf := 135) (ty := tyX12) cl15 dX12_closes_21 ly_277 17 (by decide) t_2408 rfl rfl ?_
    refine z_iconst (M := M_X12_closes) dX12_closes_24 ?_
    refine z_iadd (M := M_X12_closes) dX12_closes_25 ?_
    obtain ⟨σ_9, σ_9_e, H⟩ := wf_e H
    refine z_putI (M := M_X12_closes) (ci := 15) (C := RX12) (T := TX12) (Nf := 135) (ty := tyX12) cl15 dX12_closes_26 ly_277 17 (by decide) t_2408 rfl rfl rfl rfl σ_9_e ?_
    refine z_zconst (M := M_X12_closes) (b := true) dX12_closes_29 rfl ?_
    cases H
    exact z_zret (M := M_X12_closes) dX12_closes_30 rfl (Nat.le_of_ble_eq_true rfl) (Nat.le_of_ble_eq_true rfl) ⟨rfl, rfl⟩
theorem c_X12_digitsOn (hl : l.stackTraces = false) {σ : SG} {σ' : SG}  (H : fR_digitsOn σ = some σ') : en_S l E M_X12_digitsOn 2 0 0 [vr 277] σ (pS (none) σ') := by
  unfold fR_digitsOn at H
  refine z_mk (lv := [some (vr 277)]) m_X12_digitsOn rfl hl (Nat.le_of_ble_eq_true rfl) rfl ?_
  obtain ⟨rl_5, hw_2, hk_3⟩ := bd_e H
  have J_16 : ∀ σ_15, rl_5 = σ_15 → YY l E M_X12_digitsOn 2 0 0 (pS (none) σ') 23 [some (vr 277)] [] σ_15 0 0 := by
    intro σ_15 e
    have H := hk_3
    rw [e] at H
    cases H
    exact z_vret (M := M_X12_digitsOn) dX12_digitsOn_23 rfl (Nat.le_of_ble_eq_true rfl) (Nat.le_of_ble_eq_true rfl) ⟨rfl, rfl⟩
  refine whl_go hw_2 (fun σ_1 => YY l E M_X12_digitsOn 2 0 0 (pS (none) σ') 0 [some (vr 277)] [] σ_1 0 0) ?_
  rintro σ_1 o_6 H K_7 K_8
  refine z_aload_n (M := M_X12_digitsOn) dX12_digitsOn_0 rfl ?_
  obtain ⟨x_10, hc_9, H⟩ := bd_e H
  refine z_callV (M := M_X12_digitsOn) (M' := M_X12_here) (as := []) (rest := []) rfl rfl dX12_digitsOn_1 m_X12_here t_2860 t_2862 s_164 (c_X12_here hl  hc_9) rfl rfl ly_277 rfl (Nat.le_of_ble_eq_true rfl) (Nat.le_of_ble_eq_true rfl) (Nat.le_of_ble_eq_true rfl) (Nat.le_of_ble_eq_true rfl) ?_
  refine z_st (st' := [vi x_10]) rfl ?_
  refine z_callS (M := M_X12_digitsOn) (M' := M_X12_isDigit) (as := [vi x_10]) (rest := []) rfl rfl dX12_digitsOn_4 m_X12_isDigit t_2878 t_2879 (c_X12_isDigit hl  rfl) rfl rfl (Nat.le_of_ble_eq_true rfl) (Nat.le_of_ble_eq_true rfl) (Nat.le_of_ble_eq_true rfl) (Nat.le_of_ble_eq_true rfl) ?_
  refine z_st (st' := [zv (fR_isDigit x_10)]) rfl ?_
  rcases if_e H with ⟨h_11, H⟩ | ⟨h_11, H⟩
  · refine z_zeq_f (M := M_X12_digitsOn) (tgt := 23) dX12_digitsOn_7 (by decide) h_11 ?_
    refine z_aload_n (M := M_X12_digitsOn) dX12_digitsOn_10 rfl ?_
    refine z_dup (M := M_X12_digitsOn) dX12_digitsOn_11 rfl ?_
    refine z_getI (M := M_X12_digitsOn) (ci := 15) (C := RX12) (T := TX12) (Nf := 135) (ty := tyX12) cl15 dX12_digitsOn_12 ly_277 17 (by decide) t_2408 rfl rfl ?_
    refine z_iconst (M := M_X12_digitsOn) dX12_digitsOn_15 ?_
    refine z_iadd (M := M_X12_digitsOn) dX12_digitsOn_16 ?_
    obtain ⟨σ_12, σ_12_e, H⟩ := wf_e H
    refine z_putI (M := M_X12_digitsOn) (ci := 15) (C := RX12) (T := TX12) (Nf := 135) (ty := tyX12) cl15 dX12_digitsOn_17 ly_277 17 (by decide) t_2408 rfl rfl rfl rfl σ_12_e ?_
    refine z_goto (M := M_X12_digitsOn) (tgt := 0) dX12_digitsOn_20 (by decide) ?_
    exact K_7 _ (Option.some.inj H).symm
  · refine z_zeq_t (M := M_X12_digitsOn) (tgt := 23) dX12_digitsOn_7 (by decide) h_11 ?_
    exact J_16 _ (K_8 _ (Option.some.inj H).symm).symm
theorem c_X12_round (hl : l.stackTraces = false) {σ : SG} {ahead_0 : Int} {σ' : SG}  (H : fR_round σ ahead_0 = some σ') : en_S l E M_X12_round 1 0 0 [vr 277, vl ahead_0] σ (pS (none) σ') := by
  unfold fR_round at H
  refine z_mk (lv := [some (vr 277), some (vl ahead_0), none, none, none, none, none, none, none, none, none]) m_X12_round rfl hl (Nat.le_of_ble_eq_true rfl) rfl ?_
  refine z_lconst (M := M_X12_round) (m := 0) dX12_round_0 (by decide +kernel) ?_
  refine z_lstore_n (M := M_X12_round) (lv' := [some (vr 277), some (vl ahead_0), none, some (vl 0), none, none, none, none, none, none, none]) dX12_round_1 (Nat.le_of_ble_eq_true rfl) rfl rfl ?_
  refine z_lconst (M := M_X12_round) (m := 0) dX12_round_2 (by decide +kernel) ?_
  refine z_lstore (M := M_X12_round) (lv' := [some (vr 277), some (vl ahead_0), none, some (vl 0), none, some (vl 0), none, none, none, none, none]) dX12_round_3 (Nat.le_of_ble_eq_true rfl) rfl rfl ?_
  refine z_iconst (M := M_X12_round) dX12_round_5 ?_
  refine z_istore (M := M_X12_round) (lv' := [some (vr 277), some (vl ahead_0), none, some (vl 0), none, some (vl 0), none, some (vi (-1)), none, none, none]) dX12_round_6 (Nat.le_of_ble_eq_true rfl) rfl rfl ?_
  refine z_zconst (M := M_X12_round) (b := false) dX12_round_8 rfl ?_
  refine z_zstore (M := M_X12_round) (lv' := [some (vr 277), some (vl ahead_0), none, some (vl 0), none, some (vl 0), none, some (vi (-1)), some (zv false), none, none]) dX12_round_9 (Nat.le_of_ble_eq_true rfl) rfl rfl ?_
  refine z_aload_n (M := M_X12_round) dX12_round_11 rfl ?_
  refine z_getI (M := M_X12_round) (ci := 15) (C := RX12) (T := TX12) (Nf := 135) (ty := tyX12) cl15 dX12_round_12 ly_277 22 (by decide) t_2413 rfl rfl ?_
  refine z_istore (M := M_X12_round) (lv' := [some (vr 277), some (vl ahead_0), none, some (vl 0), none, some (vl 0), none, some (vi (-1)), some (zv false), some (vi (σ kR_numberFrom 0)), none]) dX12_round_15 (Nat.le_of_ble_eq_true rfl) rfl rfl ?_
  obtain ⟨rl_9, hw_6, hk_7⟩ := bd_e H
  have J_87 : ∀ v_50 k_51 first_52 rest_53 i_54, rl_9 = (v_50, k_51, first_52, rest_53, i_54) → YY l E M_X12_round 1 0 0 (pS (none) σ') 128 [some (vr 277), some (vl ahead_0), none, some (vl v_50), none, some (vl k_51), none, some (vi first_52), some (zv rest_53), some (vi i_54), none] [] σ 0 0 := by
    intro v_50 k_51 first_52 rest_53 i_54 e
    have H := hk_7
    rw [e] at H
    obtain ⟨rl_60, hw_57, hk_58⟩ := bd_e H
    have J_86 : ∀ v_75 k_76, rl_60 = (v_75, k_76) → YY l E M_X12_round 1 0 0 (pS (none) σ') 164 [some (vr 277), some (vl ahead_0), none, some (vl v_75), none, some (vl k_76), none, some (vi first_52), some (zv rest_53), none, none] [] σ 0 0 := by
      intro v_75 k_76 e
      have H := hk_58
      rw [e] at H
      have J_77 : YY l E M_X12_round 1 0 0 (pS (none) σ') 194 [some (vr 277), some (vl ahead_0), none, some (vl v_75), none, some (vl k_76), none, some (vi first_52), some (zv rest_53), none, none] [zv (decide ((5 < (w32 first_52)) ∨ (((w32 first_52) = 5) ∧ ((rest_53 = true) ∨ ((w64 (q_lan v_75 1)) = 1)))))] σ 0 0 := by
        obtain ⟨x_78, x_78_e, H⟩ := lt_e H
        refine z_st (congrArg (fun z => zv z :: []) x_78_e) ?_
        refine z_zstore (M := M_X12_round) (lv' := [some (vr 277), some (vl ahead_0), none, some (vl v_75), none, some (vl k_76), none, some (vi first_52), some (zv rest_53), some (zv x_78), none]) dX12_round_194 (Nat.le_of_ble_eq_true rfl) rfl rfl ?_
        refine z_aload_n (M := M_X12_round) dX12_round_196 rfl ?_
        have J_79 : YY l E M_X12_round 1 0 0 (pS (none) σ') 209 [some (vr 277), some (vl ahead_0), none, some (vl v_75), none, some (vl k_76), none, some (vi first_52), some (zv rest_53), some (zv x_78), none] [vl (if x_78 = true then (v_75 + 1) else v_75), vr 277] σ 0 0 := by
          obtain ⟨σ_80, σ_80_e, H⟩ := wf_e H
          refine z_putL (M := M_X12_round) (ci := 15) (C := RX12) (T := TX12) (Nf := 135) (ty := tyX12) cl15 dX12_round_209 ly_277 25 (by decide) t_2416 rfl rfl rfl rfl σ_80_e ?_
          cases H
          exact z_vret (M := M_X12_round) dX12_round_212 rfl (Nat.le_of_ble_eq_true rfl) (Nat.le_of_ble_eq_true rfl) ⟨rfl, rfl⟩
        refine z_zload (M := M_X12_round) dX12_round_197 rfl ?_
        by_cases h_81 : x_78 = true
        · refine z_zeq_f (M := M_X12_round) (tgt := 208) dX12_round_199 (by decide) h_81 ?_
          refine z_lload_n (M := M_X12_round) dX12_round_202 rfl ?_
          refine z_lconst (M := M_X12_round) (m := 1) dX12_round_203 (by decide +kernel) ?_
          refine z_ladd (M := M_X12_round) dX12_round_204 ?_
          refine z_goto (M := M_X12_round) (tgt := 209) dX12_round_205 (by decide) ?_
          exact z_st (by rw [if_pos (c := x_78 = true) h_81]) J_79
        · refine z_zeq_t (M := M_X12_round) (tgt := 208) dX12_round_199 (by decide) h_81 ?_
          refine z_lload_n (M := M_X12_round) dX12_round_208 rfl ?_
          exact z_st (by rw [if_neg (c := x_78 = true) h_81]) J_79
      refine z_iload (M := M_X12_round) dX12_round_164 rfl ?_
      refine z_iconst (M := M_X12_round) dX12_round_166 ?_
      by_cases h_82 : 5 < (w32 first_52)
      · refine z_icmp_gt_t (M := M_X12_round) (tgt := 189) dX12_round_167 (by decide) rfl (by decide +kernel) h_82 ?_
        refine z_iconst (M := M_X12_round) dX12_round_189 ?_
        refine z_goto (M := M_X12_round) (tgt := 194) dX12_round_190 (by decide) ?_
        exact z_st (by rw [zv_t (p := (5 < (w32 first_52)) ∨ (((w32 first_52) = 5) ∧ ((rest_53 = true) ∨ ((w64 (q_lan v_75 1)) = 1)))) (Or.inl h_82)]) J_77
      · refine z_icmp_gt_f (M := M_X12_round) (tgt := 189) dX12_round_167 (by decide) rfl (by decide +kernel) (Int.not_lt.mp h_82) ?_
        refine z_iload (M := M_X12_round) dX12_round_170 rfl ?_
        refine z_iconst (M := M_X12_round) dX12_round_172 ?_
        by_cases h_83 : (w32 first_52) = 5
        · refine z_icmp_ne_f (M := M_X12_round) (tgt := 193) dX12_round_173 (by decide) rfl (by decide +kernel) h_83 ?_
          refine z_zload (M := M_X12_round) dX12_round_176 rfl ?_
          by_cases h_84 : rest_53 = true
          · refine z_zne_t (M := M_X12_round) (tgt := 189) dX12_round_178 (by decide) h_84 ?_
            refine z_iconst (M := M_X12_round) dX12_round_189 ?_
            refine z_goto (M := M_X12_round) (tgt := 194) dX12_round_190 (by decide) ?_
            exact z_st (by rw [zv_t (p := (5 < (w32 first_52)) ∨ (((w32 first_52) = 5) ∧ ((rest_53 = true) ∨ ((w64 (q_lan v_75 1)) = 1)))) (Or.inr ⟨h_83, (Or.inl h_84)⟩)]) J_77
          · refine z_zne_f (M := M_X12_round) (tgt := 189) dX12_round_178 (by decide) h_84 ?_
            refine z_lload_n (M := M_X12_round) dX12_round_181 rfl ?_
            refine z_lconst (M := M_X12_round) (m := 1) dX12_round_182 (by decide +kernel) ?_
            refine z_land (M := M_X12_round) dX12_round_183 ?_
            refine z_lconst (M := M_X12_round) (m := 1) dX12_round_184 (by decide +kernel) ?_
            refine z_lcmp (M := M_X12_round) dX12_round_185 ?_
            by_cases h_85 : (w64 (q_lan v_75 1)) = 1
            · refine z_lif_ne_f (M := M_X12_round) (tgt := 193) dX12_round_186 (by decide) rfl (by decide +kernel) h_85 ?_
              refine z_iconst (M := M_X12_round) dX12_round_189 ?_
              refine z_goto (M := M_X12_round) (tgt := 194) dX12_round_190 (by decide) ?_
              exact z_st (by rw [zv_t (p := (5 < (w32 first_52)) ∨ (((w32 first_52) = 5) ∧ ((rest_53 = true) ∨ ((w64 (q_lan v_75 1)) = 1)))) (Or.inr ⟨h_83, (Or.inr h_85)⟩)]) J_77
            · refine z_lif_ne_t (M := M_X12_round) (tgt := 193) dX12_round_186 (by decide) rfl (by decide +kernel) h_85 ?_
              refine z_iconst (M := M_X12_round) dX12_round_193 ?_
              exact z_st (by rw [zv_f (p := (5 < (w32 first_52)) ∨ (((w32 first_52) = 5) ∧ ((rest_53 = true) ∨ ((w64 (q_lan v_75 1)) = 1)))) (fun q => q.elim h_82 (fun q => (fun q => q.elim h_84 h_85) q.2))]) J_77
        · refine z_icmp_ne_t (M := M_X12_round) (tgt := 193) dX12_round_173 (by decide) rfl (by decide +kernel) h_83 ?_
          refine z_iconst (M := M_X12_round) dX12_round_193 ?_
          exact z_st (by rw [zv_f (p := (5 < (w32 first_52)) ∨ (((w32 first_52) = 5) ∧ ((rest_53 = true) ∨ ((w64 (q_lan v_75 1)) = 1)))) (fun q => q.elim h_82 (fun q => h_83 q.1))]) J_77
    refine z_le (lv' := [some (vr 277), some (vl ahead_0), none, some (vl v_50), none, some (vl k_51), none, some (vi first_52), some (zv rest_53), none, none]) ⟨Or.inr rfl, Or.inr rfl, Or.inl rfl, Or.inr rfl, Or.inl rfl, Or.inr rfl, Or.inl rfl, Or.inr rfl, Or.inr rfl, Or.inl rfl, Or.inl rfl, trivial⟩ ?_
    refine whl_go hw_57 (fun (v_55, k_56) => YY l E M_X12_round 1 0 0 (pS (none) σ') 128 [some (vr 277), some (vl ahead_0), none, some (vl v_55), none, some (vl k_56), none, some (vi first_52), some (zv rest_53), none, none] [] σ 0 0) ?_
    rintro ⟨v_55, k_56⟩ o_61 H K_62 K_63
    rcases if_e H with ⟨h_66, H⟩ | ⟨h_66, H⟩
    · have J_67 : YY l E M_X12_round 1 0 0 (pS (none) σ') 149 [some (vr 277), some (vl ahead_0), none, some (vl v_55), none, some (vl k_56), none, some (vi first_52), some (zv rest_53), none, none] [] σ 0 0 := by
        refine z_ldc2 (M := M_X12_round) (n := 10) dX12_round_149 t_2390 (by decide +kernel) ?_
        refine z_lload_n (M := M_X12_round) dX12_round_152 rfl ?_
        refine z_lmul (M := M_X12_round) dX12_round_153 ?_
        refine z_lstore_n (M := M_X12_round) (lv' := [some (vr 277), some (vl ahead_0), none, some (vl (10 * v_55)), none, some (vl k_56), none, some (vi first_52), some (zv rest_53), none, none]) dX12_round_154 (Nat.le_of_ble_eq_true rfl) rfl rfl ?_
        refine z_lload (M := M_X12_round) dX12_round_155 rfl ?_
        refine z_lconst (M := M_X12_round) (m := 1) dX12_round_157 (by decide +kernel) ?_
        refine z_ladd (M := M_X12_round) dX12_round_158 ?_
        refine z_lstore (M := M_X12_round) (lv' := [some (vr 277), some (vl ahead_0), none, some (vl (10 * v_55)), none, some (vl (k_56 + 1)), none, some (vi first_52), some (zv rest_53), none, none]) dX12_round_159 (Nat.le_of_ble_eq_true rfl) rfl rfl ?_
        refine z_goto (M := M_X12_round) (tgt := 128) dX12_round_161 (by decide) ?_
        exact K_62 _ (Option.some.inj H).symm
      refine z_lload (M := M_X12_round) dX12_round_128 rfl ?_
      refine z_lload_n (M := M_X12_round) dX12_round_130 rfl ?_
      refine z_lcmp (M := M_X12_round) dX12_round_131 ?_
      by_cases h_69 : (w64 k_56) < (w64 ahead_0)
      · refine z_lif_ge_f (M := M_X12_round) (tgt := 164) dX12_round_132 (by decide) rfl rfl h_69 ?_
        refine z_lload_n (M := M_X12_round) dX12_round_135 rfl ?_
        refine z_lconst (M := M_X12_round) (m := 0) dX12_round_136 (by decide +kernel) ?_
        refine z_lcmp (M := M_X12_round) dX12_round_137 ?_
        by_cases h_70 : 0 < (w64 v_55)
        · refine z_lif_le_f (M := M_X12_round) (tgt := 164) dX12_round_138 (by decide) rfl (by decide +kernel) h_70 ?_
          refine z_lload_n (M := M_X12_round) dX12_round_141 rfl ?_
          refine z_ldc2 (M := M_X12_round) (n := 4000000000) dX12_round_142 t_2936 (by decide +kernel) ?_
          refine z_lcmp (M := M_X12_round) dX12_round_145 ?_
          by_cases h_71 : (w64 v_55) < 4000000000
          · refine z_lif_ge_f (M := M_X12_round) (tgt := 164) dX12_round_146 (by decide) rfl (by decide +kernel) h_71 ?_
            exact J_67
          · refine z_lif_ge_t (M := M_X12_round) (tgt := 164) dX12_round_146 (by decide) rfl (by decide +kernel) (Int.not_lt.mp h_71) ?_
            exact absurd h_66 (fun q => h_71 q.2)
        · refine z_lif_le_t (M := M_X12_round) (tgt := 164) dX12_round_138 (by decide) rfl (by decide +kernel) (Int.not_lt.mp h_70) ?_
          exact absurd h_66 (fun q => (fun q => h_70 q.2) q.1)
      · refine z_lif_ge_t (M := M_X12_round) (tgt := 164) dX12_round_132 (by decide) rfl rfl (Int.not_lt.mp h_69) ?_
        exact absurd h_66 (fun q => (fun q => h_69 q.1) q.1)
    · have J_68 : YY l E M_X12_round 1 0 0 (pS (none) σ') 164 [some (vr 277), some (vl ahead_0), none, some (vl v_55), none, some (vl k_56), none, some (vi first_52), some (zv rest_53), none, none] [] σ 0 0 := by
        exact J_86 _ _ (K_63 _ (Option.some.inj H).symm).symm
      refine z_lload (M := M_X12_round) dX12_round_128 rfl ?_
      refine z_lload_n (M := M_X12_round) dX12_round_130 rfl ?_
      refine z_lcmp (M := M_X12_round) dX12_round_131 ?_
      by_cases h_72 : (w64 k_56) < (w64 ahead_0)
      · refine z_lif_ge_f (M := M_X12_round) (tgt := 164) dX12_round_132 (by decide) rfl rfl h_72 ?_
        refine z_lload_n (M := M_X12_round) dX12_round_135 rfl ?_
        refine z_lconst (M := M_X12_round) (m := 0) dX12_round_136 (by decide +kernel) ?_
        refine z_lcmp (M := M_X12_round) dX12_round_137 ?_
        by_cases h_73 : 0 < (w64 v_55)
        · refine z_lif_le_f (M := M_X12_round) (tgt := 164) dX12_round_138 (by decide) rfl (by decide +kernel) h_73 ?_
          refine z_lload_n (M := M_X12_round) dX12_round_141 rfl ?_
          refine z_ldc2 (M := M_X12_round) (n := 4000000000) dX12_round_142 t_2936 (by decide +kernel) ?_
          refine z_lcmp (M := M_X12_round) dX12_round_145 ?_
          by_cases h_74 : (w64 v_55) < 4000000000
          · refine z_lif_ge_f (M := M_X12_round) (tgt := 164) dX12_round_146 (by decide) rfl (by decide +kernel) h_74 ?_
            exact absurd ⟨⟨h_72, h_73⟩, h_74⟩ h_66
          · refine z_lif_ge_t (M := M_X12_round) (tgt := 164) dX12_round_146 (by decide) rfl (by decide +kernel) (Int.not_lt.mp h_74) ?_
            exact J_68
        · refine z_lif_le_t (M := M_X12_round) (tgt := 164) dX12_round_138 (by decide) rfl (by decide +kernel) (Int.not_lt.mp h_73) ?_
          exact J_68
      · refine z_lif_ge_t (M := M_X12_round) (tgt := 164) dX12_round_132 (by decide) rfl rfl (Int.not_lt.mp h_72) ?_
        exact J_68
  refine whl_go hw_6 (fun (v_1, k_2, first_3, rest_4, i_5) => YY l E M_X12_round 1 0 0 (pS (none) σ') 17 [some (vr 277), some (vl ahead_0), none, some (vl v_1), none, some (vl k_2), none, some (vi first_3), some (zv rest_4), some (vi i_5), none] [] σ 0 0) ?_
  rintro ⟨v_1, k_2, first_3, rest_4, i_5⟩ o_10 H K_11 K_12
  refine z_iload (M := M_X12_round) dX12_round_17 rfl ?_
  refine z_aload_n (M := M_X12_round) dX12_round_19 rfl ?_
  refine z_getI (M := M_X12_round) (ci := 15) (C := RX12) (T := TX12) (Nf := 135) (ty := tyX12) cl15 dX12_round_20 ly_277 23 (by decide) t_2414 rfl rfl ?_
  rcases if_e H with ⟨h_13, H⟩ | ⟨h_13, H⟩
  · refine z_icmp_ge_f (M := M_X12_round) (tgt := 128) dX12_round_23 (by decide) rfl rfl h_13 ?_
    refine z_aload_n (M := M_X12_round) dX12_round_26 rfl ?_
    refine z_getR (M := M_X12_round) (ci := 15) (C := RX12) (T := TX12) (Nf := 135) (ty := tyX12) cl15 dX12_round_27 ly_277 3 (by decide) t_2394 rfl ?_
    refine z_iload (M := M_X12_round) dX12_round_30 rfl ?_
    obtain ⟨x_14, x_14_e, hi_15, H⟩ := rd_e H
    refine z_bald (M := M_X12_round) dX12_round_32 ly_278 rfl rfl rfl hi_15 x_14_e ?_
    refine z_bipush (M := M_X12_round) dX12_round_33 (by decide +kernel) ?_
    rcases if_e H with ⟨h_16, H⟩ | ⟨h_16, H⟩
    · refine z_icmp_ne_f (M := M_X12_round) (tgt := 41) dX12_round_35 (by decide) rfl (by decide +kernel) h_16 ?_
      refine z_goto (M := M_X12_round) (tgt := 122) dX12_round_38 (by decide) ?_
      refine z_iinc (M := M_X12_round) (lv' := [some (vr 277), some (vl ahead_0), none, some (vl v_1), none, some (vl k_2), none, some (vi first_3), some (zv rest_4), some (vi (i_5 + 1)), none]) dX12_round_122 rfl (Nat.le_of_ble_eq_true rfl) rfl rfl ?_
      refine z_goto (M := M_X12_round) (tgt := 17) dX12_round_125 (by decide) ?_
      exact K_11 _ (Option.some.inj H).symm
    · refine z_icmp_ne_t (M := M_X12_round) (tgt := 41) dX12_round_35 (by decide) rfl (by decide +kernel) h_16 ?_
      refine z_aload_n (M := M_X12_round) dX12_round_41 rfl ?_
      refine z_getR (M := M_X12_round) (ci := 15) (C := RX12) (T := TX12) (Nf := 135) (ty := tyX12) cl15 dX12_round_42 ly_277 3 (by decide) t_2394 rfl ?_
      refine z_iload (M := M_X12_round) dX12_round_45 rfl ?_
      obtain ⟨x_18, x_18_e, hi_19, H⟩ := rd_e H
      refine z_bald (M := M_X12_round) dX12_round_47 ly_278 rfl rfl rfl hi_19 x_18_e ?_
      refine z_bipush (M := M_X12_round) dX12_round_48 (by decide +kernel) ?_
      refine z_isub (M := M_X12_round) dX12_round_50 ?_
      refine z_istore (M := M_X12_round) (lv' := [some (vr 277), some (vl ahead_0), none, some (vl v_1), none, some (vl k_2), none, some (vi first_3), some (zv rest_4), some (vi i_5), some (vi ((w8 x_18) - 48))]) dX12_round_51 (Nat.le_of_ble_eq_true rfl) rfl rfl ?_
      obtain ⟨v_23, he_20, hk_21⟩ := bd_e H
      have J_48 : ∀ v_44 first_45 rest_46, v_23 = (v_44, first_45, rest_46) → YY l E M_X12_round 1 0 0 (pS (none) σ') 116 [some (vr 277), some (vl ahead_0), none, some (vl v_44), none, some (vl k_2), none, some (vi first_45), some (zv rest_46), some (vi i_5), some (vi ((w8 x_18) - 48))] [] σ 0 0 := by
        intro v_44 first_45 rest_46 e
        have H := hk_21
        rw [e] at H
        refine z_lload (M := M_X12_round) dX12_round_116 rfl ?_
        refine z_lconst (M := M_X12_round) (m := 1) dX12_round_118 (by decide +kernel) ?_
        refine z_ladd (M := M_X12_round) dX12_round_119 ?_
        refine z_lstore (M := M_X12_round) (lv' := [some (vr 277), some (vl ahead_0), none, some (vl v_44), none, some (vl (k_2 + 1)), none, some (vi first_45), some (zv rest_46), some (vi i_5), some (vi ((w8 x_18) - 48))]) dX12_round_120 (Nat.le_of_ble_eq_true rfl) rfl rfl ?_
        refine z_iinc (M := M_X12_round) (lv' := [some (vr 277), some (vl ahead_0), none, some (vl v_44), none, some (vl (k_2 + 1)), none, some (vi first_45), some (zv rest_46), some (vi (i_5 + 1)), some (vi ((w8 x_18) - 48))]) dX12_round_122 rfl (Nat.le_of_ble_eq_true rfl) rfl rfl ?_
        refine z_goto (M := M_X12_round) (tgt := 17) dX12_round_125 (by decide) ?_
        refine z_le (lv' := [some (vr 277), some (vl ahead_0), none, some (vl v_44), none, some (vl (k_2 + 1)), none, some (vi first_45), some (zv rest_46), some (vi (i_5 + 1)), none]) ⟨Or.inr rfl, Or.inr rfl, Or.inl rfl, Or.inr rfl, Or.inl rfl, Or.inr rfl, Or.inl rfl, Or.inr rfl, Or.inr rfl, Or.inr rfl, Or.inl rfl, trivial⟩ ?_
        exact K_11 _ (Option.some.inj H).symm
      have H := he_20
      refine z_lload (M := M_X12_round) dX12_round_53 rfl ?_
      refine z_lload_n (M := M_X12_round) dX12_round_55 rfl ?_
      refine z_lcmp (M := M_X12_round) dX12_round_56 ?_
      rcases if_e H with ⟨h_24, H⟩ | ⟨h_24, H⟩
      · refine z_lif_ge_f (M := M_X12_round) (tgt := 85) dX12_round_57 (by decide) rfl rfl h_24 ?_
        have J_25 : YY l E M_X12_round 1 0 0 (pS (none) σ') 81 [some (vr 277), some (vl ahead_0), none, some (vl v_1), none, some (vl k_2), none, some (vi first_3), some (zv rest_4), some (vi i_5), some (vi ((w8 x_18) - 48))] [vl (if (w64 v_1) < 4000000000 then ((10 * v_1) + (w32 ((w8 x_18) - 48))) else v_1)] σ 0 0 := by
          obtain ⟨x_26, x_26_e, H⟩ := lt_e H
          refine z_st (congrArg (fun z => vl z :: []) x_26_e) ?_
          refine z_lstore_n (M := M_X12_round) (lv' := [some (vr 277), some (vl ahead_0), none, some (vl x_26), none, some (vl k_2), none, some (vi first_3), some (zv rest_4), some (vi i_5), some (vi ((w8 x_18) - 48))]) dX12_round_81 (Nat.le_of_ble_eq_true rfl) rfl rfl ?_
          refine z_goto (M := M_X12_round) (tgt := 116) dX12_round_82 (by decide) ?_
          exact J_48 _ _ _ (Option.some.inj H).symm
        refine z_lload_n (M := M_X12_round) dX12_round_60 rfl ?_
        refine z_ldc2 (M := M_X12_round) (n := 4000000000) dX12_round_61 t_2936 (by decide +kernel) ?_
        refine z_lcmp (M := M_X12_round) dX12_round_64 ?_
        by_cases h_28 : (w64 v_1) < 4000000000
        · refine z_lif_ge_f (M := M_X12_round) (tgt := 80) dX12_round_65 (by decide) rfl (by decide +kernel) h_28 ?_
          refine z_ldc2 (M := M_X12_round) (n := 10) dX12_round_68 t_2390 (by decide +kernel) ?_
          refine z_lload_n (M := M_X12_round) dX12_round_71 rfl ?_
          refine z_lmul (M := M_X12_round) dX12_round_72 ?_
          refine z_iload (M := M_X12_round) dX12_round_73 rfl ?_
          refine z_i2l (M := M_X12_round) dX12_round_75 ?_
          refine z_ladd (M := M_X12_round) dX12_round_76 ?_
          refine z_goto (M := M_X12_round) (tgt := 81) dX12_round_77 (by decide) ?_
          exact z_st (by rw [if_pos (c := (w64 v_1) < 4000000000) h_28]) J_25
        · refine z_lif_ge_t (M := M_X12_round) (tgt := 80) dX12_round_65 (by decide) rfl (by decide +kernel) (Int.not_lt.mp h_28) ?_
          refine z_lload_n (M := M_X12_round) dX12_round_80 rfl ?_
          exact z_st (by rw [if_neg (c := (w64 v_1) < 4000000000) h_28]) J_25
      · refine z_lif_ge_t (M := M_X12_round) (tgt := 85) dX12_round_57 (by decide) rfl rfl (Int.not_lt.mp h_24) ?_
        obtain ⟨v_32, he_29, hk_30⟩ := bd_e H
        have J_43 : ∀ first_40 rest_41, v_32 = (first_40, rest_41) → YY l E M_X12_round 1 0 0 (pS (none) σ') 116 [some (vr 277), some (vl ahead_0), none, some (vl v_1), none, some (vl k_2), none, some (vi first_40), some (zv rest_41), some (vi i_5), some (vi ((w8 x_18) - 48))] [] σ 0 0 := by
          intro first_40 rest_41 e
          have H := hk_30
          rw [e] at H
          exact J_48 _ _ _ (Option.some.inj H).symm
        have H := he_29
        refine z_lload (M := M_X12_round) dX12_round_85 rfl ?_
        refine z_lload_n (M := M_X12_round) dX12_round_87 rfl ?_
        refine z_lcmp (M := M_X12_round) dX12_round_88 ?_
        rcases if_e H with ⟨h_33, H⟩ | ⟨h_33, H⟩
        · refine z_lif_ne_f (M := M_X12_round) (tgt := 99) dX12_round_89 (by decide) rfl rfl h_33 ?_
          refine z_iload (M := M_X12_round) dX12_round_92 rfl ?_
          refine z_istore (M := M_X12_round) (lv' := [some (vr 277), some (vl ahead_0), none, some (vl v_1), none, some (vl k_2), none, some (vi ((w8 x_18) - 48)), some (zv rest_4), some (vi i_5), some (vi ((w8 x_18) - 48))]) dX12_round_94 (Nat.le_of_ble_eq_true rfl) rfl rfl ?_
          refine z_goto (M := M_X12_round) (tgt := 116) dX12_round_96 (by decide) ?_
          exact J_43 _ _ (Option.some.inj H).symm
        · refine z_lif_ne_t (M := M_X12_round) (tgt := 99) dX12_round_89 (by decide) rfl rfl h_33 ?_
          have J_35 : YY l E M_X12_round 1 0 0 (pS (none) σ') 114 [some (vr 277), some (vl ahead_0), none, some (vl v_1), none, some (vl k_2), none, some (vi first_3), some (zv rest_4), some (vi i_5), some (vi ((w8 x_18) - 48))] [zv (decide ((rest_4 = true) ∨ (0 < (w32 ((w8 x_18) - 48)))))] σ 0 0 := by
            obtain ⟨x_36, x_36_e, H⟩ := lt_e H
            refine z_st (congrArg (fun z => zv z :: []) x_36_e) ?_
            refine z_zstore (M := M_X12_round) (lv' := [some (vr 277), some (vl ahead_0), none, some (vl v_1), none, some (vl k_2), none, some (vi first_3), some (zv x_36), some (vi i_5), some (vi ((w8 x_18) - 48))]) dX12_round_114 (Nat.le_of_ble_eq_true rfl) rfl rfl ?_
            exact J_43 _ _ (Option.some.inj H).symm
          refine z_zload (M := M_X12_round) dX12_round_99 rfl ?_
          by_cases h_38 : rest_4 = true
          · refine z_zne_t (M := M_X12_round) (tgt := 109) dX12_round_101 (by decide) h_38 ?_
            refine z_iconst (M := M_X12_round) dX12_round_109 ?_
            refine z_goto (M := M_X12_round) (tgt := 114) dX12_round_110 (by decide) ?_
            exact z_st (by rw [zv_t (p := (rest_4 = true) ∨ (0 < (w32 ((w8 x_18) - 48)))) (Or.inl h_38)]) J_35
          · refine z_zne_f (M := M_X12_round) (tgt := 109) dX12_round_101 (by decide) h_38 ?_
            refine z_iload (M := M_X12_round) dX12_round_104 rfl ?_
            by_cases h_39 : 0 < (w32 ((w8 x_18) - 48))
            · refine z_if_le_f (M := M_X12_round) (tgt := 113) dX12_round_106 (by decide) rfl h_39 ?_
              refine z_iconst (M := M_X12_round) dX12_round_109 ?_
              refine z_goto (M := M_X12_round) (tgt := 114) dX12_round_110 (by decide) ?_
              exact z_st (by rw [zv_t (p := (rest_4 = true) ∨ (0 < (w32 ((w8 x_18) - 48)))) (Or.inr h_39)]) J_35
            · refine z_if_le_t (M := M_X12_round) (tgt := 113) dX12_round_106 (by decide) rfl (Int.not_lt.mp h_39) ?_
              refine z_iconst (M := M_X12_round) dX12_round_113 ?_
              exact z_st (by rw [zv_f (p := (rest_4 = true) ∨ (0 < (w32 ((w8 x_18) - 48)))) (fun q => q.elim h_38 h_39)]) J_35
  · refine z_icmp_ge_t (M := M_X12_round) (tgt := 128) dX12_round_23 (by decide) rfl rfl (Int.not_lt.mp h_13) ?_
    exact J_87 _ _ _ _ _ (K_12 _ (Option.some.inj H).symm).symm
theorem c_X12_number (hl : l.stackTraces = false) {σ : SG} {r : Bool} {σ' : SG}  (H : fR_number σ = some (r, σ')) : en_S l E M_X12_number 3 0 0 [vr 277] σ (pS (some (zv r)) σ') := by
  unfold fR_number at H
  refine z_mk (lv := [some (vr 277), none, none, none, none, none, none, none, none]) m_X12_number rfl hl (Nat.le_of_ble_eq_true rfl) rfl ?_
  refine z_aload_n (M := M_X12_number) dX12_number_0 rfl ?_
  refine z_getI (M := M_X12_number) (ci := 15) (C := RX12) (T := TX12) (Nf := 135) (ty := tyX12) cl15 dX12_number_1 ly_277 17 (by decide) t_2408 rfl rfl ?_
  refine z_istore_n (M := M_X12_number) (lv' := [some (vr 277), some (vi (σ kR_at 0)), none, none, none, none, none, none, none]) dX12_number_4 (Nat.le_of_ble_eq_true rfl) rfl rfl ?_
  refine z_aload_n (M := M_X12_number) dX12_number_5 rfl ?_
  obtain ⟨x_2, hc_1, H⟩ := bd_e H
  refine z_callV (M := M_X12_number) (M' := M_X12_here) (as := []) (rest := []) rfl rfl dX12_number_6 m_X12_here t_2860 t_2862 s_164 (c_X12_here hl  hc_1) rfl rfl ly_277 rfl (Nat.le_of_ble_eq_true rfl) (Nat.le_of_ble_eq_true rfl) (Nat.le_of_ble_eq_true rfl) (Nat.le_of_ble_eq_true rfl) ?_
  refine z_st (st' := [vi x_2]) rfl ?_
  refine z_istore_n (M := M_X12_number) (lv' := [some (vr 277), some (vi (σ kR_at 0)), some (vi x_2), none, none, none, none, none, none]) dX12_number_9 (Nat.le_of_ble_eq_true rfl) rfl rfl ?_
  rcases if_e H with ⟨h_220, H⟩ | ⟨h_220, H⟩
  · have J_221 : YY l E M_X12_number 3 0 0 (pS (some (zv r)) σ') 30 [some (vr 277), some (vi (σ kR_at 0)), some (vi x_2), none, none, none, none, none, none] [] σ 0 0 := by
      refine z_aload_n (M := M_X12_number) dX12_number_30 rfl ?_
      refine z_zconst (M := M_X12_number) (b := false) dX12_number_31 rfl ?_
      obtain ⟨⟨x_5, σ_4⟩, hc_3, H⟩ := bd_e H
      refine z_callV (M := M_X12_number) (M' := M_X12_strange) (as := [zv false]) (rest := []) rfl rfl dX12_number_32 m_X12_strange t_2870 t_2872 s_165 (c_X12_strange hl  hc_3) rfl rfl ly_277 rfl (Nat.le_of_ble_eq_true rfl) (Nat.le_of_ble_eq_true rfl) (Nat.le_of_ble_eq_true rfl) (Nat.le_of_ble_eq_true rfl) ?_
      refine z_st (st' := [zv x_5]) rfl ?_
      cases H
      exact z_zret (M := M_X12_number) dX12_number_35 rfl (Nat.le_of_ble_eq_true rfl) (Nat.le_of_ble_eq_true rfl) ⟨rfl, rfl⟩
    refine z_iload_n (M := M_X12_number) dX12_number_10 rfl ?_
    refine z_callS (M := M_X12_number) (M' := M_X12_isDigit) (as := [vi x_2]) (rest := []) rfl rfl dX12_number_11 m_X12_isDigit t_2878 t_2879 (c_X12_isDigit hl  rfl) rfl rfl (Nat.le_of_ble_eq_true rfl) (Nat.le_of_ble_eq_true rfl) (Nat.le_of_ble_eq_true rfl) (Nat.le_of_ble_eq_true rfl) ?_
    refine z_st (st' := [zv (fR_isDigit x_2)]) rfl ?_
    by_cases h_223 : (fR_isDigit x_2) = true
    · refine z_zne_t (M := M_X12_number) (tgt := 36) dX12_number_14 (by decide) h_223 ?_
      exact absurd h_220 (fun q => (fun q => (not_not_intro h_223) q.1) q.1)
    · refine z_zne_f (M := M_X12_number) (tgt := 36) dX12_number_14 (by decide) h_223 ?_
      refine z_iload_n (M := M_X12_number) dX12_number_17 rfl ?_
      refine z_callS (M := M_X12_number) (M' := M_X12_isSign) (as := [vi x_2]) (rest := []) rfl rfl dX12_number_18 m_X12_isSign t_2881 t_2882 (c_X12_isSign hl  rfl) rfl rfl (Nat.le_of_ble_eq_true rfl) (Nat.le_of_ble_eq_true rfl) (Nat.le_of_ble_eq_true rfl) (Nat.le_of_ble_eq_true rfl) ?_
      refine z_st (st' := [zv (fR_isSign x_2)]) rfl ?_
      by_cases h_224 : (fR_isSign x_2) = true
      · refine z_zne_t (M := M_X12_number) (tgt := 36) dX12_number_21 (by decide) h_224 ?_
        exact absurd h_220 (fun q => (fun q => (not_not_intro h_224) q.2) q.1)
      · refine z_zne_f (M := M_X12_number) (tgt := 36) dX12_number_21 (by decide) h_224 ?_
        refine z_iload_n (M := M_X12_number) dX12_number_24 rfl ?_
        refine z_bipush (M := M_X12_number) dX12_number_25 (by decide +kernel) ?_
        by_cases h_225 : ¬ (w32 x_2) = 46
        · refine z_icmp_eq_f (M := M_X12_number) (tgt := 36) dX12_number_27 (by decide) rfl (by decide +kernel) h_225 ?_
          exact J_221
        · refine z_icmp_eq_t (M := M_X12_number) (tgt := 36) dX12_number_27 (by decide) rfl (by decide +kernel) (Decidable.not_not.mp h_225) ?_
          exact absurd h_220 (fun q => h_225 q.2)
  · have J_222 : YY l E M_X12_number 3 0 0 (pS (some (zv r)) σ') 36 [some (vr 277), some (vi (σ kR_at 0)), some (vi x_2), none, none, none, none, none, none] [] σ 0 0 := by
      obtain ⟨v_9, he_6, hk_7⟩ := bd_e H
      have J_219 : ∀ σ_14, v_9 = σ_14 → YY l E M_X12_number 3 0 0 (pS (some (zv r)) σ') 53 [some (vr 277), some (vi (σ kR_at 0)), some (vi x_2), none, none, none, none, none, none] [] σ_14 0 0 := by
        intro σ_14 e
        have H := hk_7
        rw [e] at H
        refine z_aload_n (M := M_X12_number) dX12_number_53 rfl ?_
        refine z_aload_n (M := M_X12_number) dX12_number_54 rfl ?_
        refine z_getI (M := M_X12_number) (ci := 15) (C := RX12) (T := TX12) (Nf := 135) (ty := tyX12) cl15 dX12_number_55 ly_277 17 (by decide) t_2408 rfl rfl ?_
        obtain ⟨σ_15, σ_15_e, H⟩ := wf_e H
        refine z_putI (M := M_X12_number) (ci := 15) (C := RX12) (T := TX12) (Nf := 135) (ty := tyX12) cl15 dX12_number_58 ly_277 22 (by decide) t_2413 rfl rfl rfl rfl σ_15_e ?_
        refine z_aload_n (M := M_X12_number) dX12_number_61 rfl ?_
        obtain ⟨σ_17, hc_16, H⟩ := bd_e H
        refine z_callV (M := M_X12_number) (M' := M_X12_digitsOn) (as := []) (rest := []) rfl rfl dX12_number_62 m_X12_digitsOn t_2926 t_2928 s_176 (c_X12_digitsOn hl  hc_16) rfl rfl ly_277 rfl (Nat.le_of_ble_eq_true rfl) (Nat.le_of_ble_eq_true rfl) (Nat.le_of_ble_eq_true rfl) (Nat.le_of_ble_eq_true rfl) ?_
        refine z_st (st' := []) rfl ?_
        refine z_aload_n (M := M_X12_number) dX12_number_65 rfl ?_
        refine z_aload_n (M := M_X12_number) dX12_number_66 rfl ?_
        refine z_getI (M := M_X12_number) (ci := 15) (C := RX12) (T := TX12) (Nf := 135) (ty := tyX12) cl15 dX12_number_67 ly_277 17 (by decide) t_2408 rfl rfl ?_
        refine z_aload_n (M := M_X12_number) dX12_number_70 rfl ?_
        refine z_getI (M := M_X12_number) (ci := 15) (C := RX12) (T := TX12) (Nf := 135) (ty := tyX12) cl15 dX12_number_71 ly_277 22 (by decide) t_2413 rfl rfl ?_
        refine z_isub (M := M_X12_number) dX12_number_74 ?_
        obtain ⟨σ_18, σ_18_e, H⟩ := wf_e H
        refine z_putI (M := M_X12_number) (ci := 15) (C := RX12) (T := TX12) (Nf := 135) (ty := tyX12) cl15 dX12_number_75 ly_277 24 (by decide) t_2415 rfl rfl rfl rfl σ_18_e ?_
        refine z_aload_n (M := M_X12_number) dX12_number_78 rfl ?_
        refine z_getI (M := M_X12_number) (ci := 15) (C := RX12) (T := TX12) (Nf := 135) (ty := tyX12) cl15 dX12_number_79 ly_277 24 (by decide) t_2415 rfl rfl ?_
        refine z_istore_n (M := M_X12_number) (lv' := [some (vr 277), some (vi (σ kR_at 0)), some (vi x_2), some (vi (σ_18 kR_numberWhole 0)), none, none, none, none, none]) dX12_number_82 (Nat.le_of_ble_eq_true rfl) rfl rfl ?_
        obtain ⟨v_22, he_19, hk_20⟩ := bd_e H
        have J_218 : ∀ many_32 σ_33, v_22 = (many_32, σ_33) → YY l E M_X12_number 3 0 0 (pS (some (zv r)) σ') 122 [some (vr 277), some (vi (σ kR_at 0)), some (vi x_2), some (vi many_32), none, none, none, none, none] [] σ_33 0 0 := by
          intro many_32 σ_33 e
          have H := hk_20
          rw [e] at H
          refine z_aload_n (M := M_X12_number) dX12_number_122 rfl ?_
          refine z_aload_n (M := M_X12_number) dX12_number_123 rfl ?_
          refine z_getI (M := M_X12_number) (ci := 15) (C := RX12) (T := TX12) (Nf := 135) (ty := tyX12) cl15 dX12_number_124 ly_277 17 (by decide) t_2408 rfl rfl ?_
          obtain ⟨σ_34, σ_34_e, H⟩ := wf_e H
          refine z_putI (M := M_X12_number) (ci := 15) (C := RX12) (T := TX12) (Nf := 135) (ty := tyX12) cl15 dX12_number_127 ly_277 23 (by decide) t_2414 rfl rfl rfl rfl σ_34_e ?_
          have J_35 : YY l E M_X12_number 3 0 0 (pS (some (zv r)) σ') 139 [some (vr 277), some (vi (σ kR_at 0)), some (vi x_2), some (vi many_32), none, none, none, none, none] [zv (decide (0 < (w32 many_32)))] σ_34 0 0 := by
            refine z_zstore (M := M_X12_number) (lv' := [some (vr 277), some (vi (σ kR_at 0)), some (vi x_2), some (vi many_32), some (zv (decide (0 < (w32 many_32)))), none, none, none, none]) dX12_number_139 (Nat.le_of_ble_eq_true rfl) rfl rfl ?_
            refine z_lconst (M := M_X12_number) (m := 0) dX12_number_141 (by decide +kernel) ?_
            refine z_lstore (M := M_X12_number) (lv' := [some (vr 277), some (vi (σ kR_at 0)), some (vi x_2), some (vi many_32), some (zv (decide (0 < (w32 many_32)))), some (vl 0), none, none, none]) dX12_number_142 (Nat.le_of_ble_eq_true rfl) rfl rfl ?_
            obtain ⟨v_39, he_36, hk_37⟩ := bd_e H
            have J_216 : ∀ good_185 power_186 σ_187, v_39 = (good_185, power_186, σ_187) → YY l E M_X12_number 3 0 0 (pS (some (zv r)) σ') 305 [some (vr 277), some (vi (σ kR_at 0)), some (vi x_2), some (vi many_32), some (zv good_185), some (vl power_186), none, none, none] [] σ_187 0 0 := by
              intro good_185 power_186 σ_187 e
              have H := hk_37
              rw [e] at H
              refine z_aload_n (M := M_X12_number) dX12_number_305 rfl ?_
              obtain ⟨x_189, hc_188, H⟩ := bd_e H
              refine z_callV (M := M_X12_number) (M' := M_X12_here) (as := []) (rest := []) rfl rfl dX12_number_306 m_X12_here t_2860 t_2862 s_164 (c_X12_here hl  hc_188) rfl rfl ly_277 rfl (Nat.le_of_ble_eq_true rfl) (Nat.le_of_ble_eq_true rfl) (Nat.le_of_ble_eq_true rfl) (Nat.le_of_ble_eq_true rfl) ?_
              refine z_st (st' := [vi x_189]) rfl ?_
              refine z_istore (M := M_X12_number) (lv' := [some (vr 277), some (vi (σ kR_at 0)), some (vi x_2), some (vi many_32), some (zv good_185), some (vl power_186), none, some (vi x_189), none]) dX12_number_309 (Nat.le_of_ble_eq_true rfl) rfl rfl ?_
              have J_190 : YY l E M_X12_number 3 0 0 (pS (some (zv r)) σ') 353 [some (vr 277), some (vi (σ kR_at 0)), some (vi x_2), some (vi many_32), some (zv good_185), some (vl power_186), none, some (vi x_189), none] [zv (decide ((¬ (w32 x_189) = (-1)) ∧ (((((fR_isLetter x_189) = true) ∨ ((fR_isDigit x_189) = true)) ∨ ((fR_isSign x_189) = true)) ∨ ((w32 x_189) = 46))))] σ_187 0 0 := by
                obtain ⟨x_191, x_191_e, H⟩ := lt_e H
                refine z_st (congrArg (fun z => zv z :: []) x_191_e) ?_
                refine z_zstore (M := M_X12_number) (lv' := [some (vr 277), some (vi (σ kR_at 0)), some (vi x_2), some (vi many_32), some (zv good_185), some (vl power_186), none, some (vi x_189), some (zv x_191)]) dX12_number_353 (Nat.le_of_ble_eq_true rfl) rfl rfl ?_
                rcases if_e H with ⟨h_204, H⟩ | ⟨h_204, H⟩
                · have J_205 : YY l E M_X12_number 3 0 0 (pS (some (zv r)) σ') 365 [some (vr 277), some (vi (σ kR_at 0)), some (vi x_2), some (vi many_32), some (zv good_185), some (vl power_186), none, some (vi x_189), some (zv x_191)] [] σ_187 0 0 := by
                    refine z_aload_n (M := M_X12_number) dX12_number_365 rfl ?_
                    refine z_iconst (M := M_X12_number) dX12_number_366 ?_
                    refine z_iload_n (M := M_X12_number) dX12_number_367 rfl ?_
                    obtain ⟨⟨x_194, σ_193⟩, hc_192, H⟩ := bd_e H
                    refine z_callV (M := M_X12_number) (M' := M_X12_wrong) (as := [vi 4, vi (σ kR_at 0)]) (rest := []) rfl rfl dX12_number_368 m_X12_wrong t_2874 t_2876 s_166 (c_X12_wrong hl  hc_192) rfl rfl ly_277 rfl (Nat.le_of_ble_eq_true rfl) (Nat.le_of_ble_eq_true rfl) (Nat.le_of_ble_eq_true rfl) (Nat.le_of_ble_eq_true rfl) ?_
                    refine z_st (st' := [zv x_194]) rfl ?_
                    cases H
                    exact z_zret (M := M_X12_number) dX12_number_371 rfl (Nat.le_of_ble_eq_true rfl) (Nat.le_of_ble_eq_true rfl) ⟨rfl, rfl⟩
                  refine z_zload (M := M_X12_number) dX12_number_355 rfl ?_
                  by_cases h_207 : good_185 = true
                  · refine z_zeq_f (M := M_X12_number) (tgt := 365) dX12_number_357 (by decide) h_207 ?_
                    refine z_zload (M := M_X12_number) dX12_number_360 rfl ?_
                    by_cases h_208 : x_191 = true
                    · refine z_zeq_f (M := M_X12_number) (tgt := 372) dX12_number_362 (by decide) h_208 ?_
                      exact J_205
                    · refine z_zeq_t (M := M_X12_number) (tgt := 372) dX12_number_362 (by decide) h_208 ?_
                      exact absurd h_204 (fun q => q.elim (not_not_intro h_207) h_208)
                  · refine z_zeq_t (M := M_X12_number) (tgt := 365) dX12_number_357 (by decide) h_207 ?_
                    exact J_205
                · have J_206 : YY l E M_X12_number 3 0 0 (pS (some (zv r)) σ') 372 [some (vr 277), some (vi (σ kR_at 0)), some (vi x_2), some (vi many_32), some (zv good_185), some (vl power_186), none, some (vi x_189), some (zv x_191)] [] σ_187 0 0 := by
                    refine z_aload_n (M := M_X12_number) dX12_number_372 rfl ?_
                    refine z_aload_n (M := M_X12_number) dX12_number_373 rfl ?_
                    refine z_getI (M := M_X12_number) (ci := 15) (C := RX12) (T := TX12) (Nf := 135) (ty := tyX12) cl15 dX12_number_374 ly_277 24 (by decide) t_2415 rfl rfl ?_
                    refine z_i2l (M := M_X12_number) dX12_number_377 ?_
                    refine z_lload (M := M_X12_number) dX12_number_378 rfl ?_
                    refine z_ladd (M := M_X12_number) dX12_number_380 ?_
                    refine z_aload_n (M := M_X12_number) dX12_number_381 rfl ?_
                    refine z_getI (M := M_X12_number) (ci := 15) (C := RX12) (T := TX12) (Nf := 135) (ty := tyX12) cl15 dX12_number_382 ly_277 1 (by decide) t_2392 rfl rfl ?_
                    refine z_i2l (M := M_X12_number) dX12_number_385 ?_
                    refine z_ladd (M := M_X12_number) dX12_number_386 ?_
                    obtain ⟨σ_196, hc_195, H⟩ := bd_e H
                    refine z_callV (M := M_X12_number) (M' := M_X12_round) (as := [vl (((w32 (σ_187 kR_numberWhole 0)) + power_186) + (w32 (σ_187 kR_digits 0)))]) (rest := []) rfl rfl dX12_number_387 m_X12_round t_2932 t_2934 s_177 (c_X12_round hl  hc_195) rfl rfl ly_277 rfl (Nat.le_of_ble_eq_true rfl) (Nat.le_of_ble_eq_true rfl) (Nat.le_of_ble_eq_true rfl) (Nat.le_of_ble_eq_true rfl) ?_
                    refine z_st (st' := []) rfl ?_
                    refine z_aload_n (M := M_X12_number) dX12_number_390 rfl ?_
                    refine z_getL (M := M_X12_number) (ci := 15) (C := RX12) (T := TX12) (Nf := 135) (ty := tyX12) cl15 dX12_number_391 ly_277 25 (by decide) t_2416 rfl rfl ?_
                    refine z_ldc2 (M := M_X12_number) (n := 1000000000) dX12_number_394 t_2937 (by decide +kernel) ?_
                    refine z_lcmp (M := M_X12_number) dX12_number_397 ?_
                    rcases if_e H with ⟨h_197, H⟩ | ⟨h_197, H⟩
                    · refine z_lif_le_f (M := M_X12_number) (tgt := 408) dX12_number_398 (by decide) rfl (by decide +kernel) h_197 ?_
                      refine z_aload_n (M := M_X12_number) dX12_number_401 rfl ?_
                      refine z_iconst (M := M_X12_number) dX12_number_402 ?_
                      refine z_iload_n (M := M_X12_number) dX12_number_403 rfl ?_
                      obtain ⟨⟨x_200, σ_199⟩, hc_198, H⟩ := bd_e H
                      refine z_callV (M := M_X12_number) (M' := M_X12_wrong) (as := [vi 5, vi (σ kR_at 0)]) (rest := []) rfl rfl dX12_number_404 m_X12_wrong t_2874 t_2876 s_166 (c_X12_wrong hl  hc_198) rfl rfl ly_277 rfl (Nat.le_of_ble_eq_true rfl) (Nat.le_of_ble_eq_true rfl) (Nat.le_of_ble_eq_true rfl) (Nat.le_of_ble_eq_true rfl) ?_
                      refine z_st (st' := [zv x_200]) rfl ?_
                      cases H
                      exact z_zret (M := M_X12_number) dX12_number_407 rfl (Nat.le_of_ble_eq_true rfl) (Nat.le_of_ble_eq_true rfl) ⟨rfl, rfl⟩
                    · refine z_lif_le_t (M := M_X12_number) (tgt := 408) dX12_number_398 (by decide) rfl (by decide +kernel) (Int.not_lt.mp h_197) ?_
                      refine z_aload_n (M := M_X12_number) dX12_number_408 rfl ?_
                      have J_201 : YY l E M_X12_number 3 0 0 (pS (some (zv r)) σ') 427 [some (vr 277), some (vi (σ kR_at 0)), some (vi x_2), some (vi many_32), some (zv good_185), some (vl power_186), none, some (vi x_189), some (zv x_191)] [vl (if (w32 x_2) = 45 then (-(σ_196 kR_value 0)) else (σ_196 kR_value 0)), vr 277] σ_196 0 0 := by
                        obtain ⟨σ_202, σ_202_e, H⟩ := wf_e H
                        refine z_putL (M := M_X12_number) (ci := 15) (C := RX12) (T := TX12) (Nf := 135) (ty := tyX12) cl15 dX12_number_427 ly_277 25 (by decide) t_2416 rfl rfl rfl rfl σ_202_e ?_
                        refine z_zconst (M := M_X12_number) (b := true) dX12_number_430 rfl ?_
                        cases H
                        exact z_zret (M := M_X12_number) dX12_number_431 rfl (Nat.le_of_ble_eq_true rfl) (Nat.le_of_ble_eq_true rfl) ⟨rfl, rfl⟩
                      refine z_iload_n (M := M_X12_number) dX12_number_409 rfl ?_
                      refine z_bipush (M := M_X12_number) dX12_number_410 (by decide +kernel) ?_
                      by_cases h_203 : (w32 x_2) = 45
                      · refine z_icmp_ne_f (M := M_X12_number) (tgt := 423) dX12_number_412 (by decide) rfl (by decide +kernel) h_203 ?_
                        refine z_aload_n (M := M_X12_number) dX12_number_415 rfl ?_
                        refine z_getL (M := M_X12_number) (ci := 15) (C := RX12) (T := TX12) (Nf := 135) (ty := tyX12) cl15 dX12_number_416 ly_277 25 (by decide) t_2416 rfl rfl ?_
                        refine z_lneg (M := M_X12_number) dX12_number_419 ?_
                        refine z_goto (M := M_X12_number) (tgt := 427) dX12_number_420 (by decide) ?_
                        exact z_st (by rw [if_pos (c := (w32 x_2) = 45) h_203]) J_201
                      · refine z_icmp_ne_t (M := M_X12_number) (tgt := 423) dX12_number_412 (by decide) rfl (by decide +kernel) h_203 ?_
                        refine z_aload_n (M := M_X12_number) dX12_number_423 rfl ?_
                        refine z_getL (M := M_X12_number) (ci := 15) (C := RX12) (T := TX12) (Nf := 135) (ty := tyX12) cl15 dX12_number_424 ly_277 25 (by decide) t_2416 rfl rfl ?_
                        exact z_st (by rw [if_neg (c := (w32 x_2) = 45) h_203]) J_201
                  refine z_zload (M := M_X12_number) dX12_number_355 rfl ?_
                  by_cases h_209 : good_185 = true
                  · refine z_zeq_f (M := M_X12_number) (tgt := 365) dX12_number_357 (by decide) h_209 ?_
                    refine z_zload (M := M_X12_number) dX12_number_360 rfl ?_
                    by_cases h_210 : x_191 = true
                    · refine z_zeq_f (M := M_X12_number) (tgt := 372) dX12_number_362 (by decide) h_210 ?_
                      exact absurd (Or.inr h_210) h_204
                    · refine z_zeq_t (M := M_X12_number) (tgt := 372) dX12_number_362 (by decide) h_210 ?_
                      exact J_206
                  · refine z_zeq_t (M := M_X12_number) (tgt := 365) dX12_number_357 (by decide) h_209 ?_
                    exact absurd (Or.inl h_209) h_204
              refine z_iload (M := M_X12_number) dX12_number_311 rfl ?_
              refine z_iconst (M := M_X12_number) dX12_number_313 ?_
              by_cases h_211 : ¬ (w32 x_189) = (-1)
              · refine z_icmp_eq_f (M := M_X12_number) (tgt := 352) dX12_number_314 (by decide) rfl (by decide +kernel) h_211 ?_
                refine z_iload (M := M_X12_number) dX12_number_317 rfl ?_
                refine z_callS (M := M_X12_number) (M' := M_X12_isLetter) (as := [vi x_189]) (rest := []) rfl rfl dX12_number_319 m_X12_isLetter t_2867 t_2868 (c_X12_isLetter hl  rfl) rfl rfl (Nat.le_of_ble_eq_true rfl) (Nat.le_of_ble_eq_true rfl) (Nat.le_of_ble_eq_true rfl) (Nat.le_of_ble_eq_true rfl) ?_
                refine z_st (st' := [zv (fR_isLetter x_189)]) rfl ?_
                by_cases h_212 : (fR_isLetter x_189) = true
                · refine z_zne_t (M := M_X12_number) (tgt := 348) dX12_number_322 (by decide) h_212 ?_
                  refine z_iconst (M := M_X12_number) dX12_number_348 ?_
                  refine z_goto (M := M_X12_number) (tgt := 353) dX12_number_349 (by decide) ?_
                  exact z_st (by rw [zv_t (p := (¬ (w32 x_189) = (-1)) ∧ (((((fR_isLetter x_189) = true) ∨ ((fR_isDigit x_189) = true)) ∨ ((fR_isSign x_189) = true)) ∨ ((w32 x_189) = 46))) ⟨h_211, (Or.inl (Or.inl (Or.inl h_212)))⟩]) J_190
                · refine z_zne_f (M := M_X12_number) (tgt := 348) dX12_number_322 (by decide) h_212 ?_
                  refine z_iload (M := M_X12_number) dX12_number_325 rfl ?_
                  refine z_callS (M := M_X12_number) (M' := M_X12_isDigit) (as := [vi x_189]) (rest := []) rfl rfl dX12_number_327 m_X12_isDigit t_2878 t_2879 (c_X12_isDigit hl  rfl) rfl rfl (Nat.le_of_ble_eq_true rfl) (Nat.le_of_ble_eq_true rfl) (Nat.le_of_ble_eq_true rfl) (Nat.le_of_ble_eq_true rfl) ?_
                  refine z_st (st' := [zv (fR_isDigit x_189)]) rfl ?_
                  by_cases h_213 : (fR_isDigit x_189) = true
                  · refine z_zne_t (M := M_X12_number) (tgt := 348) dX12_number_330 (by decide) h_213 ?_
                    refine z_iconst (M := M_X12_number) dX12_number_348 ?_
                    refine z_goto (M := M_X12_number) (tgt := 353) dX12_number_349 (by decide) ?_
                    exact z_st (by rw [zv_t (p := (¬ (w32 x_189) = (-1)) ∧ (((((fR_isLetter x_189) = true) ∨ ((fR_isDigit x_189) = true)) ∨ ((fR_isSign x_189) = true)) ∨ ((w32 x_189) = 46))) ⟨h_211, (Or.inl (Or.inl (Or.inr h_213)))⟩]) J_190
                  · refine z_zne_f (M := M_X12_number) (tgt := 348) dX12_number_330 (by decide) h_213 ?_
                    refine z_iload (M := M_X12_number) dX12_number_333 rfl ?_
                    refine z_callS (M := M_X12_number) (M' := M_X12_isSign) (as := [vi x_189]) (rest := []) rfl rfl dX12_number_335 m_X12_isSign t_2881 t_2882 (c_X12_isSign hl  rfl) rfl rfl (Nat.le_of_ble_eq_true rfl) (Nat.le_of_ble_eq_true rfl) (Nat.le_of_ble_eq_true rfl) (Nat.le_of_ble_eq_true rfl) ?_
                    refine z_st (st' := [zv (fR_isSign x_189)]) rfl ?_
                    by_cases h_214 : (fR_isSign x_189) = true
                    · refine z_zne_t (M := M_X12_number) (tgt := 348) dX12_number_338 (by decide) h_214 ?_
                      refine z_iconst (M := M_X12_number) dX12_number_348 ?_
                      refine z_goto (M := M_X12_number) (tgt := 353) dX12_number_349 (by decide) ?_
                      exact z_st (by rw [zv_t (p := (¬ (w32 x_189) = (-1)) ∧ (((((fR_isLetter x_189) = true) ∨ ((fR_isDigit x_189) = true)) ∨ ((fR_isSign x_189) = true)) ∨ ((w32 x_189) = 46))) ⟨h_211, (Or.inl (Or.inr h_214))⟩]) J_190
                    · refine z_zne_f (M := M_X12_number) (tgt := 348) dX12_number_338 (by decide) h_214 ?_
                      refine z_iload (M := M_X12_number) dX12_number_341 rfl ?_
                      refine z_bipush (M := M_X12_number) dX12_number_343 (by decide +kernel) ?_
                      by_cases h_215 : (w32 x_189) = 46
                      · refine z_icmp_ne_f (M := M_X12_number) (tgt := 352) dX12_number_345 (by decide) rfl (by decide +kernel) h_215 ?_
                        refine z_iconst (M := M_X12_number) dX12_number_348 ?_
                        refine z_goto (M := M_X12_number) (tgt := 353) dX12_number_349 (by decide) ?_
                        exact z_st (by rw [zv_t (p := (¬ (w32 x_189) = (-1)) ∧ (((((fR_isLetter x_189) = true) ∨ ((fR_isDigit x_189) = true)) ∨ ((fR_isSign x_189) = true)) ∨ ((w32 x_189) = 46))) ⟨h_211, (Or.inr h_215)⟩]) J_190
                      · refine z_icmp_ne_t (M := M_X12_number) (tgt := 352) dX12_number_345 (by decide) rfl (by decide +kernel) h_215 ?_
                        refine z_iconst (M := M_X12_number) dX12_number_352 ?_
                        exact z_st (by rw [zv_f (p := (¬ (w32 x_189) = (-1)) ∧ (((((fR_isLetter x_189) = true) ∨ ((fR_isDigit x_189) = true)) ∨ ((fR_isSign x_189) = true)) ∨ ((w32 x_189) = 46))) (fun q => (fun q => q.elim (fun q => q.elim (fun q => q.elim h_212 h_213) h_214) h_215) q.2)]) J_190
              · refine z_icmp_eq_t (M := M_X12_number) (tgt := 352) dX12_number_314 (by decide) rfl (by decide +kernel) (Decidable.not_not.mp h_211) ?_
                refine z_iconst (M := M_X12_number) dX12_number_352 ?_
                exact z_st (by rw [zv_f (p := (¬ (w32 x_189) = (-1)) ∧ (((((fR_isLetter x_189) = true) ∨ ((fR_isDigit x_189) = true)) ∨ ((fR_isSign x_189) = true)) ∨ ((w32 x_189) = 46))) (fun q => h_211 q.1)]) J_190
            have H := he_36
            obtain ⟨v_180, he_181, hk_182⟩ := bd_e H
            have J_183 : v_180 = true → YY l E M_X12_number 3 0 0 (pS (some (zv r)) σ') 162 [some (vr 277), some (vi (σ kR_at 0)), some (vi x_2), some (vi many_32), some (zv (decide (0 < (w32 many_32)))), some (vl 0), none, none, none] [] σ_34 0 0 := by
              intro e
              have H := hk_182
              rw [e] at H
              rcases if_e H with ⟨_, H⟩ | ⟨q, H⟩
              · refine z_aload_n (M := M_X12_number) dX12_number_162 rfl ?_
                refine z_dup (M := M_X12_number) dX12_number_163 rfl ?_
                refine z_getI (M := M_X12_number) (ci := 15) (C := RX12) (T := TX12) (Nf := 135) (ty := tyX12) cl15 dX12_number_164 ly_277 17 (by decide) t_2408 rfl rfl ?_
                refine z_iconst (M := M_X12_number) dX12_number_167 ?_
                refine z_iadd (M := M_X12_number) dX12_number_168 ?_
                obtain ⟨σ_119, σ_119_e, H⟩ := wf_e H
                refine z_putI (M := M_X12_number) (ci := 15) (C := RX12) (T := TX12) (Nf := 135) (ty := tyX12) cl15 dX12_number_169 ly_277 17 (by decide) t_2408 rfl rfl rfl rfl σ_119_e ?_
                obtain ⟨v_175, he_176, hk_177⟩ := bd_e H
                have J_178 : ∀ x_125, v_175 = x_125 → YY l E M_X12_number 3 0 0 (pS (some (zv r)) σ') 186 [some (vr 277), some (vi (σ kR_at 0)), some (vi x_2), some (vi many_32), some (zv (decide (0 < (w32 many_32)))), some (vl 0), none, none, none] [zv x_125] σ_119 0 0 := by
                  intro x_125 e
                  have H := hk_177
                  rw [e] at H
                  refine z_zstore (M := M_X12_number) (lv' := [some (vr 277), some (vi (σ kR_at 0)), some (vi x_2), some (vi many_32), some (zv (decide (0 < (w32 many_32)))), some (vl 0), none, some (zv x_125), none]) dX12_number_186 (Nat.le_of_ble_eq_true rfl) rfl rfl ?_
                  obtain ⟨v_129, he_126, hk_127⟩ := bd_e H
                  have J_174 : ∀ σ_136, v_129 = σ_136 → YY l E M_X12_number 3 0 0 (pS (some (zv r)) σ') 208 [some (vr 277), some (vi (σ kR_at 0)), some (vi x_2), some (vi many_32), some (zv (decide (0 < (w32 many_32)))), some (vl 0), none, some (zv x_125), none] [] σ_136 0 0 := by
                    intro σ_136 e
                    have H := hk_127
                    rw [e] at H
                    refine z_aload_n (M := M_X12_number) dX12_number_208 rfl ?_
                    refine z_getI (M := M_X12_number) (ci := 15) (C := RX12) (T := TX12) (Nf := 135) (ty := tyX12) cl15 dX12_number_209 ly_277 17 (by decide) t_2408 rfl rfl ?_
                    refine z_istore (M := M_X12_number) (lv' := [some (vr 277), some (vi (σ kR_at 0)), some (vi x_2), some (vi many_32), some (zv (decide (0 < (w32 many_32)))), some (vl 0), none, some (zv x_125), some (vi (σ_136 kR_at 0))]) dX12_number_212 (Nat.le_of_ble_eq_true rfl) rfl rfl ?_
                    obtain ⟨rl_142, hw_139, hk_140⟩ := bd_e H
                    have J_173 : ∀ power_164 σ_165, rl_142 = (power_164, σ_165) → YY l E M_X12_number 3 0 0 (pS (some (zv r)) σ') 269 [some (vr 277), some (vi (σ kR_at 0)), some (vi x_2), some (vi many_32), some (zv (decide (0 < (w32 many_32)))), some (vl power_164), none, some (zv x_125), some (vi (σ_136 kR_at 0))] [] σ_165 0 0 := by
                      intro power_164 σ_165 e
                      have H := hk_140
                      rw [e] at H
                      have J_166 : YY l E M_X12_number 3 0 0 (pS (some (zv r)) σ') 288 [some (vr 277), some (vi (σ kR_at 0)), some (vi x_2), some (vi many_32), some (zv (decide (0 < (w32 many_32)))), some (vl power_164), none, some (zv x_125), some (vi (σ_136 kR_at 0))] [zv (decide (((decide (0 < (w32 many_32))) = true) ∧ ((w32 (σ_136 kR_at 0)) < (w32 (σ_165 kR_at 0)))))] σ_165 0 0 := by
                        obtain ⟨x_167, x_167_e, H⟩ := lt_e H
                        refine z_st (congrArg (fun z => zv z :: []) x_167_e) ?_
                        refine z_zstore (M := M_X12_number) (lv' := [some (vr 277), some (vi (σ kR_at 0)), some (vi x_2), some (vi many_32), some (zv x_167), some (vl power_164), none, some (zv x_125), some (vi (σ_136 kR_at 0))]) dX12_number_288 (Nat.le_of_ble_eq_true rfl) rfl rfl ?_
                        have J_168 : YY l E M_X12_number 3 0 0 (pS (some (zv r)) σ') 303 [some (vr 277), some (vi (σ kR_at 0)), some (vi x_2), some (vi many_32), some (zv x_167), some (vl power_164), none, some (zv x_125), some (vi (σ_136 kR_at 0))] [vl (if x_125 = true then (-power_164) else power_164)] σ_165 0 0 := by
                          refine z_lstore (M := M_X12_number) (lv' := [some (vr 277), some (vi (σ kR_at 0)), some (vi x_2), some (vi many_32), some (zv x_167), some (vl (if x_125 = true then (-power_164) else power_164)), none, some (zv x_125), some (vi (σ_136 kR_at 0))]) dX12_number_303 (Nat.le_of_ble_eq_true rfl) rfl rfl ?_
                          refine z_le (lv' := [some (vr 277), some (vi (σ kR_at 0)), some (vi x_2), some (vi many_32), some (zv x_167), some (vl (if x_125 = true then (-power_164) else power_164)), none, none, none]) ⟨Or.inr rfl, Or.inr rfl, Or.inr rfl, Or.inr rfl, Or.inr rfl, Or.inr rfl, Or.inl rfl, Or.inl rfl, Or.inl rfl, trivial⟩ ?_
                          exact J_216 _ _ _ (Option.some.inj H).symm
                        refine z_zload (M := M_X12_number) dX12_number_290 rfl ?_
                        by_cases h_170 : x_125 = true
                        · refine z_zeq_f (M := M_X12_number) (tgt := 301) dX12_number_292 (by decide) h_170 ?_
                          refine z_lload (M := M_X12_number) dX12_number_295 rfl ?_
                          refine z_lneg (M := M_X12_number) dX12_number_297 ?_
                          refine z_goto (M := M_X12_number) (tgt := 303) dX12_number_298 (by decide) ?_
                          exact z_st (by rw [if_pos (c := x_125 = true) h_170]) J_168
                        · refine z_zeq_t (M := M_X12_number) (tgt := 301) dX12_number_292 (by decide) h_170 ?_
                          refine z_lload (M := M_X12_number) dX12_number_301 rfl ?_
                          exact z_st (by rw [if_neg (c := x_125 = true) h_170]) J_168
                      refine z_zload (M := M_X12_number) dX12_number_269 rfl ?_
                      by_cases h_171 : (decide (0 < (w32 many_32))) = true
                      · refine z_zeq_f (M := M_X12_number) (tgt := 287) dX12_number_271 (by decide) h_171 ?_
                        refine z_aload_n (M := M_X12_number) dX12_number_274 rfl ?_
                        refine z_getI (M := M_X12_number) (ci := 15) (C := RX12) (T := TX12) (Nf := 135) (ty := tyX12) cl15 dX12_number_275 ly_277 17 (by decide) t_2408 rfl rfl ?_
                        refine z_iload (M := M_X12_number) dX12_number_278 rfl ?_
                        by_cases h_172 : (w32 (σ_136 kR_at 0)) < (w32 (σ_165 kR_at 0))
                        · refine z_icmp_le_f (M := M_X12_number) (tgt := 287) dX12_number_280 (by decide) rfl rfl h_172 ?_
                          refine z_iconst (M := M_X12_number) dX12_number_283 ?_
                          refine z_goto (M := M_X12_number) (tgt := 288) dX12_number_284 (by decide) ?_
                          exact z_st (by rw [zv_t (p := ((decide (0 < (w32 many_32))) = true) ∧ ((w32 (σ_136 kR_at 0)) < (w32 (σ_165 kR_at 0)))) ⟨h_171, h_172⟩]) J_166
                        · refine z_icmp_le_t (M := M_X12_number) (tgt := 287) dX12_number_280 (by decide) rfl rfl (Int.not_lt.mp h_172) ?_
                          refine z_iconst (M := M_X12_number) dX12_number_287 ?_
                          exact z_st (by rw [zv_f (p := ((decide (0 < (w32 many_32))) = true) ∧ ((w32 (σ_136 kR_at 0)) < (w32 (σ_165 kR_at 0)))) (fun q => h_172 q.2)]) J_166
                      · refine z_zeq_t (M := M_X12_number) (tgt := 287) dX12_number_271 (by decide) h_171 ?_
                        refine z_iconst (M := M_X12_number) dX12_number_287 ?_
                        exact z_st (by rw [zv_f (p := ((decide (0 < (w32 many_32))) = true) ∧ ((w32 (σ_136 kR_at 0)) < (w32 (σ_165 kR_at 0)))) (fun q => h_171 q.1)]) J_166
                    refine whl_go hw_139 (fun (power_137, σ_138) => YY l E M_X12_number 3 0 0 (pS (some (zv r)) σ') 214 [some (vr 277), some (vi (σ kR_at 0)), some (vi x_2), some (vi many_32), some (zv (decide (0 < (w32 many_32)))), some (vl power_137), none, some (zv x_125), some (vi (σ_136 kR_at 0))] [] σ_138 0 0) ?_
                    rintro ⟨power_137, σ_138⟩ o_143 H K_144 K_145
                    refine z_aload_n (M := M_X12_number) dX12_number_214 rfl ?_
                    obtain ⟨x_147, hc_146, H⟩ := bd_e H
                    refine z_callV (M := M_X12_number) (M' := M_X12_here) (as := []) (rest := []) rfl rfl dX12_number_215 m_X12_here t_2860 t_2862 s_164 (c_X12_here hl  hc_146) rfl rfl ly_277 rfl (Nat.le_of_ble_eq_true rfl) (Nat.le_of_ble_eq_true rfl) (Nat.le_of_ble_eq_true rfl) (Nat.le_of_ble_eq_true rfl) ?_
                    refine z_st (st' := [vi x_147]) rfl ?_
                    refine z_callS (M := M_X12_number) (M' := M_X12_isDigit) (as := [vi x_147]) (rest := []) rfl rfl dX12_number_218 m_X12_isDigit t_2878 t_2879 (c_X12_isDigit hl  rfl) rfl rfl (Nat.le_of_ble_eq_true rfl) (Nat.le_of_ble_eq_true rfl) (Nat.le_of_ble_eq_true rfl) (Nat.le_of_ble_eq_true rfl) ?_
                    refine z_st (st' := [zv (fR_isDigit x_147)]) rfl ?_
                    rcases if_e H with ⟨h_148, H⟩ | ⟨h_148, H⟩
                    · refine z_zeq_f (M := M_X12_number) (tgt := 269) dX12_number_221 (by decide) h_148 ?_
                      obtain ⟨v_159, he_160, hk_161⟩ := bd_e H
                      have J_162 : ∀ x_156, v_159 = x_156 → YY l E M_X12_number 3 0 0 (pS (some (zv r)) σ') 254 [some (vr 277), some (vi (σ kR_at 0)), some (vi x_2), some (vi many_32), some (zv (decide (0 < (w32 many_32)))), some (vl power_137), none, some (zv x_125), some (vi (σ_136 kR_at 0))] [vl x_156] σ_138 0 0 := by
                        intro x_156 e
                        have H := hk_161
                        rw [e] at H
                        refine z_lstore (M := M_X12_number) (lv' := [some (vr 277), some (vi (σ kR_at 0)), some (vi x_2), some (vi many_32), some (zv (decide (0 < (w32 many_32)))), some (vl x_156), none, some (zv x_125), some (vi (σ_136 kR_at 0))]) dX12_number_254 (Nat.le_of_ble_eq_true rfl) rfl rfl ?_
                        refine z_aload_n (M := M_X12_number) dX12_number_256 rfl ?_
                        refine z_dup (M := M_X12_number) dX12_number_257 rfl ?_
                        refine z_getI (M := M_X12_number) (ci := 15) (C := RX12) (T := TX12) (Nf := 135) (ty := tyX12) cl15 dX12_number_258 ly_277 17 (by decide) t_2408 rfl rfl ?_
                        refine z_iconst (M := M_X12_number) dX12_number_261 ?_
                        refine z_iadd (M := M_X12_number) dX12_number_262 ?_
                        obtain ⟨σ_157, σ_157_e, H⟩ := wf_e H
                        refine z_putI (M := M_X12_number) (ci := 15) (C := RX12) (T := TX12) (Nf := 135) (ty := tyX12) cl15 dX12_number_263 ly_277 17 (by decide) t_2408 rfl rfl rfl rfl σ_157_e ?_
                        refine z_goto (M := M_X12_number) (tgt := 214) dX12_number_266 (by decide) ?_
                        exact K_144 _ (Option.some.inj H).symm
                      have H := he_160
                      refine z_lload (M := M_X12_number) dX12_number_224 rfl ?_
                      refine z_ldc2 (M := M_X12_number) (n := 1000000) dX12_number_226 t_2930 (by decide +kernel) ?_
                      refine z_lcmp (M := M_X12_number) dX12_number_229 ?_
                      rcases if_e H with ⟨h_151, H⟩ | ⟨h_151, H⟩
                      · refine z_lif_ge_f (M := M_X12_number) (tgt := 252) dX12_number_230 (by decide) rfl (by decide +kernel) h_151 ?_
                        refine z_ldc2 (M := M_X12_number) (n := 10) dX12_number_233 t_2390 (by decide +kernel) ?_
                        refine z_lload (M := M_X12_number) dX12_number_236 rfl ?_
                        refine z_lmul (M := M_X12_number) dX12_number_238 ?_
                        refine z_aload_n (M := M_X12_number) dX12_number_239 rfl ?_
                        obtain ⟨x_153, hc_152, H⟩ := bd_e H
                        refine z_callV (M := M_X12_number) (M' := M_X12_here) (as := []) (rest := [vl (10 * power_137)]) rfl rfl dX12_number_240 m_X12_here t_2860 t_2862 s_164 (c_X12_here hl  hc_152) rfl rfl ly_277 rfl (Nat.le_of_ble_eq_true rfl) (Nat.le_of_ble_eq_true rfl) (Nat.le_of_ble_eq_true rfl) (Nat.le_of_ble_eq_true rfl) ?_
                        refine z_st (st' := [vi x_153, vl (10 * power_137)]) rfl ?_
                        refine z_i2l (M := M_X12_number) dX12_number_243 ?_
                        refine z_ladd (M := M_X12_number) dX12_number_244 ?_
                        refine z_ldc2 (M := M_X12_number) (n := 48) dX12_number_245 t_2931 (by decide +kernel) ?_
                        refine z_lsub (M := M_X12_number) dX12_number_248 ?_
                        refine z_goto (M := M_X12_number) (tgt := 254) dX12_number_249 (by decide) ?_
                        exact J_162 _ (Option.some.inj H).symm
                      · refine z_lif_ge_t (M := M_X12_number) (tgt := 252) dX12_number_230 (by decide) rfl (by decide +kernel) (Int.not_lt.mp h_151) ?_
                        refine z_lload (M := M_X12_number) dX12_number_252 rfl ?_
                        exact J_162 _ (Option.some.inj H).symm
                    · refine z_zeq_t (M := M_X12_number) (tgt := 269) dX12_number_221 (by decide) h_148 ?_
                      exact J_173 _ _ (K_145 _ (Option.some.inj H).symm).symm
                  have H := he_126
                  refine z_aload_n (M := M_X12_number) dX12_number_188 rfl ?_
                  obtain ⟨x_131, hc_130, H⟩ := bd_e H
                  refine z_callV (M := M_X12_number) (M' := M_X12_here) (as := []) (rest := []) rfl rfl dX12_number_189 m_X12_here t_2860 t_2862 s_164 (c_X12_here hl  hc_130) rfl rfl ly_277 rfl (Nat.le_of_ble_eq_true rfl) (Nat.le_of_ble_eq_true rfl) (Nat.le_of_ble_eq_true rfl) (Nat.le_of_ble_eq_true rfl) ?_
                  refine z_st (st' := [vi x_131]) rfl ?_
                  refine z_callS (M := M_X12_number) (M' := M_X12_isSign) (as := [vi x_131]) (rest := []) rfl rfl dX12_number_192 m_X12_isSign t_2881 t_2882 (c_X12_isSign hl  rfl) rfl rfl (Nat.le_of_ble_eq_true rfl) (Nat.le_of_ble_eq_true rfl) (Nat.le_of_ble_eq_true rfl) (Nat.le_of_ble_eq_true rfl) ?_
                  refine z_st (st' := [zv (fR_isSign x_131)]) rfl ?_
                  rcases if_e H with ⟨h_132, H⟩ | ⟨h_132, H⟩
                  · refine z_zeq_f (M := M_X12_number) (tgt := 208) dX12_number_195 (by decide) h_132 ?_
                    refine z_aload_n (M := M_X12_number) dX12_number_198 rfl ?_
                    refine z_dup (M := M_X12_number) dX12_number_199 rfl ?_
                    refine z_getI (M := M_X12_number) (ci := 15) (C := RX12) (T := TX12) (Nf := 135) (ty := tyX12) cl15 dX12_number_200 ly_277 17 (by decide) t_2408 rfl rfl ?_
                    refine z_iconst (M := M_X12_number) dX12_number_203 ?_
                    refine z_iadd (M := M_X12_number) dX12_number_204 ?_
                    obtain ⟨σ_133, σ_133_e, H⟩ := wf_e H
                    refine z_putI (M := M_X12_number) (ci := 15) (C := RX12) (T := TX12) (Nf := 135) (ty := tyX12) cl15 dX12_number_205 ly_277 17 (by decide) t_2408 rfl rfl rfl rfl σ_133_e ?_
                    exact J_174 _ (Option.some.inj H).symm
                  · refine z_zeq_t (M := M_X12_number) (tgt := 208) dX12_number_195 (by decide) h_132 ?_
                    exact J_174 _ (Option.some.inj H).symm
                have H := he_176
                refine z_aload_n (M := M_X12_number) dX12_number_172 rfl ?_
                obtain ⟨x_121, hc_120, H⟩ := bd_e H
                refine z_callV (M := M_X12_number) (M' := M_X12_here) (as := []) (rest := []) rfl rfl dX12_number_173 m_X12_here t_2860 t_2862 s_164 (c_X12_here hl  hc_120) rfl rfl ly_277 rfl (Nat.le_of_ble_eq_true rfl) (Nat.le_of_ble_eq_true rfl) (Nat.le_of_ble_eq_true rfl) (Nat.le_of_ble_eq_true rfl) ?_
                refine z_st (st' := [vi x_121]) rfl ?_
                refine z_bipush (M := M_X12_number) dX12_number_176 (by decide +kernel) ?_
                rcases if_e H with ⟨h_122, H⟩ | ⟨h_122, H⟩
                · refine z_icmp_ne_f (M := M_X12_number) (tgt := 185) dX12_number_178 (by decide) rfl (by decide +kernel) h_122 ?_
                  refine z_zconst (M := M_X12_number) (b := true) dX12_number_181 rfl ?_
                  refine z_goto (M := M_X12_number) (tgt := 186) dX12_number_182 (by decide) ?_
                  exact J_178 _ (Option.some.inj H).symm
                · refine z_icmp_ne_t (M := M_X12_number) (tgt := 185) dX12_number_178 (by decide) rfl (by decide +kernel) h_122 ?_
                  refine z_zconst (M := M_X12_number) (b := false) dX12_number_185 rfl ?_
                  exact J_178 _ (Option.some.inj H).symm
              · exact absurd rfl q
            have J_184 : v_180 = false → YY l E M_X12_number 3 0 0 (pS (some (zv r)) σ') 305 [some (vr 277), some (vi (σ kR_at 0)), some (vi x_2), some (vi many_32), some (zv (decide (0 < (w32 many_32)))), some (vl 0), none, none, none] [] σ_34 0 0 := by
              intro e
              have H := hk_182
              rw [e] at H
              rcases if_e H with ⟨q, H⟩ | ⟨_, H⟩
              · exact nomatch q
              · exact J_216 _ _ _ (Option.some.inj H).symm
            have H := he_181
            refine z_aload_n (M := M_X12_number) dX12_number_144 rfl ?_
            obtain ⟨x_110, hc_109, H⟩ := bd_e H
            refine z_callV (M := M_X12_number) (M' := M_X12_here) (as := []) (rest := []) rfl rfl dX12_number_145 m_X12_here t_2860 t_2862 s_164 (c_X12_here hl  hc_109) rfl rfl ly_277 rfl (Nat.le_of_ble_eq_true rfl) (Nat.le_of_ble_eq_true rfl) (Nat.le_of_ble_eq_true rfl) (Nat.le_of_ble_eq_true rfl) ?_
            refine z_st (st' := [vi x_110]) rfl ?_
            refine z_bipush (M := M_X12_number) dX12_number_148 (by decide +kernel) ?_
            rcases if_e H with ⟨h_111, H⟩ | ⟨h_111, H⟩
            · refine z_icmp_eq_t (M := M_X12_number) (tgt := 162) dX12_number_150 (by decide) rfl (by decide +kernel) h_111 ?_
              exact J_183 (Option.some.inj H).symm
            · refine z_icmp_eq_f (M := M_X12_number) (tgt := 162) dX12_number_150 (by decide) rfl (by decide +kernel) h_111 ?_
              refine z_aload_n (M := M_X12_number) dX12_number_153 rfl ?_
              obtain ⟨x_114, hc_113, H⟩ := bd_e H
              refine z_callV (M := M_X12_number) (M' := M_X12_here) (as := []) (rest := []) rfl rfl dX12_number_154 m_X12_here t_2860 t_2862 s_164 (c_X12_here hl  hc_113) rfl rfl ly_277 rfl (Nat.le_of_ble_eq_true rfl) (Nat.le_of_ble_eq_true rfl) (Nat.le_of_ble_eq_true rfl) (Nat.le_of_ble_eq_true rfl) ?_
              refine z_st (st' := [vi x_114]) rfl ?_
              refine z_bipush (M := M_X12_number) dX12_number_157 (by decide +kernel) ?_
              rcases if_e H with ⟨h_115, H⟩ | ⟨h_115, H⟩
              · refine z_icmp_ne_f (M := M_X12_number) (tgt := 305) dX12_number_159 (by decide) rfl (by decide +kernel) h_115 ?_
                exact J_183 (Option.some.inj H).symm
              · refine z_icmp_ne_t (M := M_X12_number) (tgt := 305) dX12_number_159 (by decide) rfl (by decide +kernel) h_115 ?_
                exact J_184 (Option.some.inj H).symm
          refine z_iload_n (M := M_X12_number) dX12_number_130 rfl ?_
          by_cases h_217 : 0 < (w32 many_32)
          · refine z_if_le_f (M := M_X12_number) (tgt := 138) dX12_number_131 (by decide) rfl h_217 ?_
            refine z_iconst (M := M_X12_number) dX12_number_134 ?_
            refine z_goto (M := M_X12_number) (tgt := 139) dX12_number_135 (by decide) ?_
            exact z_st (by rw [zv_t (p := 0 < (w32 many_32)) h_217]) J_35
          · refine z_if_le_t (M := M_X12_number) (tgt := 138) dX12_number_131 (by decide) rfl (Int.not_lt.mp h_217) ?_
            refine z_iconst (M := M_X12_number) dX12_number_138 ?_
            exact z_st (by rw [zv_f (p := 0 < (w32 many_32)) h_217]) J_35
        have H := he_19
        refine z_aload_n (M := M_X12_number) dX12_number_83 rfl ?_
        obtain ⟨x_24, hc_23, H⟩ := bd_e H
        refine z_callV (M := M_X12_number) (M' := M_X12_here) (as := []) (rest := []) rfl rfl dX12_number_84 m_X12_here t_2860 t_2862 s_164 (c_X12_here hl  hc_23) rfl rfl ly_277 rfl (Nat.le_of_ble_eq_true rfl) (Nat.le_of_ble_eq_true rfl) (Nat.le_of_ble_eq_true rfl) (Nat.le_of_ble_eq_true rfl) ?_
        refine z_st (st' := [vi x_24]) rfl ?_
        refine z_bipush (M := M_X12_number) dX12_number_87 (by decide +kernel) ?_
        rcases if_e H with ⟨h_25, H⟩ | ⟨h_25, H⟩
        · refine z_icmp_ne_f (M := M_X12_number) (tgt := 122) dX12_number_89 (by decide) rfl (by decide +kernel) h_25 ?_
          refine z_aload_n (M := M_X12_number) dX12_number_92 rfl ?_
          refine z_dup (M := M_X12_number) dX12_number_93 rfl ?_
          refine z_getI (M := M_X12_number) (ci := 15) (C := RX12) (T := TX12) (Nf := 135) (ty := tyX12) cl15 dX12_number_94 ly_277 17 (by decide) t_2408 rfl rfl ?_
          refine z_iconst (M := M_X12_number) dX12_number_97 ?_
          refine z_iadd (M := M_X12_number) dX12_number_98 ?_
          obtain ⟨σ_26, σ_26_e, H⟩ := wf_e H
          refine z_putI (M := M_X12_number) (ci := 15) (C := RX12) (T := TX12) (Nf := 135) (ty := tyX12) cl15 dX12_number_99 ly_277 17 (by decide) t_2408 rfl rfl rfl rfl σ_26_e ?_
          refine z_aload_n (M := M_X12_number) dX12_number_102 rfl ?_
          refine z_getI (M := M_X12_number) (ci := 15) (C := RX12) (T := TX12) (Nf := 135) (ty := tyX12) cl15 dX12_number_103 ly_277 17 (by decide) t_2408 rfl rfl ?_
          refine z_istore (M := M_X12_number) (lv' := [some (vr 277), some (vi (σ kR_at 0)), some (vi x_2), some (vi (σ_18 kR_numberWhole 0)), some (vi (σ_26 kR_at 0)), none, none, none, none]) dX12_number_106 (Nat.le_of_ble_eq_true rfl) rfl rfl ?_
          refine z_aload_n (M := M_X12_number) dX12_number_108 rfl ?_
          obtain ⟨σ_28, hc_27, H⟩ := bd_e H
          refine z_callV (M := M_X12_number) (M' := M_X12_digitsOn) (as := []) (rest := []) rfl rfl dX12_number_109 m_X12_digitsOn t_2926 t_2928 s_176 (c_X12_digitsOn hl  hc_27) rfl rfl ly_277 rfl (Nat.le_of_ble_eq_true rfl) (Nat.le_of_ble_eq_true rfl) (Nat.le_of_ble_eq_true rfl) (Nat.le_of_ble_eq_true rfl) ?_
          refine z_st (st' := []) rfl ?_
          refine z_iload_n (M := M_X12_number) dX12_number_112 rfl ?_
          refine z_aload_n (M := M_X12_number) dX12_number_113 rfl ?_
          refine z_getI (M := M_X12_number) (ci := 15) (C := RX12) (T := TX12) (Nf := 135) (ty := tyX12) cl15 dX12_number_114 ly_277 17 (by decide) t_2408 rfl rfl ?_
          refine z_iload (M := M_X12_number) dX12_number_117 rfl ?_
          refine z_isub (M := M_X12_number) dX12_number_119 ?_
          refine z_iadd (M := M_X12_number) dX12_number_120 ?_
          obtain ⟨x_29, x_29_e, H⟩ := lt_e H
          refine z_st (congrArg (fun z => vi z :: []) x_29_e) ?_
          refine z_istore_n (M := M_X12_number) (lv' := [some (vr 277), some (vi (σ kR_at 0)), some (vi x_2), some (vi x_29), some (vi (σ_26 kR_at 0)), none, none, none, none]) dX12_number_121 (Nat.le_of_ble_eq_true rfl) rfl rfl ?_
          refine z_le (lv' := [some (vr 277), some (vi (σ kR_at 0)), some (vi x_2), some (vi x_29), none, none, none, none, none]) ⟨Or.inr rfl, Or.inr rfl, Or.inr rfl, Or.inr rfl, Or.inl rfl, Or.inl rfl, Or.inl rfl, Or.inl rfl, Or.inl rfl, trivial⟩ ?_
          exact J_218 _ _ (Option.some.inj H).symm
        · refine z_icmp_ne_t (M := M_X12_number) (tgt := 122) dX12_number_89 (by decide) rfl (by decide +kernel) h_25 ?_
          exact J_218 _ _ (Option.some.inj H).symm
      have H := he_6
      refine z_iload_n (M := M_X12_number) dX12_number_36 rfl ?_
      refine z_callS (M := M_X12_number) (M' := M_X12_isSign) (as := [vi x_2]) (rest := []) rfl rfl dX12_number_37 m_X12_isSign t_2881 t_2882 (c_X12_isSign hl  rfl) rfl rfl (Nat.le_of_ble_eq_true rfl) (Nat.le_of_ble_eq_true rfl) (Nat.le_of_ble_eq_true rfl) (Nat.le_of_ble_eq_true rfl) ?_
      refine z_st (st' := [zv (fR_isSign x_2)]) rfl ?_
      rcases if_e H with ⟨h_10, H⟩ | ⟨h_10, H⟩
      · refine z_zeq_f (M := M_X12_number) (tgt := 53) dX12_number_40 (by decide) h_10 ?_
        refine z_aload_n (M := M_X12_number) dX12_number_43 rfl ?_
        refine z_dup (M := M_X12_number) dX12_number_44 rfl ?_
        refine z_getI (M := M_X12_number) (ci := 15) (C := RX12) (T := TX12) (Nf := 135) (ty := tyX12) cl15 dX12_number_45 ly_277 17 (by decide) t_2408 rfl rfl ?_
        refine z_iconst (M := M_X12_number) dX12_number_48 ?_
        refine z_iadd (M := M_X12_number) dX12_number_49 ?_
        obtain ⟨σ_11, σ_11_e, H⟩ := wf_e H
        refine z_putI (M := M_X12_number) (ci := 15) (C := RX12) (T := TX12) (Nf := 135) (ty := tyX12) cl15 dX12_number_50 ly_277 17 (by decide) t_2408 rfl rfl rfl rfl σ_11_e ?_
        exact J_219 _ (Option.some.inj H).symm
      · refine z_zeq_t (M := M_X12_number) (tgt := 53) dX12_number_40 (by decide) h_10 ?_
        exact J_219 _ (Option.some.inj H).symm
    refine z_iload_n (M := M_X12_number) dX12_number_10 rfl ?_
    refine z_callS (M := M_X12_number) (M' := M_X12_isDigit) (as := [vi x_2]) (rest := []) rfl rfl dX12_number_11 m_X12_isDigit t_2878 t_2879 (c_X12_isDigit hl  rfl) rfl rfl (Nat.le_of_ble_eq_true rfl) (Nat.le_of_ble_eq_true rfl) (Nat.le_of_ble_eq_true rfl) (Nat.le_of_ble_eq_true rfl) ?_
    refine z_st (st' := [zv (fR_isDigit x_2)]) rfl ?_
    by_cases h_226 : (fR_isDigit x_2) = true
    · refine z_zne_t (M := M_X12_number) (tgt := 36) dX12_number_14 (by decide) h_226 ?_
      exact J_222
    · refine z_zne_f (M := M_X12_number) (tgt := 36) dX12_number_14 (by decide) h_226 ?_
      refine z_iload_n (M := M_X12_number) dX12_number_17 rfl ?_
      refine z_callS (M := M_X12_number) (M' := M_X12_isSign) (as := [vi x_2]) (rest := []) rfl rfl dX12_number_18 m_X12_isSign t_2881 t_2882 (c_X12_isSign hl  rfl) rfl rfl (Nat.le_of_ble_eq_true rfl) (Nat.le_of_ble_eq_true rfl) (Nat.le_of_ble_eq_true rfl) (Nat.le_of_ble_eq_true rfl) ?_
      refine z_st (st' := [zv (fR_isSign x_2)]) rfl ?_
      by_cases h_227 : (fR_isSign x_2) = true
      · refine z_zne_t (M := M_X12_number) (tgt := 36) dX12_number_21 (by decide) h_227 ?_
        exact J_222
      · refine z_zne_f (M := M_X12_number) (tgt := 36) dX12_number_21 (by decide) h_227 ?_
        refine z_iload_n (M := M_X12_number) dX12_number_24 rfl ?_
        refine z_bipush (M := M_X12_number) dX12_number_25 (by decide +kernel) ?_
        by_cases h_228 : ¬ (w32 x_2) = 46
        · refine z_icmp_eq_f (M := M_X12_number) (tgt := 36) dX12_number_27 (by decide) rfl (by decide +kernel) h_228 ?_
          exact absurd ⟨⟨h_226, h_227⟩, h_228⟩ h_220
        · refine z_icmp_eq_t (M := M_X12_number) (tgt := 36) dX12_number_27 (by decide) rfl (by decide +kernel) (Decidable.not_not.mp h_228) ?_
          exact J_222
theorem c_X12_coordinate (hl : l.stackTraces = false) {σ : SG} {r : Bool} {σ' : SG}  (H : fR_coordinate σ = some (r, σ')) : en_S l E M_X12_coordinate 4 0 0 [vr 277] σ (pS (some (zv r)) σ') := by
  unfold fR_coordinate at H
  refine z_mk (lv := [some (vr 277), none, none]) m_X12_coordinate rfl hl (Nat.le_of_ble_eq_true rfl) rfl ?_
  refine z_aload_n (M := M_X12_coordinate) dX12_coordinate_0 rfl ?_
  obtain ⟨σ_2, hc_1, H⟩ := bd_e H
  refine z_callV (M := M_X12_coordinate) (M' := M_X12_skip) (as := []) (rest := []) rfl rfl dX12_coordinate_1 m_X12_skip t_2856 t_2858 s_163 (c_X12_skip hl  hc_1) rfl rfl ly_277 rfl (Nat.le_of_ble_eq_true rfl) (Nat.le_of_ble_eq_true rfl) (Nat.le_of_ble_eq_true rfl) (Nat.le_of_ble_eq_true rfl) ?_
  refine z_st (st' := []) rfl ?_
  refine z_aload_n (M := M_X12_coordinate) dX12_coordinate_4 rfl ?_
  refine z_getR (M := M_X12_coordinate) (ci := 15) (C := RX12) (T := TX12) (Nf := 135) (ty := tyX12) cl15 dX12_coordinate_5 ly_277 11 (by decide) t_2402 rfl ?_
  refine z_bipush (M := M_X12_coordinate) dX12_coordinate_8 (by decide +kernel) ?_
  obtain ⟨x_3, x_3_e, hi_4, H⟩ := rd_e H
  refine z_iald (M := M_X12_coordinate) dX12_coordinate_10 ly_282 rfl (by decide +kernel) rfl hi_4 x_3_e ?_
  refine z_sipush (M := M_X12_coordinate) dX12_coordinate_11 (by decide +kernel) ?_
  rcases if_e H with ⟨h_5, H⟩ | ⟨h_5, H⟩
  · refine z_icmp_ne_f (M := M_X12_coordinate) (tgt := 28) dX12_coordinate_14 (by decide) rfl (by decide +kernel) h_5 ?_
    refine z_aload_n (M := M_X12_coordinate) dX12_coordinate_17 rfl ?_
    refine z_bipush (M := M_X12_coordinate) dX12_coordinate_18 (by decide +kernel) ?_
    refine z_aload_n (M := M_X12_coordinate) dX12_coordinate_20 rfl ?_
    refine z_getI (M := M_X12_coordinate) (ci := 15) (C := RX12) (T := TX12) (Nf := 135) (ty := tyX12) cl15 dX12_coordinate_21 ly_277 17 (by decide) t_2408 rfl rfl ?_
    obtain ⟨⟨x_8, σ_7⟩, hc_6, H⟩ := bd_e H
    refine z_callV (M := M_X12_coordinate) (M' := M_X12_wrong) (as := [vi 7, vi (σ_2 kR_at 0)]) (rest := []) rfl rfl dX12_coordinate_24 m_X12_wrong t_2874 t_2876 s_166 (c_X12_wrong hl  hc_6) rfl rfl ly_277 rfl (Nat.le_of_ble_eq_true rfl) (Nat.le_of_ble_eq_true rfl) (Nat.le_of_ble_eq_true rfl) (Nat.le_of_ble_eq_true rfl) ?_
    refine z_st (st' := [zv x_8]) rfl ?_
    cases H
    exact z_zret (M := M_X12_coordinate) dX12_coordinate_27 rfl (Nat.le_of_ble_eq_true rfl) (Nat.le_of_ble_eq_true rfl) ⟨rfl, rfl⟩
  · refine z_icmp_ne_t (M := M_X12_coordinate) (tgt := 28) dX12_coordinate_14 (by decide) rfl (by decide +kernel) h_5 ?_
    refine z_aload_n (M := M_X12_coordinate) dX12_coordinate_28 rfl ?_
    obtain ⟨⟨x_11, σ_10⟩, hc_9, H⟩ := bd_e H
    refine z_callV (M := M_X12_coordinate) (M' := M_X12_number) (as := []) (rest := []) rfl rfl dX12_coordinate_29 m_X12_number t_2922 t_2924 s_175 (c_X12_number hl  hc_9) rfl rfl ly_277 rfl (Nat.le_of_ble_eq_true rfl) (Nat.le_of_ble_eq_true rfl) (Nat.le_of_ble_eq_true rfl) (Nat.le_of_ble_eq_true rfl) ?_
    refine z_st (st' := [zv x_11]) rfl ?_
    rcases if_e H with ⟨h_12, H⟩ | ⟨h_12, H⟩
    · refine z_zne_t (M := M_X12_coordinate) (tgt := 37) dX12_coordinate_32 (by decide) h_12 ?_
      refine z_aload_n (M := M_X12_coordinate) dX12_coordinate_37 rfl ?_
      refine z_getL (M := M_X12_coordinate) (ci := 15) (C := RX12) (T := TX12) (Nf := 135) (ty := tyX12) cl15 dX12_coordinate_38 ly_277 25 (by decide) t_2416 rfl rfl ?_
      refine z_lstore_n (M := M_X12_coordinate) (lv' := [some (vr 277), some (vl (σ_10 kR_value 0)), none]) dX12_coordinate_41 (Nat.le_of_ble_eq_true rfl) rfl rfl ?_
      refine z_aload_n (M := M_X12_coordinate) dX12_coordinate_42 rfl ?_
      obtain ⟨x_14, hc_13, H⟩ := bd_e H
      refine z_callV (M := M_X12_coordinate) (M' := M_X12_here) (as := []) (rest := []) rfl rfl dX12_coordinate_43 m_X12_here t_2860 t_2862 s_164 (c_X12_here hl  hc_13) rfl rfl ly_277 rfl (Nat.le_of_ble_eq_true rfl) (Nat.le_of_ble_eq_true rfl) (Nat.le_of_ble_eq_true rfl) (Nat.le_of_ble_eq_true rfl) ?_
      refine z_st (st' := [vi x_14]) rfl ?_
      refine z_callS (M := M_X12_coordinate) (M' := M_X12_isBlank) (as := [vi x_14]) (rest := []) rfl rfl dX12_coordinate_46 m_X12_isBlank t_2864 t_2865 (c_X12_isBlank hl  rfl) rfl rfl (Nat.le_of_ble_eq_true rfl) (Nat.le_of_ble_eq_true rfl) (Nat.le_of_ble_eq_true rfl) (Nat.le_of_ble_eq_true rfl) ?_
      refine z_st (st' := [zv (fR_isBlank x_14)]) rfl ?_
      rcases if_e H with ⟨h_15, H⟩ | ⟨h_15, H⟩
      · refine z_zne_t (M := M_X12_coordinate) (tgt := 58) dX12_coordinate_49 (by decide) h_15 ?_
        refine z_aload_n (M := M_X12_coordinate) dX12_coordinate_58 rfl ?_
        obtain ⟨σ_17, hc_16, H⟩ := bd_e H
        refine z_callV (M := M_X12_coordinate) (M' := M_X12_skip) (as := []) (rest := []) rfl rfl dX12_coordinate_59 m_X12_skip t_2856 t_2858 s_163 (c_X12_skip hl  hc_16) rfl rfl ly_277 rfl (Nat.le_of_ble_eq_true rfl) (Nat.le_of_ble_eq_true rfl) (Nat.le_of_ble_eq_true rfl) (Nat.le_of_ble_eq_true rfl) ?_
        refine z_st (st' := []) rfl ?_
        refine z_aload_n (M := M_X12_coordinate) dX12_coordinate_62 rfl ?_
        obtain ⟨⟨x_20, σ_19⟩, hc_18, H⟩ := bd_e H
        refine z_callV (M := M_X12_coordinate) (M' := M_X12_number) (as := []) (rest := []) rfl rfl dX12_coordinate_63 m_X12_number t_2922 t_2924 s_175 (c_X12_number hl  hc_18) rfl rfl ly_277 rfl (Nat.le_of_ble_eq_true rfl) (Nat.le_of_ble_eq_true rfl) (Nat.le_of_ble_eq_true rfl) (Nat.le_of_ble_eq_true rfl) ?_
        refine z_st (st' := [zv x_20]) rfl ?_
        rcases if_e H with ⟨h_21, H⟩ | ⟨h_21, H⟩
        · refine z_zne_t (M := M_X12_coordinate) (tgt := 71) dX12_coordinate_66 (by decide) h_21 ?_
          refine z_aload_n (M := M_X12_coordinate) dX12_coordinate_71 rfl ?_
          refine z_lload_n (M := M_X12_coordinate) dX12_coordinate_72 rfl ?_
          refine z_aload_n (M := M_X12_coordinate) dX12_coordinate_73 rfl ?_
          refine z_getL (M := M_X12_coordinate) (ci := 15) (C := RX12) (T := TX12) (Nf := 135) (ty := tyX12) cl15 dX12_coordinate_74 ly_277 25 (by decide) t_2416 rfl rfl ?_
          obtain ⟨σ_23, hc_22, H⟩ := bd_e H
          refine z_callV (M := M_X12_coordinate) (M' := M_X12_dot) (as := [vl (σ_10 kR_value 0), vl (σ_19 kR_value 0)]) (rest := []) rfl rfl dX12_coordinate_77 m_X12_dot t_2938 t_2940 s_178 (c_X12_dot hl  hc_22) rfl rfl ly_277 rfl (Nat.le_of_ble_eq_true rfl) (Nat.le_of_ble_eq_true rfl) (Nat.le_of_ble_eq_true rfl) (Nat.le_of_ble_eq_true rfl) ?_
          refine z_st (st' := []) rfl ?_
          refine z_zconst (M := M_X12_coordinate) (b := true) dX12_coordinate_80 rfl ?_
          cases H
          exact z_zret (M := M_X12_coordinate) dX12_coordinate_81 rfl (Nat.le_of_ble_eq_true rfl) (Nat.le_of_ble_eq_true rfl) ⟨rfl, rfl⟩
        · refine z_zne_f (M := M_X12_coordinate) (tgt := 71) dX12_coordinate_66 (by decide) h_21 ?_
          refine z_zconst (M := M_X12_coordinate) (b := false) dX12_coordinate_69 rfl ?_
          cases H
          exact z_zret (M := M_X12_coordinate) dX12_coordinate_70 rfl (Nat.le_of_ble_eq_true rfl) (Nat.le_of_ble_eq_true rfl) ⟨rfl, rfl⟩
      · refine z_zne_f (M := M_X12_coordinate) (tgt := 58) dX12_coordinate_49 (by decide) h_15 ?_
        refine z_aload_n (M := M_X12_coordinate) dX12_coordinate_52 rfl ?_
        refine z_zconst (M := M_X12_coordinate) (b := false) dX12_coordinate_53 rfl ?_
        obtain ⟨⟨x_26, σ_25⟩, hc_24, H⟩ := bd_e H
        refine z_callV (M := M_X12_coordinate) (M' := M_X12_strange) (as := [zv false]) (rest := []) rfl rfl dX12_coordinate_54 m_X12_strange t_2870 t_2872 s_165 (c_X12_strange hl  hc_24) rfl rfl ly_277 rfl (Nat.le_of_ble_eq_true rfl) (Nat.le_of_ble_eq_true rfl) (Nat.le_of_ble_eq_true rfl) (Nat.le_of_ble_eq_true rfl) ?_
        refine z_st (st' := [zv x_26]) rfl ?_
        cases H
        exact z_zret (M := M_X12_coordinate) dX12_coordinate_57 rfl (Nat.le_of_ble_eq_true rfl) (Nat.le_of_ble_eq_true rfl) ⟨rfl, rfl⟩
    · refine z_zne_f (M := M_X12_coordinate) (tgt := 37) dX12_coordinate_32 (by decide) h_12 ?_
      refine z_zconst (M := M_X12_coordinate) (b := false) dX12_coordinate_35 rfl ?_
      cases H
      exact z_zret (M := M_X12_coordinate) dX12_coordinate_36 rfl (Nat.le_of_ble_eq_true rfl) (Nat.le_of_ble_eq_true rfl) ⟨rfl, rfl⟩
theorem c_X12_goesOn (hl : l.stackTraces = false) {σ : SG} {r : Int} {σ' : SG}  (H : fR_goesOn σ = some (r, σ')) : en_S l E M_X12_goesOn 3 0 0 [vr 277] σ (pS (some (vi r)) σ') := by
  unfold fR_goesOn at H
  refine z_mk (lv := [some (vr 277), none]) m_X12_goesOn rfl hl (Nat.le_of_ble_eq_true rfl) rfl ?_
  refine z_aload_n (M := M_X12_goesOn) dX12_goesOn_0 rfl ?_
  obtain ⟨σ_2, hc_1, H⟩ := bd_e H
  refine z_callV (M := M_X12_goesOn) (M' := M_X12_skip) (as := []) (rest := []) rfl rfl dX12_goesOn_1 m_X12_skip t_2856 t_2858 s_163 (c_X12_skip hl  hc_1) rfl rfl ly_277 rfl (Nat.le_of_ble_eq_true rfl) (Nat.le_of_ble_eq_true rfl) (Nat.le_of_ble_eq_true rfl) (Nat.le_of_ble_eq_true rfl) ?_
  refine z_st (st' := []) rfl ?_
  refine z_aload_n (M := M_X12_goesOn) dX12_goesOn_4 rfl ?_
  obtain ⟨x_4, hc_3, H⟩ := bd_e H
  refine z_callV (M := M_X12_goesOn) (M' := M_X12_here) (as := []) (rest := []) rfl rfl dX12_goesOn_5 m_X12_here t_2860 t_2862 s_164 (c_X12_here hl  hc_3) rfl rfl ly_277 rfl (Nat.le_of_ble_eq_true rfl) (Nat.le_of_ble_eq_true rfl) (Nat.le_of_ble_eq_true rfl) (Nat.le_of_ble_eq_true rfl) ?_
  refine z_st (st' := [vi x_4]) rfl ?_
  refine z_istore_n (M := M_X12_goesOn) (lv' := [some (vr 277), some (vi x_4)]) dX12_goesOn_8 (Nat.le_of_ble_eq_true rfl) rfl rfl ?_
  rcases if_e H with ⟨h_11, H⟩ | ⟨h_11, H⟩
  · have J_12 : YY l E M_X12_goesOn 3 0 0 (pS (some (vi r)) σ') 21 [some (vr 277), some (vi x_4)] [] σ_2 0 0 := by
      refine z_aload_n (M := M_X12_goesOn) dX12_goesOn_21 rfl ?_
      refine z_zconst (M := M_X12_goesOn) (b := false) dX12_goesOn_22 rfl ?_
      obtain ⟨⟨x_7, σ_6⟩, hc_5, H⟩ := bd_e H
      refine z_callV (M := M_X12_goesOn) (M' := M_X12_strange) (as := [zv false]) (rest := []) rfl rfl dX12_goesOn_23 m_X12_strange t_2870 t_2872 s_165 (c_X12_strange hl  hc_5) rfl rfl ly_277 rfl (Nat.le_of_ble_eq_true rfl) (Nat.le_of_ble_eq_true rfl) (Nat.le_of_ble_eq_true rfl) (Nat.le_of_ble_eq_true rfl) ?_
      refine z_st (st' := [zv x_7]) rfl ?_
      refine z_pop (M := M_X12_goesOn) dX12_goesOn_26 rfl ?_
      refine z_iconst (M := M_X12_goesOn) dX12_goesOn_27 ?_
      cases H
      exact z_iret (M := M_X12_goesOn) dX12_goesOn_28 rfl (Nat.le_of_ble_eq_true rfl) (Nat.le_of_ble_eq_true rfl) ⟨rfl, rfl⟩
    refine z_iload_n (M := M_X12_goesOn) dX12_goesOn_9 rfl ?_
    refine z_bipush (M := M_X12_goesOn) dX12_goesOn_10 (by decide +kernel) ?_
    by_cases h_14 : ¬ (w32 x_4) = 44
    · refine z_icmp_eq_f (M := M_X12_goesOn) (tgt := 29) dX12_goesOn_12 (by decide) rfl (by decide +kernel) h_14 ?_
      refine z_iload_n (M := M_X12_goesOn) dX12_goesOn_15 rfl ?_
      refine z_bipush (M := M_X12_goesOn) dX12_goesOn_16 (by decide +kernel) ?_
      by_cases h_15 : ¬ (w32 x_4) = 41
      · refine z_icmp_eq_f (M := M_X12_goesOn) (tgt := 29) dX12_goesOn_18 (by decide) rfl (by decide +kernel) h_15 ?_
        exact J_12
      · refine z_icmp_eq_t (M := M_X12_goesOn) (tgt := 29) dX12_goesOn_18 (by decide) rfl (by decide +kernel) (Decidable.not_not.mp h_15) ?_
        exact absurd h_11 (fun q => h_15 q.2)
    · refine z_icmp_eq_t (M := M_X12_goesOn) (tgt := 29) dX12_goesOn_12 (by decide) rfl (by decide +kernel) (Decidable.not_not.mp h_14) ?_
      exact absurd h_11 (fun q => h_14 q.1)
  · have J_13 : YY l E M_X12_goesOn 3 0 0 (pS (some (vi r)) σ') 29 [some (vr 277), some (vi x_4)] [] σ_2 0 0 := by
      refine z_aload_n (M := M_X12_goesOn) dX12_goesOn_29 rfl ?_
      refine z_dup (M := M_X12_goesOn) dX12_goesOn_30 rfl ?_
      refine z_getI (M := M_X12_goesOn) (ci := 15) (C := RX12) (T := TX12) (Nf := 135) (ty := tyX12) cl15 dX12_goesOn_31 ly_277 17 (by decide) t_2408 rfl rfl ?_
      refine z_iconst (M := M_X12_goesOn) dX12_goesOn_34 ?_
      refine z_iadd (M := M_X12_goesOn) dX12_goesOn_35 ?_
      obtain ⟨σ_8, σ_8_e, H⟩ := wf_e H
      refine z_putI (M := M_X12_goesOn) (ci := 15) (C := RX12) (T := TX12) (Nf := 135) (ty := tyX12) cl15 dX12_goesOn_36 ly_277 17 (by decide) t_2408 rfl rfl rfl rfl σ_8_e ?_
      have J_9 : YY l E M_X12_goesOn 3 0 0 (pS (some (vi r)) σ') 50 [some (vr 277), some (vi x_4)] [vi (if (w32 x_4) = 44 then 1 else 0)] σ_8 0 0 := by
        cases H
        exact z_iret (M := M_X12_goesOn) dX12_goesOn_50 rfl (Nat.le_of_ble_eq_true rfl) (Nat.le_of_ble_eq_true rfl) ⟨rfl, rfl⟩
      refine z_iload_n (M := M_X12_goesOn) dX12_goesOn_39 rfl ?_
      refine z_bipush (M := M_X12_goesOn) dX12_goesOn_40 (by decide +kernel) ?_
      by_cases h_10 : (w32 x_4) = 44
      · refine z_icmp_ne_f (M := M_X12_goesOn) (tgt := 49) dX12_goesOn_42 (by decide) rfl (by decide +kernel) h_10 ?_
        refine z_iconst (M := M_X12_goesOn) dX12_goesOn_45 ?_
        refine z_goto (M := M_X12_goesOn) (tgt := 50) dX12_goesOn_46 (by decide) ?_
        exact z_st (by rw [if_pos (c := (w32 x_4) = 44) h_10]) J_9
      · refine z_icmp_ne_t (M := M_X12_goesOn) (tgt := 49) dX12_goesOn_42 (by decide) rfl (by decide +kernel) h_10 ?_
        refine z_iconst (M := M_X12_goesOn) dX12_goesOn_49 ?_
        exact z_st (by rw [if_neg (c := (w32 x_4) = 44) h_10]) J_9
    refine z_iload_n (M := M_X12_goesOn) dX12_goesOn_9 rfl ?_
    refine z_bipush (M := M_X12_goesOn) dX12_goesOn_10 (by decide +kernel) ?_
    by_cases h_16 : ¬ (w32 x_4) = 44
    · refine z_icmp_eq_f (M := M_X12_goesOn) (tgt := 29) dX12_goesOn_12 (by decide) rfl (by decide +kernel) h_16 ?_
      refine z_iload_n (M := M_X12_goesOn) dX12_goesOn_15 rfl ?_
      refine z_bipush (M := M_X12_goesOn) dX12_goesOn_16 (by decide +kernel) ?_
      by_cases h_17 : ¬ (w32 x_4) = 41
      · refine z_icmp_eq_f (M := M_X12_goesOn) (tgt := 29) dX12_goesOn_18 (by decide) rfl (by decide +kernel) h_17 ?_
        exact absurd ⟨h_16, h_17⟩ h_11
      · refine z_icmp_eq_t (M := M_X12_goesOn) (tgt := 29) dX12_goesOn_18 (by decide) rfl (by decide +kernel) (Decidable.not_not.mp h_17) ?_
        exact J_13
    · refine z_icmp_eq_t (M := M_X12_goesOn) (tgt := 29) dX12_goesOn_12 (by decide) rfl (by decide +kernel) (Decidable.not_not.mp h_16) ?_
      exact J_13
theorem c_X12_row (hl : l.stackTraces = false) {σ : SG} {number_0 : Int} {r : Bool} {σ' : SG}  (H : fR_row σ number_0 = some (r, σ')) : en_S l E M_X12_row 5 0 0 [vr 277, vi number_0] σ (pS (some (zv r)) σ') := by
  unfold fR_row at H
  refine z_mk (lv := [some (vr 277), some (vi number_0), none]) m_X12_row rfl hl (Nat.le_of_ble_eq_true rfl) rfl ?_
  refine z_iconst (M := M_X12_row) dX12_row_0 ?_
  refine z_istore_n (M := M_X12_row) (lv' := [some (vr 277), some (vi number_0), some (vi 1)]) dX12_row_1 (Nat.le_of_ble_eq_true rfl) rfl rfl ?_
  obtain ⟨rl_6, hw_3, hk_4, hk_5⟩ := bx_e H
  have J_26 : ∀ on_22 σ_23, rl_6 = (.inl (on_22, σ_23)) → YY l E M_X12_row 5 0 0 (pS (some (zv r)) σ') 29 [some (vr 277), some (vi number_0), some (vi on_22)] [] σ_23 0 0 := by
    intro on_22 σ_23 e
    have H := hk_4 _ e
    have J_24 : YY l E M_X12_row 5 0 0 (pS (some (zv r)) σ') 38 [some (vr 277), some (vi number_0), some (vi on_22)] [zv (decide ((w32 on_22) = 0))] σ_23 0 0 := by
      cases H
      exact z_zret (M := M_X12_row) dX12_row_38 rfl (Nat.le_of_ble_eq_true rfl) (Nat.le_of_ble_eq_true rfl) ⟨rfl, rfl⟩
    refine z_iload_n (M := M_X12_row) dX12_row_29 rfl ?_
    by_cases h_25 : (w32 on_22) = 0
    · refine z_if_ne_f (M := M_X12_row) (tgt := 37) dX12_row_30 (by decide) rfl h_25 ?_
      refine z_iconst (M := M_X12_row) dX12_row_33 ?_
      refine z_goto (M := M_X12_row) (tgt := 38) dX12_row_34 (by decide) ?_
      exact z_st (by rw [zv_t (p := (w32 on_22) = 0) h_25]) J_24
    · refine z_if_ne_t (M := M_X12_row) (tgt := 37) dX12_row_30 (by decide) rfl h_25 ?_
      refine z_iconst (M := M_X12_row) dX12_row_37 ?_
      exact z_st (by rw [zv_f (p := (w32 on_22) = 0) h_25]) J_24
  refine whl_go hw_3 (fun (on_1, σ_2) => YY l E M_X12_row 5 0 0 (pS (some (zv r)) σ') 2 [some (vr 277), some (vi number_0), some (vi on_1)] [] σ_2 0 0) ?_
  rintro ⟨on_1, σ_2⟩ o_7 H K_8 K_9
  refine z_iload_n (M := M_X12_row) dX12_row_2 rfl ?_
  refine z_iconst (M := M_X12_row) dX12_row_3 ?_
  rcases if_e H with ⟨h_10, H⟩ | ⟨h_10, H⟩
  · refine z_icmp_ne_f (M := M_X12_row) (tgt := 29) dX12_row_4 (by decide) rfl (by decide +kernel) h_10 ?_
    refine z_aload_n (M := M_X12_row) dX12_row_7 rfl ?_
    obtain ⟨⟨x_13, σ_12⟩, hc_11, H⟩ := bd_e H
    refine z_callV (M := M_X12_row) (M' := M_X12_coordinate) (as := []) (rest := []) rfl rfl dX12_row_8 m_X12_coordinate t_2918 t_2920 s_174 (c_X12_coordinate hl  hc_11) rfl rfl ly_277 rfl (Nat.le_of_ble_eq_true rfl) (Nat.le_of_ble_eq_true rfl) (Nat.le_of_ble_eq_true rfl) (Nat.le_of_ble_eq_true rfl) ?_
    refine z_st (st' := [zv x_13]) rfl ?_
    rcases if_e H with ⟨h_14, H⟩ | ⟨h_14, H⟩
    · refine z_zne_t (M := M_X12_row) (tgt := 16) dX12_row_11 (by decide) h_14 ?_
      refine z_aload_n (M := M_X12_row) dX12_row_16 rfl ?_
      refine z_iload_n (M := M_X12_row) dX12_row_17 rfl ?_
      obtain ⟨σ_16, hc_15, H⟩ := bd_e H
      refine z_callV (M := M_X12_row) (M' := M_X12_more) (as := [vi number_0]) (rest := []) rfl rfl dX12_row_18 m_X12_more t_2906 t_2908 s_171 (c_X12_more hl  hc_15) rfl rfl ly_277 rfl (Nat.le_of_ble_eq_true rfl) (Nat.le_of_ble_eq_true rfl) (Nat.le_of_ble_eq_true rfl) (Nat.le_of_ble_eq_true rfl) ?_
      refine z_st (st' := []) rfl ?_
      refine z_aload_n (M := M_X12_row) dX12_row_21 rfl ?_
      obtain ⟨⟨x_19, σ_18⟩, hc_17, H⟩ := bd_e H
      refine z_callV (M := M_X12_row) (M' := M_X12_goesOn) (as := []) (rest := []) rfl rfl dX12_row_22 m_X12_goesOn t_2950 t_2952 s_181 (c_X12_goesOn hl  hc_17) rfl rfl ly_277 rfl (Nat.le_of_ble_eq_true rfl) (Nat.le_of_ble_eq_true rfl) (Nat.le_of_ble_eq_true rfl) (Nat.le_of_ble_eq_true rfl) ?_
      refine z_st (st' := [vi x_19]) rfl ?_
      refine z_istore_n (M := M_X12_row) (lv' := [some (vr 277), some (vi number_0), some (vi x_19)]) dX12_row_25 (Nat.le_of_ble_eq_true rfl) rfl rfl ?_
      refine z_goto (M := M_X12_row) (tgt := 2) dX12_row_26 (by decide) ?_
      exact K_8 _ (Option.some.inj H).symm
    · refine z_zne_f (M := M_X12_row) (tgt := 16) dX12_row_11 (by decide) h_14 ?_
      refine z_zconst (M := M_X12_row) (b := false) dX12_row_14 rfl ?_
      have H := congrArg some (hk_5 _ ((K_9 _ (Option.some.inj H).symm).symm))
      cases H
      exact z_zret (M := M_X12_row) dX12_row_15 rfl (Nat.le_of_ble_eq_true rfl) (Nat.le_of_ble_eq_true rfl) ⟨rfl, rfl⟩
  · refine z_icmp_ne_t (M := M_X12_row) (tgt := 29) dX12_row_4 (by decide) rfl (by decide +kernel) h_10 ?_
    exact J_26 _ _ (K_9 _ (Option.some.inj H).symm).symm
theorem c_X12_rings (hl : l.stackTraces = false) {σ : SG} {number_0 : Int} {r : Bool} {σ' : SG}  (H : fR_rings σ number_0 = some (r, σ')) : en_S l E M_X12_rings 6 0 0 [vr 277, vi number_0] σ (pS (some (zv r)) σ') := by
  unfold fR_rings at H
  refine z_mk (lv := [some (vr 277), some (vi number_0), none, none]) m_X12_rings rfl hl (Nat.le_of_ble_eq_true rfl) rfl ?_
  refine z_iconst (M := M_X12_rings) dX12_rings_0 ?_
  refine z_istore_n (M := M_X12_rings) (lv' := [some (vr 277), some (vi number_0), some (vi 1), none]) dX12_rings_1 (Nat.le_of_ble_eq_true rfl) rfl rfl ?_
  obtain ⟨rl_6, hw_3, hk_4, hk_5⟩ := bx_e H
  have J_45 : ∀ on_41 σ_42, rl_6 = (.inl (on_41, σ_42)) → YY l E M_X12_rings 6 0 0 (pS (some (zv r)) σ') 96 [some (vr 277), some (vi number_0), some (vi on_41), none] [] σ_42 0 0 := by
    intro on_41 σ_42 e
    have H := hk_4 _ e
    have J_43 : YY l E M_X12_rings 6 0 0 (pS (some (zv r)) σ') 105 [some (vr 277), some (vi number_0), some (vi on_41), none] [zv (decide ((w32 on_41) = 0))] σ_42 0 0 := by
      cases H
      exact z_zret (M := M_X12_rings) dX12_rings_105 rfl (Nat.le_of_ble_eq_true rfl) (Nat.le_of_ble_eq_true rfl) ⟨rfl, rfl⟩
    refine z_iload_n (M := M_X12_rings) dX12_rings_96 rfl ?_
    by_cases h_44 : (w32 on_41) = 0
    · refine z_if_ne_f (M := M_X12_rings) (tgt := 104) dX12_rings_97 (by decide) rfl h_44 ?_
      refine z_iconst (M := M_X12_rings) dX12_rings_100 ?_
      refine z_goto (M := M_X12_rings) (tgt := 105) dX12_rings_101 (by decide) ?_
      exact z_st (by rw [zv_t (p := (w32 on_41) = 0) h_44]) J_43
    · refine z_if_ne_t (M := M_X12_rings) (tgt := 104) dX12_rings_97 (by decide) rfl h_44 ?_
      refine z_iconst (M := M_X12_rings) dX12_rings_104 ?_
      exact z_st (by rw [zv_f (p := (w32 on_41) = 0) h_44]) J_43
  refine whl_go hw_3 (fun (on_1, σ_2) => YY l E M_X12_rings 6 0 0 (pS (some (zv r)) σ') 2 [some (vr 277), some (vi number_0), some (vi on_1), none] [] σ_2 0 0) ?_
  rintro ⟨on_1, σ_2⟩ o_7 H K_8 K_9
  refine z_iload_n (M := M_X12_rings) dX12_rings_2 rfl ?_
  refine z_iconst (M := M_X12_rings) dX12_rings_3 ?_
  rcases if_e H with ⟨h_10, H⟩ | ⟨h_10, H⟩
  · refine z_icmp_ne_f (M := M_X12_rings) (tgt := 96) dX12_rings_4 (by decide) rfl (by decide +kernel) h_10 ?_
    refine z_aload_n (M := M_X12_rings) dX12_rings_7 rfl ?_
    obtain ⟨σ_12, hc_11, H⟩ := bd_e H
    refine z_callV (M := M_X12_rings) (M' := M_X12_skip) (as := []) (rest := []) rfl rfl dX12_rings_8 m_X12_skip t_2856 t_2858 s_163 (c_X12_skip hl  hc_11) rfl rfl ly_277 rfl (Nat.le_of_ble_eq_true rfl) (Nat.le_of_ble_eq_true rfl) (Nat.le_of_ble_eq_true rfl) (Nat.le_of_ble_eq_true rfl) ?_
    refine z_st (st' := []) rfl ?_
    refine z_aload_n (M := M_X12_rings) dX12_rings_11 rfl ?_
    refine z_getR (M := M_X12_rings) (ci := 15) (C := RX12) (T := TX12) (Nf := 135) (ty := tyX12) cl15 dX12_rings_12 ly_277 9 (by decide) t_2400 rfl ?_
    refine z_bipush (M := M_X12_rings) dX12_rings_15 (by decide +kernel) ?_
    obtain ⟨x_13, x_13_e, hi_14, H⟩ := rd_e H
    refine z_iald (M := M_X12_rings) dX12_rings_17 ly_280 rfl (by decide +kernel) rfl hi_14 x_13_e ?_
    refine z_sipush (M := M_X12_rings) dX12_rings_18 (by decide +kernel) ?_
    rcases if_e H with ⟨h_15, H⟩ | ⟨h_15, H⟩
    · refine z_icmp_ne_f (M := M_X12_rings) (tgt := 35) dX12_rings_21 (by decide) rfl (by decide +kernel) h_15 ?_
      refine z_aload_n (M := M_X12_rings) dX12_rings_24 rfl ?_
      refine z_bipush (M := M_X12_rings) dX12_rings_25 (by decide +kernel) ?_
      refine z_aload_n (M := M_X12_rings) dX12_rings_27 rfl ?_
      refine z_getI (M := M_X12_rings) (ci := 15) (C := RX12) (T := TX12) (Nf := 135) (ty := tyX12) cl15 dX12_rings_28 ly_277 17 (by decide) t_2408 rfl rfl ?_
      obtain ⟨⟨x_18, σ_17⟩, hc_16, H⟩ := bd_e H
      refine z_callV (M := M_X12_rings) (M' := M_X12_wrong) (as := [vi 7, vi (σ_12 kR_at 0)]) (rest := []) rfl rfl dX12_rings_31 m_X12_wrong t_2874 t_2876 s_166 (c_X12_wrong hl  hc_16) rfl rfl ly_277 rfl (Nat.le_of_ble_eq_true rfl) (Nat.le_of_ble_eq_true rfl) (Nat.le_of_ble_eq_true rfl) (Nat.le_of_ble_eq_true rfl) ?_
      refine z_st (st' := [zv x_18]) rfl ?_
      have H := congrArg some (hk_5 _ ((K_9 _ (Option.some.inj H).symm).symm))
      cases H
      exact z_zret (M := M_X12_rings) dX12_rings_34 rfl (Nat.le_of_ble_eq_true rfl) (Nat.le_of_ble_eq_true rfl) ⟨rfl, rfl⟩
    · refine z_icmp_ne_t (M := M_X12_rings) (tgt := 35) dX12_rings_21 (by decide) rfl (by decide +kernel) h_15 ?_
      refine z_aload_n (M := M_X12_rings) dX12_rings_35 rfl ?_
      obtain ⟨x_20, hc_19, H⟩ := bd_e H
      refine z_callV (M := M_X12_rings) (M' := M_X12_here) (as := []) (rest := []) rfl rfl dX12_rings_36 m_X12_here t_2860 t_2862 s_164 (c_X12_here hl  hc_19) rfl rfl ly_277 rfl (Nat.le_of_ble_eq_true rfl) (Nat.le_of_ble_eq_true rfl) (Nat.le_of_ble_eq_true rfl) (Nat.le_of_ble_eq_true rfl) ?_
      refine z_st (st' := [vi x_20]) rfl ?_
      refine z_bipush (M := M_X12_rings) dX12_rings_39 (by decide +kernel) ?_
      rcases if_e H with ⟨h_21, H⟩ | ⟨h_21, H⟩
      · refine z_icmp_eq_f (M := M_X12_rings) (tgt := 50) dX12_rings_41 (by decide) rfl (by decide +kernel) h_21 ?_
        refine z_aload_n (M := M_X12_rings) dX12_rings_44 rfl ?_
        refine z_zconst (M := M_X12_rings) (b := false) dX12_rings_45 rfl ?_
        obtain ⟨⟨x_24, σ_23⟩, hc_22, H⟩ := bd_e H
        refine z_callV (M := M_X12_rings) (M' := M_X12_strange) (as := [zv false]) (rest := []) rfl rfl dX12_rings_46 m_X12_strange t_2870 t_2872 s_165 (c_X12_strange hl  hc_22) rfl rfl ly_277 rfl (Nat.le_of_ble_eq_true rfl) (Nat.le_of_ble_eq_true rfl) (Nat.le_of_ble_eq_true rfl) (Nat.le_of_ble_eq_true rfl) ?_
        refine z_st (st' := [zv x_24]) rfl ?_
        have H := congrArg some (hk_5 _ ((K_9 _ (Option.some.inj H).symm).symm))
        cases H
        exact z_zret (M := M_X12_rings) dX12_rings_49 rfl (Nat.le_of_ble_eq_true rfl) (Nat.le_of_ble_eq_true rfl) ⟨rfl, rfl⟩
      · refine z_icmp_eq_t (M := M_X12_rings) (tgt := 50) dX12_rings_41 (by decide) rfl (by decide +kernel) (Decidable.not_not.mp h_21) ?_
        refine z_aload_n (M := M_X12_rings) dX12_rings_50 rfl ?_
        refine z_dup (M := M_X12_rings) dX12_rings_51 rfl ?_
        refine z_getI (M := M_X12_rings) (ci := 15) (C := RX12) (T := TX12) (Nf := 135) (ty := tyX12) cl15 dX12_rings_52 ly_277 17 (by decide) t_2408 rfl rfl ?_
        refine z_iconst (M := M_X12_rings) dX12_rings_55 ?_
        refine z_iadd (M := M_X12_rings) dX12_rings_56 ?_
        obtain ⟨σ_25, σ_25_e, H⟩ := wf_e H
        refine z_putI (M := M_X12_rings) (ci := 15) (C := RX12) (T := TX12) (Nf := 135) (ty := tyX12) cl15 dX12_rings_57 ly_277 17 (by decide) t_2408 rfl rfl rfl rfl σ_25_e ?_
        refine z_aload_n (M := M_X12_rings) dX12_rings_60 rfl ?_
        refine z_getR (M := M_X12_rings) (ci := 15) (C := RX12) (T := TX12) (Nf := 135) (ty := tyX12) cl15 dX12_rings_61 ly_277 9 (by decide) t_2400 rfl ?_
        refine z_bipush (M := M_X12_rings) dX12_rings_64 (by decide +kernel) ?_
        obtain ⟨x_26, x_26_e, hi_27, H⟩ := rd_e H
        refine z_iald (M := M_X12_rings) dX12_rings_66 ly_280 rfl (by decide +kernel) rfl hi_27 x_26_e ?_
        refine z_istore_n (M := M_X12_rings) (lv' := [some (vr 277), some (vi number_0), some (vi on_1), some (vi x_26)]) dX12_rings_67 (Nat.le_of_ble_eq_true rfl) rfl rfl ?_
        refine z_aload_n (M := M_X12_rings) dX12_rings_68 rfl ?_
        refine z_iconst (M := M_X12_rings) dX12_rings_69 ?_
        obtain ⟨σ_29, hc_28, H⟩ := bd_e H
        refine z_callV (M := M_X12_rings) (M' := M_X12_tell) (as := [vi 0]) (rest := []) rfl rfl dX12_rings_70 m_X12_tell t_2902 t_2904 s_170 (c_X12_tell hl  hc_28) rfl rfl ly_277 rfl (Nat.le_of_ble_eq_true rfl) (Nat.le_of_ble_eq_true rfl) (Nat.le_of_ble_eq_true rfl) (Nat.le_of_ble_eq_true rfl) ?_
        refine z_st (st' := []) rfl ?_
        refine z_aload_n (M := M_X12_rings) dX12_rings_73 rfl ?_
        refine z_iload_n (M := M_X12_rings) dX12_rings_74 rfl ?_
        obtain ⟨σ_31, hc_30, H⟩ := bd_e H
        refine z_callV (M := M_X12_rings) (M' := M_X12_more) (as := [vi number_0]) (rest := []) rfl rfl dX12_rings_75 m_X12_more t_2906 t_2908 s_171 (c_X12_more hl  hc_30) rfl rfl ly_277 rfl (Nat.le_of_ble_eq_true rfl) (Nat.le_of_ble_eq_true rfl) (Nat.le_of_ble_eq_true rfl) (Nat.le_of_ble_eq_true rfl) ?_
        refine z_st (st' := []) rfl ?_
        refine z_aload_n (M := M_X12_rings) dX12_rings_78 rfl ?_
        refine z_iload_n (M := M_X12_rings) dX12_rings_79 rfl ?_
        obtain ⟨⟨x_34, σ_33⟩, hc_32, H⟩ := bd_e H
        refine z_callV (M := M_X12_rings) (M' := M_X12_row) (as := [vi x_26]) (rest := []) rfl rfl dX12_rings_80 m_X12_row t_2946 t_2948 s_180 (c_X12_row hl  hc_32) rfl rfl ly_277 rfl (Nat.le_of_ble_eq_true rfl) (Nat.le_of_ble_eq_true rfl) (Nat.le_of_ble_eq_true rfl) (Nat.le_of_ble_eq_true rfl) ?_
        refine z_st (st' := [zv x_34]) rfl ?_
        rcases if_e H with ⟨h_35, H⟩ | ⟨h_35, H⟩
        · refine z_zne_t (M := M_X12_rings) (tgt := 88) dX12_rings_83 (by decide) h_35 ?_
          refine z_aload_n (M := M_X12_rings) dX12_rings_88 rfl ?_
          obtain ⟨⟨x_38, σ_37⟩, hc_36, H⟩ := bd_e H
          refine z_callV (M := M_X12_rings) (M' := M_X12_goesOn) (as := []) (rest := []) rfl rfl dX12_rings_89 m_X12_goesOn t_2950 t_2952 s_181 (c_X12_goesOn hl  hc_36) rfl rfl ly_277 rfl (Nat.le_of_ble_eq_true rfl) (Nat.le_of_ble_eq_true rfl) (Nat.le_of_ble_eq_true rfl) (Nat.le_of_ble_eq_true rfl) ?_
          refine z_st (st' := [vi x_38]) rfl ?_
          refine z_istore_n (M := M_X12_rings) (lv' := [some (vr 277), some (vi number_0), some (vi x_38), some (vi x_26)]) dX12_rings_92 (Nat.le_of_ble_eq_true rfl) rfl rfl ?_
          refine z_goto (M := M_X12_rings) (tgt := 2) dX12_rings_93 (by decide) ?_
          refine z_le (lv' := [some (vr 277), some (vi number_0), some (vi x_38), none]) ⟨Or.inr rfl, Or.inr rfl, Or.inr rfl, Or.inl rfl, trivial⟩ ?_
          exact K_8 _ (Option.some.inj H).symm
        · refine z_zne_f (M := M_X12_rings) (tgt := 88) dX12_rings_83 (by decide) h_35 ?_
          refine z_zconst (M := M_X12_rings) (b := false) dX12_rings_86 rfl ?_
          have H := congrArg some (hk_5 _ ((K_9 _ (Option.some.inj H).symm).symm))
          cases H
          exact z_zret (M := M_X12_rings) dX12_rings_87 rfl (Nat.le_of_ble_eq_true rfl) (Nat.le_of_ble_eq_true rfl) ⟨rfl, rfl⟩
  · refine z_icmp_ne_t (M := M_X12_rings) (tgt := 96) dX12_rings_4 (by decide) rfl (by decide +kernel) h_10 ?_
    exact J_45 _ _ (K_9 _ (Option.some.inj H).symm).symm
theorem c_X12_body_0 (hl : l.stackTraces = false) {σ : SG} {kind_0 : Int} {number_0 : Int} {r : Bool} {σ' : SG}  (H : fR_body0 σ kind_0 number_0 = some (r, σ')) : en_S l E M_X12_body 7 0 0 [vr 277, vi kind_0, vi number_0] σ (pS (some (zv r)) σ') := by
  unfold fR_body0 at H
  refine z_mk (lv := [some (vr 277), some (vi kind_0), some (vi number_0)]) m_X12_body rfl hl (Nat.le_of_ble_eq_true rfl) rfl ?_
  refine z_iload_n (M := M_X12_body) dX12_body_0 rfl ?_
  rcases if_e H with ⟨h_1, H⟩ | ⟨h_1, H⟩
  · refine z_tabIn (M := M_X12_body) (tgt := 28) (off := 27) dX12_body_1 h_1 (by decide) (by decide) rfl (by decide) ?_
    refine z_aload_n (M := M_X12_body) dX12_body_28 rfl ?_
    refine z_iload_n (M := M_X12_body) dX12_body_29 rfl ?_
    obtain ⟨σ_3, hc_2, H⟩ := bd_e H
    refine z_callV (M := M_X12_body) (M' := M_X12_more) (as := [vi number_0]) (rest := []) rfl rfl dX12_body_30 m_X12_more t_2906 t_2908 s_171 (c_X12_more hl  hc_2) rfl rfl ly_277 rfl (Nat.le_of_ble_eq_true rfl) (Nat.le_of_ble_eq_true rfl) (Nat.le_of_ble_eq_true rfl) (Nat.le_of_ble_eq_true rfl) ?_
    refine z_st (st' := []) rfl ?_
    obtain ⟨v_17, he_18, hk_19⟩ := bd_e H
    have J_20 : ∀ x_15 σ_16, v_17 = (x_15, σ_16) → YY l E M_X12_body 7 0 0 (pS (some (zv r)) σ') 52 [some (vr 277), some (vi kind_0), some (vi number_0)] [zv x_15] σ_16 0 0 := by
      intro x_15 σ_16 e
      have H := hk_19
      rw [e] at H
      cases H
      exact z_zret (M := M_X12_body) dX12_body_52 rfl (Nat.le_of_ble_eq_true rfl) (Nat.le_of_ble_eq_true rfl) ⟨rfl, rfl⟩
    have H := he_18
    refine z_aload_n (M := M_X12_body) dX12_body_33 rfl ?_
    obtain ⟨⟨x_6, σ_5⟩, hc_4, H⟩ := bd_e H
    refine z_callV (M := M_X12_body) (M' := M_X12_coordinate) (as := []) (rest := []) rfl rfl dX12_body_34 m_X12_coordinate t_2918 t_2920 s_174 (c_X12_coordinate hl  hc_4) rfl rfl ly_277 rfl (Nat.le_of_ble_eq_true rfl) (Nat.le_of_ble_eq_true rfl) (Nat.le_of_ble_eq_true rfl) (Nat.le_of_ble_eq_true rfl) ?_
    refine z_st (st' := [zv x_6]) rfl ?_
    rcases if_e H with ⟨h_7, H⟩ | ⟨h_7, H⟩
    · refine z_zeq_f (M := M_X12_body) (tgt := 51) dX12_body_37 (by decide) h_7 ?_
      refine z_aload_n (M := M_X12_body) dX12_body_40 rfl ?_
      obtain ⟨⟨x_10, σ_9⟩, hc_8, H⟩ := bd_e H
      refine z_callV (M := M_X12_body) (M' := M_X12_closes) (as := []) (rest := []) rfl rfl dX12_body_41 m_X12_closes t_2942 t_2944 s_179 (c_X12_closes hl  hc_8) rfl rfl ly_277 rfl (Nat.le_of_ble_eq_true rfl) (Nat.le_of_ble_eq_true rfl) (Nat.le_of_ble_eq_true rfl) (Nat.le_of_ble_eq_true rfl) ?_
      refine z_st (st' := [zv x_10]) rfl ?_
      rcases if_e H with ⟨h_11, H⟩ | ⟨h_11, H⟩
      · refine z_zeq_f (M := M_X12_body) (tgt := 51) dX12_body_44 (by decide) h_11 ?_
        refine z_zconst (M := M_X12_body) (b := true) dX12_body_47 rfl ?_
        refine z_goto (M := M_X12_body) (tgt := 52) dX12_body_48 (by decide) ?_
        exact J_20 _ _ (Option.some.inj H).symm
      · refine z_zeq_t (M := M_X12_body) (tgt := 51) dX12_body_44 (by decide) h_11 ?_
        refine z_zconst (M := M_X12_body) (b := false) dX12_body_51 rfl ?_
        exact J_20 _ _ (Option.some.inj H).symm
    · refine z_zeq_t (M := M_X12_body) (tgt := 51) dX12_body_37 (by decide) h_7 ?_
      refine z_zconst (M := M_X12_body) (b := false) dX12_body_51 rfl ?_
      exact J_20 _ _ (Option.some.inj H).symm
  · rcases if_e H with ⟨h_21, H⟩ | ⟨h_21, H⟩
    · refine z_tabIn (M := M_X12_body) (tgt := 53) (off := 52) dX12_body_1 h_21 (by decide) (by decide) rfl (by decide) ?_
      refine z_aload_n (M := M_X12_body) dX12_body_53 rfl ?_
      refine z_iload_n (M := M_X12_body) dX12_body_54 rfl ?_
      obtain ⟨⟨x_24, σ_23⟩, hc_22, H⟩ := bd_e H
      refine z_callV (M := M_X12_body) (M' := M_X12_row) (as := [vi number_0]) (rest := []) rfl rfl dX12_body_55 m_X12_row t_2946 t_2948 s_180 (c_X12_row hl  hc_22) rfl rfl ly_277 rfl (Nat.le_of_ble_eq_true rfl) (Nat.le_of_ble_eq_true rfl) (Nat.le_of_ble_eq_true rfl) (Nat.le_of_ble_eq_true rfl) ?_
      refine z_st (st' := [zv x_24]) rfl ?_
      cases H
      exact z_zret (M := M_X12_body) dX12_body_58 rfl (Nat.le_of_ble_eq_true rfl) (Nat.le_of_ble_eq_true rfl) ⟨rfl, rfl⟩
    · rcases if_e H with ⟨h_25, H⟩ | ⟨h_25, H⟩
      · refine z_tabIn (M := M_X12_body) (tgt := 59) (off := 58) dX12_body_1 h_25 (by decide) (by decide) rfl (by decide) ?_
        refine z_aload_n (M := M_X12_body) dX12_body_59 rfl ?_
        refine z_iload_n (M := M_X12_body) dX12_body_60 rfl ?_
        obtain ⟨⟨x_28, σ_27⟩, hc_26, H⟩ := bd_e H
        refine z_callV (M := M_X12_body) (M' := M_X12_rings) (as := [vi number_0]) (rest := []) rfl rfl dX12_body_61 m_X12_rings t_2954 t_2956 s_182 (c_X12_rings hl  hc_26) rfl rfl ly_277 rfl (Nat.le_of_ble_eq_true rfl) (Nat.le_of_ble_eq_true rfl) (Nat.le_of_ble_eq_true rfl) (Nat.le_of_ble_eq_true rfl) ?_
        refine z_st (st' := [zv x_28]) rfl ?_
        cases H
        exact z_zret (M := M_X12_body) dX12_body_64 rfl (Nat.le_of_ble_eq_true rfl) (Nat.le_of_ble_eq_true rfl) ⟨rfl, rfl⟩
      · refine z_tabOut (M := M_X12_body) (tgt := 65) dX12_body_1 rfl (by omega) (by decide) ?_
        refine z_aload_n (M := M_X12_body) dX12_body_65 rfl ?_
        refine z_iload_n (M := M_X12_body) dX12_body_66 rfl ?_
        refine z_iload_n (M := M_X12_body) dX12_body_67 rfl ?_
        cases H
theorem c_X12_part_0 (hl : l.stackTraces = false) {σ : SG} {kind_0 : Int} {r : Bool} {σ' : SG}  (H : fR_part0 σ kind_0 = some (r, σ')) : en_S l E M_X12_part 9 0 0 [vr 277, vi kind_0] σ (pS (some (zv r)) σ') := by
  unfold fR_part0 at H
  refine z_mk (lv := [some (vr 277), some (vi kind_0), none, none]) m_X12_part rfl hl (Nat.le_of_ble_eq_true rfl) rfl ?_
  refine z_aload_n (M := M_X12_part) dX12_part_0 rfl ?_
  refine z_iload_n (M := M_X12_part) dX12_part_1 rfl ?_
  obtain ⟨⟨x_3, σ_2⟩, hc_1, H⟩ := bd_e H
  refine z_callV (M := M_X12_part) (M' := M_X12_pair) (as := [vi kind_0]) (rest := []) rfl rfl dX12_part_2 m_X12_pair t_2898 t_2900 s_169 (c_X12_pair hl  hc_1) rfl rfl ly_277 rfl (Nat.le_of_ble_eq_true rfl) (Nat.le_of_ble_eq_true rfl) (Nat.le_of_ble_eq_true rfl) (Nat.le_of_ble_eq_true rfl) ?_
  refine z_st (st' := [zv x_3]) rfl ?_
  rcases if_e H with ⟨h_4, H⟩ | ⟨h_4, H⟩
  · refine z_zne_t (M := M_X12_part) (tgt := 10) dX12_part_5 (by decide) h_4 ?_
    refine z_aload_n (M := M_X12_part) dX12_part_10 rfl ?_
    refine z_getR (M := M_X12_part) (ci := 15) (C := RX12) (T := TX12) (Nf := 135) (ty := tyX12) cl15 dX12_part_11 ly_277 9 (by decide) t_2400 rfl ?_
    refine z_bipush (M := M_X12_part) dX12_part_14 (by decide +kernel) ?_
    obtain ⟨x_5, x_5_e, hi_6, H⟩ := rd_e H
    refine z_iald (M := M_X12_part) dX12_part_16 ly_280 rfl (by decide +kernel) rfl hi_6 x_5_e ?_
    refine z_iconst (M := M_X12_part) dX12_part_17 ?_
    refine z_isub (M := M_X12_part) dX12_part_18 ?_
    refine z_istore_n (M := M_X12_part) (lv' := [some (vr 277), some (vi kind_0), some (vi (x_5 - 1)), none]) dX12_part_19 (Nat.le_of_ble_eq_true rfl) rfl rfl ?_
    refine z_aload_n (M := M_X12_part) dX12_part_20 rfl ?_
    obtain ⟨x_8, hc_7, H⟩ := bd_e H
    refine z_callV (M := M_X12_part) (M' := M_X12_here) (as := []) (rest := []) rfl rfl dX12_part_21 m_X12_here t_2860 t_2862 s_164 (c_X12_here hl  hc_7) rfl rfl ly_277 rfl (Nat.le_of_ble_eq_true rfl) (Nat.le_of_ble_eq_true rfl) (Nat.le_of_ble_eq_true rfl) (Nat.le_of_ble_eq_true rfl) ?_
    refine z_st (st' := [vi x_8]) rfl ?_
    refine z_istore_n (M := M_X12_part) (lv' := [some (vr 277), some (vi kind_0), some (vi (x_5 - 1)), some (vi x_8)]) dX12_part_24 (Nat.le_of_ble_eq_true rfl) rfl rfl ?_
    rcases if_e H with ⟨h_36, H⟩ | ⟨h_36, H⟩
    · have J_37 : YY l E M_X12_part 9 0 0 (pS (some (zv r)) σ') 37 [some (vr 277), some (vi kind_0), some (vi (x_5 - 1)), some (vi x_8)] [] σ_2 0 0 := by
        refine z_aload_n (M := M_X12_part) dX12_part_37 rfl ?_
        obtain ⟨⟨x_11, σ_10⟩, hc_9, H⟩ := bd_e H
        refine z_callV (M := M_X12_part) (M' := M_X12_emptyWord) (as := []) (rest := []) rfl rfl dX12_part_38 m_X12_emptyWord t_2910 t_2912 s_172 (c_X12_emptyWord hl  hc_9) rfl rfl ly_277 rfl (Nat.le_of_ble_eq_true rfl) (Nat.le_of_ble_eq_true rfl) (Nat.le_of_ble_eq_true rfl) (Nat.le_of_ble_eq_true rfl) ?_
        refine z_st (st' := [zv x_11]) rfl ?_
        cases H
        exact z_zret (M := M_X12_part) dX12_part_41 rfl (Nat.le_of_ble_eq_true rfl) (Nat.le_of_ble_eq_true rfl) ⟨rfl, rfl⟩
      refine z_iload_n (M := M_X12_part) dX12_part_25 rfl ?_
      refine z_iconst (M := M_X12_part) dX12_part_26 ?_
      by_cases h_39 : ¬ (w32 x_8) = (-1)
      · refine z_icmp_eq_f (M := M_X12_part) (tgt := 42) dX12_part_27 (by decide) rfl (by decide +kernel) h_39 ?_
        refine z_iload_n (M := M_X12_part) dX12_part_30 rfl ?_
        refine z_callS (M := M_X12_part) (M' := M_X12_isLetter) (as := [vi x_8]) (rest := []) rfl rfl dX12_part_31 m_X12_isLetter t_2867 t_2868 (c_X12_isLetter hl  rfl) rfl rfl (Nat.le_of_ble_eq_true rfl) (Nat.le_of_ble_eq_true rfl) (Nat.le_of_ble_eq_true rfl) (Nat.le_of_ble_eq_true rfl) ?_
        refine z_st (st' := [zv (fR_isLetter x_8)]) rfl ?_
        by_cases h_40 : (fR_isLetter x_8) = true
        · refine z_zeq_f (M := M_X12_part) (tgt := 42) dX12_part_34 (by decide) h_40 ?_
          exact J_37
        · refine z_zeq_t (M := M_X12_part) (tgt := 42) dX12_part_34 (by decide) h_40 ?_
          exact absurd h_36 (fun q => h_40 q.2)
      · refine z_icmp_eq_t (M := M_X12_part) (tgt := 42) dX12_part_27 (by decide) rfl (by decide +kernel) (Decidable.not_not.mp h_39) ?_
        exact absurd h_36 (fun q => h_39 q.1)
    · have J_38 : YY l E M_X12_part 9 0 0 (pS (some (zv r)) σ') 42 [some (vr 277), some (vi kind_0), some (vi (x_5 - 1)), some (vi x_8)] [] σ_2 0 0 := by
        refine z_iload_n (M := M_X12_part) dX12_part_42 rfl ?_
        refine z_bipush (M := M_X12_part) dX12_part_43 (by decide +kernel) ?_
        rcases if_e H with ⟨h_12, H⟩ | ⟨h_12, H⟩
        · refine z_icmp_ne_f (M := M_X12_part) (tgt := 65) dX12_part_45 (by decide) rfl (by decide +kernel) h_12 ?_
          refine z_aload_n (M := M_X12_part) dX12_part_48 rfl ?_
          refine z_dup (M := M_X12_part) dX12_part_49 rfl ?_
          refine z_getI (M := M_X12_part) (ci := 15) (C := RX12) (T := TX12) (Nf := 135) (ty := tyX12) cl15 dX12_part_50 ly_277 17 (by decide) t_2408 rfl rfl ?_
          refine z_iconst (M := M_X12_part) dX12_part_53 ?_
          refine z_iadd (M := M_X12_part) dX12_part_54 ?_
          obtain ⟨σ_13, σ_13_e, H⟩ := wf_e H
          refine z_putI (M := M_X12_part) (ci := 15) (C := RX12) (T := TX12) (Nf := 135) (ty := tyX12) cl15 dX12_part_55 ly_277 17 (by decide) t_2408 rfl rfl rfl rfl σ_13_e ?_
          refine z_aload_n (M := M_X12_part) dX12_part_58 rfl ?_
          refine z_iload_n (M := M_X12_part) dX12_part_59 rfl ?_
          refine z_iload_n (M := M_X12_part) dX12_part_60 rfl ?_
          obtain ⟨⟨x_16, σ_15⟩, hc_14, H⟩ := bd_e H
          refine z_callV (M := M_X12_part) (M' := M_X12_body) (as := [vi kind_0, vi (x_5 - 1)]) (rest := []) rfl rfl dX12_part_61 m_X12_body t_2914 t_2916 s_173 (c_X12_body_0 hl  hc_14) rfl rfl ly_277 rfl (Nat.le_of_ble_eq_true rfl) (Nat.le_of_ble_eq_true rfl) (Nat.le_of_ble_eq_true rfl) (Nat.le_of_ble_eq_true rfl) ?_
          refine z_st (st' := [zv x_16]) rfl ?_
          cases H
          exact z_zret (M := M_X12_part) dX12_part_64 rfl (Nat.le_of_ble_eq_true rfl) (Nat.le_of_ble_eq_true rfl) ⟨rfl, rfl⟩
        · refine z_icmp_ne_t (M := M_X12_part) (tgt := 65) dX12_part_45 (by decide) rfl (by decide +kernel) h_12 ?_
          rcases if_e H with ⟨h_25, H⟩ | ⟨h_25, H⟩
          · have J_26 : YY l E M_X12_part 9 0 0 (pS (some (zv r)) σ') 90 [some (vr 277), some (vi kind_0), some (vi (x_5 - 1)), some (vi x_8)] [] σ_2 0 0 := by
              refine z_aload_n (M := M_X12_part) dX12_part_90 rfl ?_
              refine z_zconst (M := M_X12_part) (b := true) dX12_part_91 rfl ?_
              obtain ⟨⟨x_19, σ_18⟩, hc_17, H⟩ := bd_e H
              refine z_callV (M := M_X12_part) (M' := M_X12_strange) (as := [zv true]) (rest := []) rfl rfl dX12_part_92 m_X12_strange t_2870 t_2872 s_165 (c_X12_strange hl  hc_17) rfl rfl ly_277 rfl (Nat.le_of_ble_eq_true rfl) (Nat.le_of_ble_eq_true rfl) (Nat.le_of_ble_eq_true rfl) (Nat.le_of_ble_eq_true rfl) ?_
              refine z_st (st' := [zv x_19]) rfl ?_
              cases H
              exact z_zret (M := M_X12_part) dX12_part_95 rfl (Nat.le_of_ble_eq_true rfl) (Nat.le_of_ble_eq_true rfl) ⟨rfl, rfl⟩
            refine z_iload_n (M := M_X12_part) dX12_part_65 rfl ?_
            refine z_iconst (M := M_X12_part) dX12_part_66 ?_
            by_cases h_28 : 1 < (w32 kind_0)
            · refine z_icmp_gt_t (M := M_X12_part) (tgt := 90) dX12_part_67 (by decide) rfl (by decide +kernel) h_28 ?_
              exact J_26
            · refine z_icmp_gt_f (M := M_X12_part) (tgt := 90) dX12_part_67 (by decide) rfl (by decide +kernel) (Int.not_lt.mp h_28) ?_
              refine z_iload_n (M := M_X12_part) dX12_part_70 rfl ?_
              refine z_callS (M := M_X12_part) (M' := M_X12_isDigit) (as := [vi x_8]) (rest := []) rfl rfl dX12_part_71 m_X12_isDigit t_2878 t_2879 (c_X12_isDigit hl  rfl) rfl rfl (Nat.le_of_ble_eq_true rfl) (Nat.le_of_ble_eq_true rfl) (Nat.le_of_ble_eq_true rfl) (Nat.le_of_ble_eq_true rfl) ?_
              refine z_st (st' := [zv (fR_isDigit x_8)]) rfl ?_
              by_cases h_29 : (fR_isDigit x_8) = true
              · refine z_zne_t (M := M_X12_part) (tgt := 96) dX12_part_74 (by decide) h_29 ?_
                exact absurd h_25 (fun q => q.elim h_28 (fun q => (fun q => (not_not_intro h_29) q.1) q.1))
              · refine z_zne_f (M := M_X12_part) (tgt := 96) dX12_part_74 (by decide) h_29 ?_
                refine z_iload_n (M := M_X12_part) dX12_part_77 rfl ?_
                refine z_callS (M := M_X12_part) (M' := M_X12_isSign) (as := [vi x_8]) (rest := []) rfl rfl dX12_part_78 m_X12_isSign t_2881 t_2882 (c_X12_isSign hl  rfl) rfl rfl (Nat.le_of_ble_eq_true rfl) (Nat.le_of_ble_eq_true rfl) (Nat.le_of_ble_eq_true rfl) (Nat.le_of_ble_eq_true rfl) ?_
                refine z_st (st' := [zv (fR_isSign x_8)]) rfl ?_
                by_cases h_30 : (fR_isSign x_8) = true
                · refine z_zne_t (M := M_X12_part) (tgt := 96) dX12_part_81 (by decide) h_30 ?_
                  exact absurd h_25 (fun q => q.elim h_28 (fun q => (fun q => (not_not_intro h_30) q.2) q.1))
                · refine z_zne_f (M := M_X12_part) (tgt := 96) dX12_part_81 (by decide) h_30 ?_
                  refine z_iload_n (M := M_X12_part) dX12_part_84 rfl ?_
                  refine z_bipush (M := M_X12_part) dX12_part_85 (by decide +kernel) ?_
                  by_cases h_31 : ¬ (w32 x_8) = 46
                  · refine z_icmp_eq_f (M := M_X12_part) (tgt := 96) dX12_part_87 (by decide) rfl (by decide +kernel) h_31 ?_
                    exact J_26
                  · refine z_icmp_eq_t (M := M_X12_part) (tgt := 96) dX12_part_87 (by decide) rfl (by decide +kernel) (Decidable.not_not.mp h_31) ?_
                    exact absurd h_25 (fun q => q.elim h_28 (fun q => h_31 q.2))
          · have J_27 : YY l E M_X12_part 9 0 0 (pS (some (zv r)) σ') 96 [some (vr 277), some (vi kind_0), some (vi (x_5 - 1)), some (vi x_8)] [] σ_2 0 0 := by
              refine z_aload_n (M := M_X12_part) dX12_part_96 rfl ?_
              refine z_iload_n (M := M_X12_part) dX12_part_97 rfl ?_
              obtain ⟨σ_21, hc_20, H⟩ := bd_e H
              refine z_callV (M := M_X12_part) (M' := M_X12_more) (as := [vi (x_5 - 1)]) (rest := []) rfl rfl dX12_part_98 m_X12_more t_2906 t_2908 s_171 (c_X12_more hl  hc_20) rfl rfl ly_277 rfl (Nat.le_of_ble_eq_true rfl) (Nat.le_of_ble_eq_true rfl) (Nat.le_of_ble_eq_true rfl) (Nat.le_of_ble_eq_true rfl) ?_
              refine z_st (st' := []) rfl ?_
              refine z_aload_n (M := M_X12_part) dX12_part_101 rfl ?_
              obtain ⟨⟨x_24, σ_23⟩, hc_22, H⟩ := bd_e H
              refine z_callV (M := M_X12_part) (M' := M_X12_coordinate) (as := []) (rest := []) rfl rfl dX12_part_102 m_X12_coordinate t_2918 t_2920 s_174 (c_X12_coordinate hl  hc_22) rfl rfl ly_277 rfl (Nat.le_of_ble_eq_true rfl) (Nat.le_of_ble_eq_true rfl) (Nat.le_of_ble_eq_true rfl) (Nat.le_of_ble_eq_true rfl) ?_
              refine z_st (st' := [zv x_24]) rfl ?_
              cases H
              exact z_zret (M := M_X12_part) dX12_part_105 rfl (Nat.le_of_ble_eq_true rfl) (Nat.le_of_ble_eq_true rfl) ⟨rfl, rfl⟩
            refine z_iload_n (M := M_X12_part) dX12_part_65 rfl ?_
            refine z_iconst (M := M_X12_part) dX12_part_66 ?_
            by_cases h_32 : 1 < (w32 kind_0)
            · refine z_icmp_gt_t (M := M_X12_part) (tgt := 90) dX12_part_67 (by decide) rfl (by decide +kernel) h_32 ?_
              exact absurd (Or.inl h_32) h_25
            · refine z_icmp_gt_f (M := M_X12_part) (tgt := 90) dX12_part_67 (by decide) rfl (by decide +kernel) (Int.not_lt.mp h_32) ?_
              refine z_iload_n (M := M_X12_part) dX12_part_70 rfl ?_
              refine z_callS (M := M_X12_part) (M' := M_X12_isDigit) (as := [vi x_8]) (rest := []) rfl rfl dX12_part_71 m_X12_isDigit t_2878 t_2879 (c_X12_isDigit hl  rfl) rfl rfl (Nat.le_of_ble_eq_true rfl) (Nat.le_of_ble_eq_true rfl) (Nat.le_of_ble_eq_true rfl) (Nat.le_of_ble_eq_true rfl) ?_
              refine z_st (st' := [zv (fR_isDigit x_8)]) rfl ?_
              by_cases h_33 : (fR_isDigit x_8) = true
              · refine z_zne_t (M := M_X12_part) (tgt := 96) dX12_part_74 (by decide) h_33 ?_
                exact J_27
              · refine z_zne_f (M := M_X12_part) (tgt := 96) dX12_part_74 (by decide) h_33 ?_
                refine z_iload_n (M := M_X12_part) dX12_part_77 rfl ?_
                refine z_callS (M := M_X12_part) (M' := M_X12_isSign) (as := [vi x_8]) (rest := []) rfl rfl dX12_part_78 m_X12_isSign t_2881 t_2882 (c_X12_isSign hl  rfl) rfl rfl (Nat.le_of_ble_eq_true rfl) (Nat.le_of_ble_eq_true rfl) (Nat.le_of_ble_eq_true rfl) (Nat.le_of_ble_eq_true rfl) ?_
                refine z_st (st' := [zv (fR_isSign x_8)]) rfl ?_
                by_cases h_34 : (fR_isSign x_8) = true
                · refine z_zne_t (M := M_X12_part) (tgt := 96) dX12_part_81 (by decide) h_34 ?_
                  exact J_27
                · refine z_zne_f (M := M_X12_part) (tgt := 96) dX12_part_81 (by decide) h_34 ?_
                  refine z_iload_n (M := M_X12_part) dX12_part_84 rfl ?_
                  refine z_bipush (M := M_X12_part) dX12_part_85 (by decide +kernel) ?_
                  by_cases h_35 : ¬ (w32 x_8) = 46
                  · refine z_icmp_eq_f (M := M_X12_part) (tgt := 96) dX12_part_87 (by decide) rfl (by decide +kernel) h_35 ?_
                    exact absurd (Or.inr ⟨⟨h_33, h_34⟩, h_35⟩) h_25
                  · refine z_icmp_eq_t (M := M_X12_part) (tgt := 96) dX12_part_87 (by decide) rfl (by decide +kernel) (Decidable.not_not.mp h_35) ?_
                    exact J_27
      refine z_iload_n (M := M_X12_part) dX12_part_25 rfl ?_
      refine z_iconst (M := M_X12_part) dX12_part_26 ?_
      by_cases h_41 : ¬ (w32 x_8) = (-1)
      · refine z_icmp_eq_f (M := M_X12_part) (tgt := 42) dX12_part_27 (by decide) rfl (by decide +kernel) h_41 ?_
        refine z_iload_n (M := M_X12_part) dX12_part_30 rfl ?_
        refine z_callS (M := M_X12_part) (M' := M_X12_isLetter) (as := [vi x_8]) (rest := []) rfl rfl dX12_part_31 m_X12_isLetter t_2867 t_2868 (c_X12_isLetter hl  rfl) rfl rfl (Nat.le_of_ble_eq_true rfl) (Nat.le_of_ble_eq_true rfl) (Nat.le_of_ble_eq_true rfl) (Nat.le_of_ble_eq_true rfl) ?_
        refine z_st (st' := [zv (fR_isLetter x_8)]) rfl ?_
        by_cases h_42 : (fR_isLetter x_8) = true
        · refine z_zeq_f (M := M_X12_part) (tgt := 42) dX12_part_34 (by decide) h_42 ?_
          exact absurd ⟨h_41, h_42⟩ h_36
        · refine z_zeq_t (M := M_X12_part) (tgt := 42) dX12_part_34 (by decide) h_42 ?_
          exact J_38
      · refine z_icmp_eq_t (M := M_X12_part) (tgt := 42) dX12_part_27 (by decide) rfl (by decide +kernel) (Decidable.not_not.mp h_41) ?_
        exact J_38
  · refine z_zne_f (M := M_X12_part) (tgt := 10) dX12_part_5 (by decide) h_4 ?_
    refine z_zconst (M := M_X12_part) (b := false) dX12_part_8 rfl ?_
    cases H
    exact z_zret (M := M_X12_part) dX12_part_9 rfl (Nat.le_of_ble_eq_true rfl) (Nat.le_of_ble_eq_true rfl) ⟨rfl, rfl⟩
theorem c_X12_parts_0 (hl : l.stackTraces = false) {σ : SG} {kind_0 : Int} {number_0 : Int} {r : Bool} {σ' : SG}  (H : fR_parts0 σ kind_0 number_0 = some (r, σ')) : en_S l E M_X12_parts 10 0 0 [vr 277, vi kind_0, vi number_0] σ (pS (some (zv r)) σ') := by
  unfold fR_parts0 at H
  refine z_mk (lv := [some (vr 277), some (vi kind_0), some (vi number_0), none]) m_X12_parts rfl hl (Nat.le_of_ble_eq_true rfl) rfl ?_
  refine z_iconst (M := M_X12_parts) dX12_parts_0 ?_
  refine z_istore_n (M := M_X12_parts) (lv' := [some (vr 277), some (vi kind_0), some (vi number_0), some (vi 1)]) dX12_parts_1 (Nat.le_of_ble_eq_true rfl) rfl rfl ?_
  obtain ⟨rl_6, hw_3, hk_4, hk_5⟩ := bx_e H
  have J_26 : ∀ on_22 σ_23, rl_6 = (.inl (on_22, σ_23)) → YY l E M_X12_parts 10 0 0 (pS (some (zv r)) σ') 32 [some (vr 277), some (vi kind_0), some (vi number_0), some (vi on_22)] [] σ_23 0 0 := by
    intro on_22 σ_23 e
    have H := hk_4 _ e
    have J_24 : YY l E M_X12_parts 10 0 0 (pS (some (zv r)) σ') 41 [some (vr 277), some (vi kind_0), some (vi number_0), some (vi on_22)] [zv (decide ((w32 on_22) = 0))] σ_23 0 0 := by
      cases H
      exact z_zret (M := M_X12_parts) dX12_parts_41 rfl (Nat.le_of_ble_eq_true rfl) (Nat.le_of_ble_eq_true rfl) ⟨rfl, rfl⟩
    refine z_iload_n (M := M_X12_parts) dX12_parts_32 rfl ?_
    by_cases h_25 : (w32 on_22) = 0
    · refine z_if_ne_f (M := M_X12_parts) (tgt := 40) dX12_parts_33 (by decide) rfl h_25 ?_
      refine z_iconst (M := M_X12_parts) dX12_parts_36 ?_
      refine z_goto (M := M_X12_parts) (tgt := 41) dX12_parts_37 (by decide) ?_
      exact z_st (by rw [zv_t (p := (w32 on_22) = 0) h_25]) J_24
    · refine z_if_ne_t (M := M_X12_parts) (tgt := 40) dX12_parts_33 (by decide) rfl h_25 ?_
      refine z_iconst (M := M_X12_parts) dX12_parts_40 ?_
      exact z_st (by rw [zv_f (p := (w32 on_22) = 0) h_25]) J_24
  refine whl_go hw_3 (fun (on_1, σ_2) => YY l E M_X12_parts 10 0 0 (pS (some (zv r)) σ') 2 [some (vr 277), some (vi kind_0), some (vi number_0), some (vi on_1)] [] σ_2 0 0) ?_
  rintro ⟨on_1, σ_2⟩ o_7 H K_8 K_9
  refine z_iload_n (M := M_X12_parts) dX12_parts_2 rfl ?_
  refine z_iconst (M := M_X12_parts) dX12_parts_3 ?_
  rcases if_e H with ⟨h_10, H⟩ | ⟨h_10, H⟩
  · refine z_icmp_ne_f (M := M_X12_parts) (tgt := 32) dX12_parts_4 (by decide) rfl (by decide +kernel) h_10 ?_
    refine z_aload_n (M := M_X12_parts) dX12_parts_7 rfl ?_
    refine z_iload_n (M := M_X12_parts) dX12_parts_8 rfl ?_
    refine z_iconst (M := M_X12_parts) dX12_parts_9 ?_
    refine z_isub (M := M_X12_parts) dX12_parts_10 ?_
    obtain ⟨⟨x_13, σ_12⟩, hc_11, H⟩ := bd_e H
    refine z_callV (M := M_X12_parts) (M' := M_X12_part) (as := [vi (kind_0 - 3)]) (rest := []) rfl rfl dX12_parts_11 m_X12_part t_2962 t_2964 s_184 (c_X12_part_0 hl  hc_11) rfl rfl ly_277 rfl (Nat.le_of_ble_eq_true rfl) (Nat.le_of_ble_eq_true rfl) (Nat.le_of_ble_eq_true rfl) (Nat.le_of_ble_eq_true rfl) ?_
    refine z_st (st' := [zv x_13]) rfl ?_
    rcases if_e H with ⟨h_14, H⟩ | ⟨h_14, H⟩
    · refine z_zne_t (M := M_X12_parts) (tgt := 19) dX12_parts_14 (by decide) h_14 ?_
      refine z_aload_n (M := M_X12_parts) dX12_parts_19 rfl ?_
      refine z_iload_n (M := M_X12_parts) dX12_parts_20 rfl ?_
      obtain ⟨σ_16, hc_15, H⟩ := bd_e H
      refine z_callV (M := M_X12_parts) (M' := M_X12_more) (as := [vi number_0]) (rest := []) rfl rfl dX12_parts_21 m_X12_more t_2906 t_2908 s_171 (c_X12_more hl  hc_15) rfl rfl ly_277 rfl (Nat.le_of_ble_eq_true rfl) (Nat.le_of_ble_eq_true rfl) (Nat.le_of_ble_eq_true rfl) (Nat.le_of_ble_eq_true rfl) ?_
      refine z_st (st' := []) rfl ?_
      refine z_aload_n (M := M_X12_parts) dX12_parts_24 rfl ?_
      obtain ⟨⟨x_19, σ_18⟩, hc_17, H⟩ := bd_e H
      refine z_callV (M := M_X12_parts) (M' := M_X12_goesOn) (as := []) (rest := []) rfl rfl dX12_parts_25 m_X12_goesOn t_2950 t_2952 s_181 (c_X12_goesOn hl  hc_17) rfl rfl ly_277 rfl (Nat.le_of_ble_eq_true rfl) (Nat.le_of_ble_eq_true rfl) (Nat.le_of_ble_eq_true rfl) (Nat.le_of_ble_eq_true rfl) ?_
      refine z_st (st' := [vi x_19]) rfl ?_
      refine z_istore_n (M := M_X12_parts) (lv' := [some (vr 277), some (vi kind_0), some (vi number_0), some (vi x_19)]) dX12_parts_28 (Nat.le_of_ble_eq_true rfl) rfl rfl ?_
      refine z_goto (M := M_X12_parts) (tgt := 2) dX12_parts_29 (by decide) ?_
      exact K_8 _ (Option.some.inj H).symm
    · refine z_zne_f (M := M_X12_parts) (tgt := 19) dX12_parts_14 (by decide) h_14 ?_
      refine z_zconst (M := M_X12_parts) (b := false) dX12_parts_17 rfl ?_
      have H := congrArg some (hk_5 _ ((K_9 _ (Option.some.inj H).symm).symm))
      cases H
      exact z_zret (M := M_X12_parts) dX12_parts_18 rfl (Nat.le_of_ble_eq_true rfl) (Nat.le_of_ble_eq_true rfl) ⟨rfl, rfl⟩
  · refine z_icmp_ne_t (M := M_X12_parts) (tgt := 32) dX12_parts_4 (by decide) rfl (by decide +kernel) h_10 ?_
    exact J_26 _ _ (K_9 _ (Option.some.inj H).symm).symm
theorem c_X12_body (hl : l.stackTraces = false) {σ : SG} {kind_0 : Int} {number_0 : Int} {r : Bool} {σ' : SG}  (H : fR_body σ kind_0 number_0 = some (r, σ')) : en_S l E M_X12_body 11 0 0 [vr 277, vi kind_0, vi number_0] σ (pS (some (zv r)) σ') := by
  unfold fR_body at H
  refine z_mk (lv := [some (vr 277), some (vi kind_0), some (vi number_0)]) m_X12_body rfl hl (Nat.le_of_ble_eq_true rfl) rfl ?_
  refine z_iload_n (M := M_X12_body) dX12_body_0 rfl ?_
  rcases if_e H with ⟨h_1, H⟩ | ⟨h_1, H⟩
  · refine z_tabIn (M := M_X12_body) (tgt := 28) (off := 27) dX12_body_1 h_1 (by decide) (by decide) rfl (by decide) ?_
    refine z_aload_n (M := M_X12_body) dX12_body_28 rfl ?_
    refine z_iload_n (M := M_X12_body) dX12_body_29 rfl ?_
    obtain ⟨σ_3, hc_2, H⟩ := bd_e H
    refine z_callV (M := M_X12_body) (M' := M_X12_more) (as := [vi number_0]) (rest := []) rfl rfl dX12_body_30 m_X12_more t_2906 t_2908 s_171 (c_X12_more hl  hc_2) rfl rfl ly_277 rfl (Nat.le_of_ble_eq_true rfl) (Nat.le_of_ble_eq_true rfl) (Nat.le_of_ble_eq_true rfl) (Nat.le_of_ble_eq_true rfl) ?_
    refine z_st (st' := []) rfl ?_
    obtain ⟨v_17, he_18, hk_19⟩ := bd_e H
    have J_20 : ∀ x_15 σ_16, v_17 = (x_15, σ_16) → YY l E M_X12_body 11 0 0 (pS (some (zv r)) σ') 52 [some (vr 277), some (vi kind_0), some (vi number_0)] [zv x_15] σ_16 0 0 := by
      intro x_15 σ_16 e
      have H := hk_19
      rw [e] at H
      cases H
      exact z_zret (M := M_X12_body) dX12_body_52 rfl (Nat.le_of_ble_eq_true rfl) (Nat.le_of_ble_eq_true rfl) ⟨rfl, rfl⟩
    have H := he_18
    refine z_aload_n (M := M_X12_body) dX12_body_33 rfl ?_
    obtain ⟨⟨x_6, σ_5⟩, hc_4, H⟩ := bd_e H
    refine z_callV (M := M_X12_body) (M' := M_X12_coordinate) (as := []) (rest := []) rfl rfl dX12_body_34 m_X12_coordinate t_2918 t_2920 s_174 (c_X12_coordinate hl  hc_4) rfl rfl ly_277 rfl (Nat.le_of_ble_eq_true rfl) (Nat.le_of_ble_eq_true rfl) (Nat.le_of_ble_eq_true rfl) (Nat.le_of_ble_eq_true rfl) ?_
    refine z_st (st' := [zv x_6]) rfl ?_
    rcases if_e H with ⟨h_7, H⟩ | ⟨h_7, H⟩
    · refine z_zeq_f (M := M_X12_body) (tgt := 51) dX12_body_37 (by decide) h_7 ?_
      refine z_aload_n (M := M_X12_body) dX12_body_40 rfl ?_
      obtain ⟨⟨x_10, σ_9⟩, hc_8, H⟩ := bd_e H
      refine z_callV (M := M_X12_body) (M' := M_X12_closes) (as := []) (rest := []) rfl rfl dX12_body_41 m_X12_closes t_2942 t_2944 s_179 (c_X12_closes hl  hc_8) rfl rfl ly_277 rfl (Nat.le_of_ble_eq_true rfl) (Nat.le_of_ble_eq_true rfl) (Nat.le_of_ble_eq_true rfl) (Nat.le_of_ble_eq_true rfl) ?_
      refine z_st (st' := [zv x_10]) rfl ?_
      rcases if_e H with ⟨h_11, H⟩ | ⟨h_11, H⟩
      · refine z_zeq_f (M := M_X12_body) (tgt := 51) dX12_body_44 (by decide) h_11 ?_
        refine z_zconst (M := M_X12_body) (b := true) dX12_body_47 rfl ?_
        refine z_goto (M := M_X12_body) (tgt := 52) dX12_body_48 (by decide) ?_
        exact J_20 _ _ (Option.some.inj H).symm
      · refine z_zeq_t (M := M_X12_body) (tgt := 51) dX12_body_44 (by decide) h_11 ?_
        refine z_zconst (M := M_X12_body) (b := false) dX12_body_51 rfl ?_
        exact J_20 _ _ (Option.some.inj H).symm
    · refine z_zeq_t (M := M_X12_body) (tgt := 51) dX12_body_37 (by decide) h_7 ?_
      refine z_zconst (M := M_X12_body) (b := false) dX12_body_51 rfl ?_
      exact J_20 _ _ (Option.some.inj H).symm
  · rcases if_e H with ⟨h_21, H⟩ | ⟨h_21, H⟩
    · refine z_tabIn (M := M_X12_body) (tgt := 53) (off := 52) dX12_body_1 h_21 (by decide) (by decide) rfl (by decide) ?_
      refine z_aload_n (M := M_X12_body) dX12_body_53 rfl ?_
      refine z_iload_n (M := M_X12_body) dX12_body_54 rfl ?_
      obtain ⟨⟨x_24, σ_23⟩, hc_22, H⟩ := bd_e H
      refine z_callV (M := M_X12_body) (M' := M_X12_row) (as := [vi number_0]) (rest := []) rfl rfl dX12_body_55 m_X12_row t_2946 t_2948 s_180 (c_X12_row hl  hc_22) rfl rfl ly_277 rfl (Nat.le_of_ble_eq_true rfl) (Nat.le_of_ble_eq_true rfl) (Nat.le_of_ble_eq_true rfl) (Nat.le_of_ble_eq_true rfl) ?_
      refine z_st (st' := [zv x_24]) rfl ?_
      cases H
      exact z_zret (M := M_X12_body) dX12_body_58 rfl (Nat.le_of_ble_eq_true rfl) (Nat.le_of_ble_eq_true rfl) ⟨rfl, rfl⟩
    · rcases if_e H with ⟨h_25, H⟩ | ⟨h_25, H⟩
      · refine z_tabIn (M := M_X12_body) (tgt := 59) (off := 58) dX12_body_1 h_25 (by decide) (by decide) rfl (by decide) ?_
        refine z_aload_n (M := M_X12_body) dX12_body_59 rfl ?_
        refine z_iload_n (M := M_X12_body) dX12_body_60 rfl ?_
        obtain ⟨⟨x_28, σ_27⟩, hc_26, H⟩ := bd_e H
        refine z_callV (M := M_X12_body) (M' := M_X12_rings) (as := [vi number_0]) (rest := []) rfl rfl dX12_body_61 m_X12_rings t_2954 t_2956 s_182 (c_X12_rings hl  hc_26) rfl rfl ly_277 rfl (Nat.le_of_ble_eq_true rfl) (Nat.le_of_ble_eq_true rfl) (Nat.le_of_ble_eq_true rfl) (Nat.le_of_ble_eq_true rfl) ?_
        refine z_st (st' := [zv x_28]) rfl ?_
        cases H
        exact z_zret (M := M_X12_body) dX12_body_64 rfl (Nat.le_of_ble_eq_true rfl) (Nat.le_of_ble_eq_true rfl) ⟨rfl, rfl⟩
      · refine z_tabOut (M := M_X12_body) (tgt := 65) dX12_body_1 rfl (by omega) (by decide) ?_
        refine z_aload_n (M := M_X12_body) dX12_body_65 rfl ?_
        refine z_iload_n (M := M_X12_body) dX12_body_66 rfl ?_
        refine z_iload_n (M := M_X12_body) dX12_body_67 rfl ?_
        obtain ⟨⟨x_31, σ_30⟩, hc_29, H⟩ := bd_e H
        refine z_callV (M := M_X12_body) (M' := M_X12_parts) (as := [vi kind_0, vi number_0]) (rest := []) rfl rfl dX12_body_68 m_X12_parts t_2958 t_2960 s_183 (c_X12_parts_0 hl  hc_29) rfl rfl ly_277 rfl (Nat.le_of_ble_eq_true rfl) (Nat.le_of_ble_eq_true rfl) (Nat.le_of_ble_eq_true rfl) (Nat.le_of_ble_eq_true rfl) ?_
        refine z_st (st' := [zv x_31]) rfl ?_
        cases H
        exact z_zret (M := M_X12_body) dX12_body_71 rfl (Nat.le_of_ble_eq_true rfl) (Nat.le_of_ble_eq_true rfl) ⟨rfl, rfl⟩
end LFAP
