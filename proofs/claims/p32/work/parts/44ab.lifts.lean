section LFAB
variable {l : Launch} {E : EE}
theorem c_X9_readEmptyOrBracket (hl : l.stackTraces = false) {σ : SG} {kind_0 : Int} {r : Bool} {σ' : SG}  (H : fW_readEmptyOrBracket σ kind_0 = some (r, σ')) : en_S l E M_X9_readEmptyOrBracket 7 0 0 [vr 167, vi kind_0] σ (pS (some (zv r)) σ') := by
  unfold fW_readEmptyOrBracket at H
  refine z_mk (lv := [some (vr 167), some (vi kind_0)]) m_X9_readEmptyOrBracket rfl hl (Nat.le_of_ble_eq_true rfl) rfl ?_
  refine z_aload_n (M := M_X9_readEmptyOrBracket) dX9_readEmptyOrBracket_0 rfl ?_
  obtain ⟨σ_2, hc_1, H⟩ := bd_e H
  refine z_callV (M := M_X9_readEmptyOrBracket) (M' := M_X9_skipBlanks) (as := []) (rest := []) rfl rfl dX9_readEmptyOrBracket_1 m_X9_skipBlanks t_776 t_778 s_4 (c_X9_skipBlanks hl  hc_1) rfl rfl ly_167 rfl (Nat.le_of_ble_eq_true rfl) (Nat.le_of_ble_eq_true rfl) (Nat.le_of_ble_eq_true rfl) (Nat.le_of_ble_eq_true rfl) ?_
  refine z_st (st' := []) rfl ?_
  refine z_aload_n (M := M_X9_readEmptyOrBracket) dX9_readEmptyOrBracket_4 rfl ?_
  refine z_aload_n (M := M_X9_readEmptyOrBracket) dX9_readEmptyOrBracket_5 rfl ?_
  refine z_getI (M := M_X9_readEmptyOrBracket) (ci := 12) (C := RX9) (T := TX9) (Nf := 12) (ty := tyX9) cl12 dX9_readEmptyOrBracket_6 ly_167 6 (by decide) t_111 rfl rfl ?_
  obtain ⟨x_4, hc_3, H⟩ := bd_e H
  refine z_callV (M := M_X9_readEmptyOrBracket) (M' := M_X9_signAt) (as := [vi (σ_2 kW_at 0)]) (rest := []) rfl rfl dX9_readEmptyOrBracket_9 m_X9_signAt t_783 t_785 s_5 (c_X9_signAt hl  hc_3) rfl rfl ly_167 rfl (Nat.le_of_ble_eq_true rfl) (Nat.le_of_ble_eq_true rfl) (Nat.le_of_ble_eq_true rfl) (Nat.le_of_ble_eq_true rfl) ?_
  refine z_st (st' := [vi x_4]) rfl ?_
  refine z_bipush (M := M_X9_readEmptyOrBracket) dX9_readEmptyOrBracket_12 (by decide +kernel) ?_
  rcases if_e H with ⟨h_5, H⟩ | ⟨h_5, H⟩
  · refine z_icmp_ne_f (M := M_X9_readEmptyOrBracket) (tgt := 23) dX9_readEmptyOrBracket_14 (by decide) rfl (by decide +kernel) h_5 ?_
    refine z_aload_n (M := M_X9_readEmptyOrBracket) dX9_readEmptyOrBracket_17 rfl ?_
    refine z_iload_n (M := M_X9_readEmptyOrBracket) dX9_readEmptyOrBracket_18 rfl ?_
    obtain ⟨⟨x_8, σ_7⟩, hc_6, H⟩ := bd_e H
    refine z_callV (M := M_X9_readEmptyOrBracket) (M' := M_X9_openLevel) (as := [vi kind_0]) (rest := []) rfl rfl dX9_readEmptyOrBracket_19 m_X9_openLevel t_879 t_881 s_12 (c_X9_openLevel hl  hc_6) rfl rfl ly_167 rfl (Nat.le_of_ble_eq_true rfl) (Nat.le_of_ble_eq_true rfl) (Nat.le_of_ble_eq_true rfl) (Nat.le_of_ble_eq_true rfl) ?_
    refine z_st (st' := [zv x_8]) rfl ?_
    cases H
    exact z_zret (M := M_X9_readEmptyOrBracket) dX9_readEmptyOrBracket_22 rfl (Nat.le_of_ble_eq_true rfl) (Nat.le_of_ble_eq_true rfl) ⟨rfl, rfl⟩
  · refine z_icmp_ne_t (M := M_X9_readEmptyOrBracket) (tgt := 23) dX9_readEmptyOrBracket_14 (by decide) rfl (by decide +kernel) h_5 ?_
    refine z_aload_n (M := M_X9_readEmptyOrBracket) dX9_readEmptyOrBracket_23 rfl ?_
    refine z_aload_n (M := M_X9_readEmptyOrBracket) dX9_readEmptyOrBracket_24 rfl ?_
    refine z_getI (M := M_X9_readEmptyOrBracket) (ci := 12) (C := RX9) (T := TX9) (Nf := 12) (ty := tyX9) cl12 dX9_readEmptyOrBracket_25 ly_167 6 (by decide) t_111 rfl rfl ?_
    obtain ⟨x_10, hc_9, H⟩ := bd_e H
    refine z_callV (M := M_X9_readEmptyOrBracket) (M' := M_X9_signAt) (as := [vi (σ_2 kW_at 0)]) (rest := []) rfl rfl dX9_readEmptyOrBracket_28 m_X9_signAt t_783 t_785 s_5 (c_X9_signAt hl  hc_9) rfl rfl ly_167 rfl (Nat.le_of_ble_eq_true rfl) (Nat.le_of_ble_eq_true rfl) (Nat.le_of_ble_eq_true rfl) (Nat.le_of_ble_eq_true rfl) ?_
    refine z_st (st' := [vi x_10]) rfl ?_
    refine z_callS (M := M_X9_readEmptyOrBracket) (M' := M_X9_isLetter) (as := [vi x_10]) (rest := []) rfl rfl dX9_readEmptyOrBracket_31 m_X9_isLetter t_787 t_788 (c_X9_isLetter hl  rfl) rfl rfl (Nat.le_of_ble_eq_true rfl) (Nat.le_of_ble_eq_true rfl) (Nat.le_of_ble_eq_true rfl) (Nat.le_of_ble_eq_true rfl) ?_
    refine z_st (st' := [zv (fW_isLetter x_10)]) rfl ?_
    rcases if_e H with ⟨h_11, H⟩ | ⟨h_11, H⟩
    · refine z_zne_t (M := M_X9_readEmptyOrBracket) (tgt := 42) dX9_readEmptyOrBracket_34 (by decide) h_11 ?_
      refine z_aload_n (M := M_X9_readEmptyOrBracket) dX9_readEmptyOrBracket_42 rfl ?_
      refine z_ldcS (M := M_X9_readEmptyOrBracket) (i := 7) (w := 8) (tx := "EMPTY") dX9_readEmptyOrBracket_43 (by decide +kernel) (by decide) rfl ?_
      obtain ⟨x_13, hc_12, H⟩ := bd_e H
      refine z_callV (M := M_X9_readEmptyOrBracket) (M' := M_X9_isWord) (as := [vr 8]) (rest := []) rfl rfl dX9_readEmptyOrBracket_45 m_X9_isWord t_815 t_817 s_9 (c_X9_isWord hl (by decide) hc_12) rfl rfl ly_167 rfl (Nat.le_of_ble_eq_true rfl) (Nat.le_of_ble_eq_true rfl) (Nat.le_of_ble_eq_true rfl) (Nat.le_of_ble_eq_true rfl) ?_
      refine z_st (st' := [zv x_13]) rfl ?_
      rcases if_e H with ⟨h_14, H⟩ | ⟨h_14, H⟩
      · refine z_zne_t (M := M_X9_readEmptyOrBracket) (tgt := 57) dX9_readEmptyOrBracket_48 (by decide) h_14 ?_
        refine z_aload_n (M := M_X9_readEmptyOrBracket) dX9_readEmptyOrBracket_57 rfl ?_
        refine z_aload_n (M := M_X9_readEmptyOrBracket) dX9_readEmptyOrBracket_58 rfl ?_
        obtain ⟨x_16, hc_15, H⟩ := bd_e H
        refine z_callV (M := M_X9_readEmptyOrBracket) (M' := M_X9_behindWord) (as := []) (rest := [vr 167]) rfl rfl dX9_readEmptyOrBracket_59 m_X9_behindWord t_819 t_821 s_10 (c_X9_behindWord hl  hc_15) rfl rfl ly_167 rfl (Nat.le_of_ble_eq_true rfl) (Nat.le_of_ble_eq_true rfl) (Nat.le_of_ble_eq_true rfl) (Nat.le_of_ble_eq_true rfl) ?_
        refine z_st (st' := [vi x_16, vr 167]) rfl ?_
        obtain ⟨σ_17, σ_17_e, H⟩ := wf_e H
        refine z_putI (M := M_X9_readEmptyOrBracket) (ci := 12) (C := RX9) (T := TX9) (Nf := 12) (ty := tyX9) cl12 dX9_readEmptyOrBracket_62 ly_167 6 (by decide) t_111 rfl rfl rfl rfl σ_17_e ?_
        refine z_zconst (M := M_X9_readEmptyOrBracket) (b := true) dX9_readEmptyOrBracket_65 rfl ?_
        cases H
        exact z_zret (M := M_X9_readEmptyOrBracket) dX9_readEmptyOrBracket_66 rfl (Nat.le_of_ble_eq_true rfl) (Nat.le_of_ble_eq_true rfl) ⟨rfl, rfl⟩
      · refine z_zne_f (M := M_X9_readEmptyOrBracket) (tgt := 57) dX9_readEmptyOrBracket_48 (by decide) h_14 ?_
        refine z_aload_n (M := M_X9_readEmptyOrBracket) dX9_readEmptyOrBracket_51 rfl ?_
        refine z_iconst (M := M_X9_readEmptyOrBracket) dX9_readEmptyOrBracket_52 ?_
        obtain ⟨⟨x_20, σ_19⟩, hc_18, H⟩ := bd_e H
        refine z_callV (M := M_X9_readEmptyOrBracket) (M' := M_X9_fail) (as := [vi 2]) (rest := []) rfl rfl dX9_readEmptyOrBracket_53 m_X9_fail t_797 t_799 s_7 (c_X9_fail hl  hc_18) rfl rfl ly_167 rfl (Nat.le_of_ble_eq_true rfl) (Nat.le_of_ble_eq_true rfl) (Nat.le_of_ble_eq_true rfl) (Nat.le_of_ble_eq_true rfl) ?_
        refine z_st (st' := [zv x_20]) rfl ?_
        cases H
        exact z_zret (M := M_X9_readEmptyOrBracket) dX9_readEmptyOrBracket_56 rfl (Nat.le_of_ble_eq_true rfl) (Nat.le_of_ble_eq_true rfl) ⟨rfl, rfl⟩
    · refine z_zne_f (M := M_X9_readEmptyOrBracket) (tgt := 42) dX9_readEmptyOrBracket_34 (by decide) h_11 ?_
      refine z_aload_n (M := M_X9_readEmptyOrBracket) dX9_readEmptyOrBracket_37 rfl ?_
      obtain ⟨⟨x_23, σ_22⟩, hc_21, H⟩ := bd_e H
      refine z_callV (M := M_X9_readEmptyOrBracket) (M' := M_X9_unexpected) (as := []) (rest := []) rfl rfl dX9_readEmptyOrBracket_38 m_X9_unexpected t_790 t_792 s_6 (c_X9_unexpected hl  hc_21) rfl rfl ly_167 rfl (Nat.le_of_ble_eq_true rfl) (Nat.le_of_ble_eq_true rfl) (Nat.le_of_ble_eq_true rfl) (Nat.le_of_ble_eq_true rfl) ?_
      refine z_st (st' := [zv x_23]) rfl ?_
      cases H
      exact z_zret (M := M_X9_readEmptyOrBracket) dX9_readEmptyOrBracket_41 rfl (Nat.le_of_ble_eq_true rfl) (Nat.le_of_ble_eq_true rfl) ⟨rfl, rfl⟩
theorem c_X9_readPart (hl : l.stackTraces = false) {σ : SG} {kind_0 : Int} {r : Bool} {σ' : SG}  (H : fW_readPart σ kind_0 = some (r, σ')) : en_S l E M_X9_readPart 8 0 0 [vr 167, vi kind_0] σ (pS (some (zv r)) σ') := by
  unfold fW_readPart at H
  refine z_mk (lv := [some (vr 167), some (vi kind_0)]) m_X9_readPart rfl hl (Nat.le_of_ble_eq_true rfl) rfl ?_
  refine z_aload_n (M := M_X9_readPart) dX9_readPart_0 rfl ?_
  obtain ⟨σ_2, hc_1, H⟩ := bd_e H
  refine z_callV (M := M_X9_readPart) (M' := M_X9_skipBlanks) (as := []) (rest := []) rfl rfl dX9_readPart_1 m_X9_skipBlanks t_776 t_778 s_4 (c_X9_skipBlanks hl  hc_1) rfl rfl ly_167 rfl (Nat.le_of_ble_eq_true rfl) (Nat.le_of_ble_eq_true rfl) (Nat.le_of_ble_eq_true rfl) (Nat.le_of_ble_eq_true rfl) ?_
  refine z_st (st' := []) rfl ?_
  refine z_aload_n (M := M_X9_readPart) dX9_readPart_4 rfl ?_
  obtain ⟨hs_3, H⟩ := ck_e H
  refine z_getV (M := M_X9_readPart) (ci := 12) (C := RX9) (T := TX9) (Nf := 12) (ty := tyX9) cl12 dX9_readPart_5 ly_167 4 (by decide) t_109 rfl rfl ?_
  refine z_iload_n (M := M_X9_readPart) dX9_readPart_8 rfl ?_
  refine z_iconst (M := M_X9_readPart) dX9_readPart_9 ?_
  obtain ⟨⟨x_6, σ_5⟩, hc_4, H⟩ := bd_e H
  refine z_callV (M := M_X9_readPart) (M' := M_X6_addShape) (as := [vi kind_0, vi 0]) (rest := []) rfl rfl dX9_readPart_10 m_X6_addShape t_871 t_872 t_873 (c_X6_addShape hl hs_3 hc_4) rfl rfl (ly_S hs_3) rfl (Nat.le_of_ble_eq_true rfl) (Nat.le_of_ble_eq_true rfl) (Nat.le_of_ble_eq_true rfl) (Nat.le_of_ble_eq_true rfl) ?_
  refine z_st (st' := [zv x_6]) rfl ?_
  rcases if_e H with ⟨h_7, H⟩ | ⟨h_7, H⟩
  · refine z_zne_t (M := M_X9_readPart) (tgt := 23) dX9_readPart_13 (by decide) h_7 ?_
    refine z_iload_n (M := M_X9_readPart) dX9_readPart_23 rfl ?_
    refine z_iconst (M := M_X9_readPart) dX9_readPart_24 ?_
    rcases if_e H with ⟨h_18, H⟩ | ⟨h_18, H⟩
    · refine z_icmp_ne_f (M := M_X9_readPart) (tgt := 65) dX9_readPart_25 (by decide) rfl (by decide +kernel) h_18 ?_
      refine z_aload_n (M := M_X9_readPart) dX9_readPart_28 rfl ?_
      refine z_aload_n (M := M_X9_readPart) dX9_readPart_29 rfl ?_
      refine z_getI (M := M_X9_readPart) (ci := 12) (C := RX9) (T := TX9) (Nf := 12) (ty := tyX9) cl12 dX9_readPart_30 ly_167 6 (by decide) t_111 rfl rfl ?_
      obtain ⟨x_20, hc_19, H⟩ := bd_e H
      refine z_callV (M := M_X9_readPart) (M' := M_X9_signAt) (as := [vi (σ_5 kW_at 0)]) (rest := []) rfl rfl dX9_readPart_33 m_X9_signAt t_783 t_785 s_5 (c_X9_signAt hl  hc_19) rfl rfl ly_167 rfl (Nat.le_of_ble_eq_true rfl) (Nat.le_of_ble_eq_true rfl) (Nat.le_of_ble_eq_true rfl) (Nat.le_of_ble_eq_true rfl) ?_
      refine z_st (st' := [vi x_20]) rfl ?_
      refine z_callS (M := M_X9_readPart) (M' := M_X9_beginsNumber) (as := [vi x_20]) (rest := []) rfl rfl dX9_readPart_36 m_X9_beginsNumber t_794 t_795 (c_X9_beginsNumber hl  rfl) rfl rfl (Nat.le_of_ble_eq_true rfl) (Nat.le_of_ble_eq_true rfl) (Nat.le_of_ble_eq_true rfl) (Nat.le_of_ble_eq_true rfl) ?_
      refine z_st (st' := [zv (fW_beginsNumber x_20)]) rfl ?_
      rcases if_e H with ⟨h_21, H⟩ | ⟨h_21, H⟩
      · refine z_zeq_f (M := M_X9_readPart) (tgt := 65) dX9_readPart_39 (by decide) h_21 ?_
        refine z_aload_n (M := M_X9_readPart) dX9_readPart_42 rfl ?_
        obtain ⟨hs_22, H⟩ := ck_e H
        refine z_getV (M := M_X9_readPart) (ci := 12) (C := RX9) (T := TX9) (Nf := 12) (ty := tyX9) cl12 dX9_readPart_43 ly_167 4 (by decide) t_109 rfl rfl ?_
        refine z_getR (M := M_X9_readPart) (ci := 9) (C := RX6) (T := TX6) (Nf := 5) (ty := tyX6) cl9 dX9_readPart_46 (ly_S hs_22) 0 (by decide) t_54 rfl ?_
        refine z_aload_n (M := M_X9_readPart) dX9_readPart_49 rfl ?_
        obtain ⟨hs_23, H⟩ := ck_e H
        refine z_getV (M := M_X9_readPart) (ci := 12) (C := RX9) (T := TX9) (Nf := 12) (ty := tyX9) cl12 dX9_readPart_50 ly_167 4 (by decide) t_109 rfl rfl ?_
        refine z_getI (M := M_X9_readPart) (ci := 9) (C := RX6) (T := TX6) (Nf := 5) (ty := tyX6) cl9 dX9_readPart_53 (ly_S hs_23) 3 (by decide) t_78 rfl rfl ?_
        refine z_iconst (M := M_X9_readPart) dX9_readPart_56 ?_
        refine z_isub (M := M_X9_readPart) dX9_readPart_57 ?_
        refine z_iconst (M := M_X9_readPart) dX9_readPart_58 ?_
        obtain ⟨σ_24, σ_24_e, hi_25, H⟩ := wa_e H
        refine z_iast (M := M_X9_readPart) dX9_readPart_59 (ly_Sp hs_22) rfl rfl rfl hi_25 σ_24_e ?_
        refine z_aload_n (M := M_X9_readPart) dX9_readPart_60 rfl ?_
        obtain ⟨⟨x_28, σ_27⟩, hc_26, H⟩ := bd_e H
        refine z_callV (M := M_X9_readPart) (M' := M_X9_readCoordinate) (as := []) (rest := []) rfl rfl dX9_readPart_61 m_X9_readCoordinate t_900 t_902 s_16 (c_X9_readCoordinate hl  hc_26) rfl rfl ly_167 rfl (Nat.le_of_ble_eq_true rfl) (Nat.le_of_ble_eq_true rfl) (Nat.le_of_ble_eq_true rfl) (Nat.le_of_ble_eq_true rfl) ?_
        refine z_st (st' := [zv x_28]) rfl ?_
        cases H
        exact z_zret (M := M_X9_readPart) dX9_readPart_64 rfl (Nat.le_of_ble_eq_true rfl) (Nat.le_of_ble_eq_true rfl) ⟨rfl, rfl⟩
      · refine z_zeq_t (M := M_X9_readPart) (tgt := 65) dX9_readPart_39 (by decide) h_21 ?_
        refine z_aload_n (M := M_X9_readPart) dX9_readPart_65 rfl ?_
        refine z_iload_n (M := M_X9_readPart) dX9_readPart_66 rfl ?_
        obtain ⟨⟨x_31, σ_30⟩, hc_29, H⟩ := bd_e H
        refine z_callV (M := M_X9_readPart) (M' := M_X9_readEmptyOrBracket) (as := [vi kind_0]) (rest := []) rfl rfl dX9_readPart_67 m_X9_readEmptyOrBracket t_875 t_877 s_11 (c_X9_readEmptyOrBracket hl  hc_29) rfl rfl ly_167 rfl (Nat.le_of_ble_eq_true rfl) (Nat.le_of_ble_eq_true rfl) (Nat.le_of_ble_eq_true rfl) (Nat.le_of_ble_eq_true rfl) ?_
        refine z_st (st' := [zv x_31]) rfl ?_
        cases H
        exact z_zret (M := M_X9_readPart) dX9_readPart_70 rfl (Nat.le_of_ble_eq_true rfl) (Nat.le_of_ble_eq_true rfl) ⟨rfl, rfl⟩
    · refine z_icmp_ne_t (M := M_X9_readPart) (tgt := 65) dX9_readPart_25 (by decide) rfl (by decide +kernel) h_18 ?_
      refine z_aload_n (M := M_X9_readPart) dX9_readPart_65 rfl ?_
      refine z_iload_n (M := M_X9_readPart) dX9_readPart_66 rfl ?_
      obtain ⟨⟨x_34, σ_33⟩, hc_32, H⟩ := bd_e H
      refine z_callV (M := M_X9_readPart) (M' := M_X9_readEmptyOrBracket) (as := [vi kind_0]) (rest := []) rfl rfl dX9_readPart_67 m_X9_readEmptyOrBracket t_875 t_877 s_11 (c_X9_readEmptyOrBracket hl  hc_32) rfl rfl ly_167 rfl (Nat.le_of_ble_eq_true rfl) (Nat.le_of_ble_eq_true rfl) (Nat.le_of_ble_eq_true rfl) (Nat.le_of_ble_eq_true rfl) ?_
      refine z_st (st' := [zv x_34]) rfl ?_
      cases H
      exact z_zret (M := M_X9_readPart) dX9_readPart_70 rfl (Nat.le_of_ble_eq_true rfl) (Nat.le_of_ble_eq_true rfl) ⟨rfl, rfl⟩
  · refine z_zne_f (M := M_X9_readPart) (tgt := 23) dX9_readPart_13 (by decide) h_7 ?_
    refine z_aload_n (M := M_X9_readPart) dX9_readPart_16 rfl ?_
    refine z_bipush (M := M_X9_readPart) dX9_readPart_17 (by decide +kernel) ?_
    obtain ⟨⟨x_37, σ_36⟩, hc_35, H⟩ := bd_e H
    refine z_callV (M := M_X9_readPart) (M' := M_X9_fail) (as := [vi 7]) (rest := []) rfl rfl dX9_readPart_19 m_X9_fail t_797 t_799 s_7 (c_X9_fail hl  hc_35) rfl rfl ly_167 rfl (Nat.le_of_ble_eq_true rfl) (Nat.le_of_ble_eq_true rfl) (Nat.le_of_ble_eq_true rfl) (Nat.le_of_ble_eq_true rfl) ?_
    refine z_st (st' := [zv x_37]) rfl ?_
    cases H
    exact z_zret (M := M_X9_readPart) dX9_readPart_22 rfl (Nat.le_of_ble_eq_true rfl) (Nat.le_of_ble_eq_true rfl) ⟨rfl, rfl⟩
theorem c_X6_addRing (hl : l.stackTraces = false) {σ : SG} {this_0 : Nat} {length_0 : Int} {r : Bool} {σ' : SG} (h_this : isS this_0) (H : fA_addRing σ this_0 length_0 = some (r, σ')) : en_S l E M_X6_addRing 1 0 0 [vr this_0, vi length_0] σ (pS (some (zv r)) σ') := by
  unfold fA_addRing at H
  refine z_mk (lv := [some (vr this_0), some (vi length_0)]) m_X6_addRing rfl hl (Nat.le_of_ble_eq_true rfl) rfl ?_
  refine z_aload_n (M := M_X6_addRing) dX6_addRing_0 rfl ?_
  refine z_getI (M := M_X6_addRing) (ci := 9) (C := RX6) (T := TX6) (Nf := 5) (ty := tyX6) cl9 dX6_addRing_1 (ly_S h_this) 3 (by decide) t_72 rfl rfl ?_
  refine z_sipush (M := M_X6_addRing) dX6_addRing_4 (by decide +kernel) ?_
  rcases if_e H with ⟨h_1, H⟩ | ⟨h_1, H⟩
  · refine z_icmp_lt_f (M := M_X6_addRing) (tgt := 12) dX6_addRing_7 (by decide) rfl (by decide +kernel) h_1 ?_
    refine z_zconst (M := M_X6_addRing) (b := false) dX6_addRing_10 rfl ?_
    cases H
    exact z_zret (M := M_X6_addRing) dX6_addRing_11 rfl (Nat.le_of_ble_eq_true rfl) (Nat.le_of_ble_eq_true rfl) ⟨rfl, rfl⟩
  · refine z_icmp_lt_t (M := M_X6_addRing) (tgt := 12) dX6_addRing_7 (by decide) rfl (by decide +kernel) (Int.not_le.mp h_1) ?_
    refine z_aload_n (M := M_X6_addRing) dX6_addRing_12 rfl ?_
    refine z_getR (M := M_X6_addRing) (ci := 9) (C := RX6) (T := TX6) (Nf := 5) (ty := tyX6) cl9 dX6_addRing_13 (ly_S h_this) 0 (by decide) t_50 rfl ?_
    refine z_aload_n (M := M_X6_addRing) dX6_addRing_16 rfl ?_
    refine z_getI (M := M_X6_addRing) (ci := 9) (C := RX6) (T := TX6) (Nf := 5) (ty := tyX6) cl9 dX6_addRing_17 (ly_S h_this) 3 (by decide) t_72 rfl rfl ?_
    refine z_iload_n (M := M_X6_addRing) dX6_addRing_20 rfl ?_
    obtain ⟨σ_2, σ_2_e, hi_3, H⟩ := wa_e H
    refine z_iast (M := M_X6_addRing) dX6_addRing_21 (ly_Sp h_this) rfl rfl rfl hi_3 σ_2_e ?_
    refine z_aload_n (M := M_X6_addRing) dX6_addRing_22 rfl ?_
    refine z_dup (M := M_X6_addRing) dX6_addRing_23 rfl ?_
    refine z_getI (M := M_X6_addRing) (ci := 9) (C := RX6) (T := TX6) (Nf := 5) (ty := tyX6) cl9 dX6_addRing_24 (ly_S h_this) 3 (by decide) t_72 rfl rfl ?_
    refine z_iconst (M := M_X6_addRing) dX6_addRing_27 ?_
    refine z_iadd (M := M_X6_addRing) dX6_addRing_28 ?_
    obtain ⟨σ_4, σ_4_e, H⟩ := wf_e H
    refine z_putI (M := M_X6_addRing) (ci := 9) (C := RX6) (T := TX6) (Nf := 5) (ty := tyX6) cl9 dX6_addRing_29 (ly_S h_this) 3 (by decide) t_72 rfl rfl rfl rfl σ_4_e ?_
    refine z_zconst (M := M_X6_addRing) (b := true) dX6_addRing_32 rfl ?_
    cases H
    exact z_zret (M := M_X6_addRing) dX6_addRing_33 rfl (Nat.le_of_ble_eq_true rfl) (Nat.le_of_ble_eq_true rfl) ⟨rfl, rfl⟩
theorem c_X9_readRing (hl : l.stackTraces = false) {σ : SG} {r : Bool} {σ' : SG}  (H : fW_readRing σ = some (r, σ')) : en_S l E M_X9_readRing 3 0 0 [vr 167] σ (pS (some (zv r)) σ') := by
  unfold fW_readRing at H
  refine z_mk (lv := [some (vr 167)]) m_X9_readRing rfl hl (Nat.le_of_ble_eq_true rfl) rfl ?_
  refine z_aload_n (M := M_X9_readRing) dX9_readRing_0 rfl ?_
  obtain ⟨σ_2, hc_1, H⟩ := bd_e H
  refine z_callV (M := M_X9_readRing) (M' := M_X9_skipBlanks) (as := []) (rest := []) rfl rfl dX9_readRing_1 m_X9_skipBlanks t_776 t_778 s_4 (c_X9_skipBlanks hl  hc_1) rfl rfl ly_167 rfl (Nat.le_of_ble_eq_true rfl) (Nat.le_of_ble_eq_true rfl) (Nat.le_of_ble_eq_true rfl) (Nat.le_of_ble_eq_true rfl) ?_
  refine z_st (st' := []) rfl ?_
  refine z_aload_n (M := M_X9_readRing) dX9_readRing_4 rfl ?_
  obtain ⟨hs_3, H⟩ := ck_e H
  refine z_getV (M := M_X9_readRing) (ci := 12) (C := RX9) (T := TX9) (Nf := 12) (ty := tyX9) cl12 dX9_readRing_5 ly_167 4 (by decide) t_109 rfl rfl ?_
  refine z_iconst (M := M_X9_readRing) dX9_readRing_8 ?_
  obtain ⟨⟨x_6, σ_5⟩, hc_4, H⟩ := bd_e H
  refine z_callV (M := M_X9_readRing) (M' := M_X6_addRing) (as := [vi 0]) (rest := []) rfl rfl dX9_readRing_9 m_X6_addRing t_892 t_893 t_894 (c_X6_addRing hl hs_3 hc_4) rfl rfl (ly_S hs_3) rfl (Nat.le_of_ble_eq_true rfl) (Nat.le_of_ble_eq_true rfl) (Nat.le_of_ble_eq_true rfl) (Nat.le_of_ble_eq_true rfl) ?_
  refine z_st (st' := [zv x_6]) rfl ?_
  rcases if_e H with ⟨h_7, H⟩ | ⟨h_7, H⟩
  · refine z_zne_t (M := M_X9_readRing) (tgt := 22) dX9_readRing_12 (by decide) h_7 ?_
    obtain ⟨v_21, he_22, hk_23⟩ := bd_e H
    have J_24 : ∀ x_19 σ_20, v_21 = (x_19, σ_20) → YY l E M_X9_readRing 3 0 0 (pS (some (zv r)) σ') 48 [some (vr 167)] [zv x_19] σ_20 0 0 := by
      intro x_19 σ_20 e
      have H := hk_23
      rw [e] at H
      cases H
      exact z_zret (M := M_X9_readRing) dX9_readRing_48 rfl (Nat.le_of_ble_eq_true rfl) (Nat.le_of_ble_eq_true rfl) ⟨rfl, rfl⟩
    have H := he_22
    refine z_aload_n (M := M_X9_readRing) dX9_readRing_22 rfl ?_
    refine z_aload_n (M := M_X9_readRing) dX9_readRing_23 rfl ?_
    refine z_getI (M := M_X9_readRing) (ci := 12) (C := RX9) (T := TX9) (Nf := 12) (ty := tyX9) cl12 dX9_readRing_24 ly_167 6 (by decide) t_111 rfl rfl ?_
    obtain ⟨x_9, hc_8, H⟩ := bd_e H
    refine z_callV (M := M_X9_readRing) (M' := M_X9_signAt) (as := [vi (σ_5 kW_at 0)]) (rest := []) rfl rfl dX9_readRing_27 m_X9_signAt t_783 t_785 s_5 (c_X9_signAt hl  hc_8) rfl rfl ly_167 rfl (Nat.le_of_ble_eq_true rfl) (Nat.le_of_ble_eq_true rfl) (Nat.le_of_ble_eq_true rfl) (Nat.le_of_ble_eq_true rfl) ?_
    refine z_st (st' := [vi x_9]) rfl ?_
    refine z_bipush (M := M_X9_readRing) dX9_readRing_30 (by decide +kernel) ?_
    rcases if_e H with ⟨h_10, H⟩ | ⟨h_10, H⟩
    · refine z_icmp_ne_f (M := M_X9_readRing) (tgt := 44) dX9_readRing_32 (by decide) rfl (by decide +kernel) h_10 ?_
      refine z_aload_n (M := M_X9_readRing) dX9_readRing_35 rfl ?_
      refine z_bipush (M := M_X9_readRing) dX9_readRing_36 (by decide +kernel) ?_
      obtain ⟨⟨x_13, σ_12⟩, hc_11, H⟩ := bd_e H
      refine z_callV (M := M_X9_readRing) (M' := M_X9_openLevel) (as := [vi 8]) (rest := []) rfl rfl dX9_readRing_38 m_X9_openLevel t_879 t_881 s_12 (c_X9_openLevel hl  hc_11) rfl rfl ly_167 rfl (Nat.le_of_ble_eq_true rfl) (Nat.le_of_ble_eq_true rfl) (Nat.le_of_ble_eq_true rfl) (Nat.le_of_ble_eq_true rfl) ?_
      refine z_st (st' := [zv x_13]) rfl ?_
      refine z_goto (M := M_X9_readRing) (tgt := 48) dX9_readRing_41 (by decide) ?_
      exact J_24 _ _ (Option.some.inj H).symm
    · refine z_icmp_ne_t (M := M_X9_readRing) (tgt := 44) dX9_readRing_32 (by decide) rfl (by decide +kernel) h_10 ?_
      refine z_aload_n (M := M_X9_readRing) dX9_readRing_44 rfl ?_
      obtain ⟨⟨x_17, σ_16⟩, hc_15, H⟩ := bd_e H
      refine z_callV (M := M_X9_readRing) (M' := M_X9_unexpected) (as := []) (rest := []) rfl rfl dX9_readRing_45 m_X9_unexpected t_790 t_792 s_6 (c_X9_unexpected hl  hc_15) rfl rfl ly_167 rfl (Nat.le_of_ble_eq_true rfl) (Nat.le_of_ble_eq_true rfl) (Nat.le_of_ble_eq_true rfl) (Nat.le_of_ble_eq_true rfl) ?_
      refine z_st (st' := [zv x_17]) rfl ?_
      exact J_24 _ _ (Option.some.inj H).symm
  · refine z_zne_f (M := M_X9_readRing) (tgt := 22) dX9_readRing_12 (by decide) h_7 ?_
    refine z_aload_n (M := M_X9_readRing) dX9_readRing_15 rfl ?_
    refine z_bipush (M := M_X9_readRing) dX9_readRing_16 (by decide +kernel) ?_
    obtain ⟨⟨x_27, σ_26⟩, hc_25, H⟩ := bd_e H
    refine z_callV (M := M_X9_readRing) (M' := M_X9_fail) (as := [vi 7]) (rest := []) rfl rfl dX9_readRing_18 m_X9_fail t_797 t_799 s_7 (c_X9_fail hl  hc_25) rfl rfl ly_167 rfl (Nat.le_of_ble_eq_true rfl) (Nat.le_of_ble_eq_true rfl) (Nat.le_of_ble_eq_true rfl) (Nat.le_of_ble_eq_true rfl) ?_
    refine z_st (st' := [zv x_27]) rfl ?_
    cases H
    exact z_zret (M := M_X9_readRing) dX9_readRing_21 rfl (Nat.le_of_ble_eq_true rfl) (Nat.le_of_ble_eq_true rfl) ⟨rfl, rfl⟩
theorem c_X10_wordFor (hl : l.stackTraces = false) {σ : SG} {kind_0 : Int} {r : Nat}  (H : fO_wordFor kind_0 = r) : en_S l E M_X10_wordFor 1 0 0 [vi kind_0] σ (pS (some (vr r)) σ) := by
  unfold fO_wordFor at H
  refine z_mk (lv := [some (vi kind_0)]) m_X10_wordFor rfl hl (Nat.le_of_ble_eq_true rfl) rfl ?_
  refine z_iload_n (M := M_X10_wordFor) dX10_wordFor_0 rfl ?_
  rcases if_e H with ⟨h_1, H⟩ | ⟨h_1, H⟩
  · refine z_tabIn (M := M_X10_wordFor) (tgt := 40) (off := 39) dX10_wordFor_1 h_1 (by decide) (by decide) rfl (by decide) ?_
    refine z_ldcS (M := M_X10_wordFor) (i := 0) (w := 1) (tx := "POINT") dX10_wordFor_40 (by decide +kernel) (by decide) rfl ?_
    cases H
    exact z_aret (M := M_X10_wordFor) dX10_wordFor_42 rfl (Nat.le_of_ble_eq_true rfl) (Nat.le_of_ble_eq_true rfl) ⟨rfl, rfl⟩
  · rcases if_e H with ⟨h_2, H⟩ | ⟨h_2, H⟩
    · refine z_tabIn (M := M_X10_wordFor) (tgt := 43) (off := 42) dX10_wordFor_1 h_2 (by decide) (by decide) rfl (by decide) ?_
      refine z_ldcS (M := M_X10_wordFor) (i := 1) (w := 2) (tx := "LINESTRING") dX10_wordFor_43 (by decide +kernel) (by decide) rfl ?_
      cases H
      exact z_aret (M := M_X10_wordFor) dX10_wordFor_45 rfl (Nat.le_of_ble_eq_true rfl) (Nat.le_of_ble_eq_true rfl) ⟨rfl, rfl⟩
    · rcases if_e H with ⟨h_3, H⟩ | ⟨h_3, H⟩
      · refine z_tabIn (M := M_X10_wordFor) (tgt := 46) (off := 45) dX10_wordFor_1 h_3 (by decide) (by decide) rfl (by decide) ?_
        refine z_ldcS (M := M_X10_wordFor) (i := 2) (w := 3) (tx := "POLYGON") dX10_wordFor_46 (by decide +kernel) (by decide) rfl ?_
        cases H
        exact z_aret (M := M_X10_wordFor) dX10_wordFor_48 rfl (Nat.le_of_ble_eq_true rfl) (Nat.le_of_ble_eq_true rfl) ⟨rfl, rfl⟩
      · rcases if_e H with ⟨h_4, H⟩ | ⟨h_4, H⟩
        · refine z_tabIn (M := M_X10_wordFor) (tgt := 49) (off := 48) dX10_wordFor_1 h_4 (by decide) (by decide) rfl (by decide) ?_
          refine z_ldcS (M := M_X10_wordFor) (i := 3) (w := 4) (tx := "MULTIPOINT") dX10_wordFor_49 (by decide +kernel) (by decide) rfl ?_
          cases H
          exact z_aret (M := M_X10_wordFor) dX10_wordFor_51 rfl (Nat.le_of_ble_eq_true rfl) (Nat.le_of_ble_eq_true rfl) ⟨rfl, rfl⟩
        · rcases if_e H with ⟨h_5, H⟩ | ⟨h_5, H⟩
          · refine z_tabIn (M := M_X10_wordFor) (tgt := 52) (off := 51) dX10_wordFor_1 h_5 (by decide) (by decide) rfl (by decide) ?_
            refine z_ldcS (M := M_X10_wordFor) (i := 4) (w := 5) (tx := "MULTILINESTRING") dX10_wordFor_52 (by decide +kernel) (by decide) rfl ?_
            cases H
            exact z_aret (M := M_X10_wordFor) dX10_wordFor_54 rfl (Nat.le_of_ble_eq_true rfl) (Nat.le_of_ble_eq_true rfl) ⟨rfl, rfl⟩
          · rcases if_e H with ⟨h_6, H⟩ | ⟨h_6, H⟩
            · refine z_tabIn (M := M_X10_wordFor) (tgt := 55) (off := 54) dX10_wordFor_1 h_6 (by decide) (by decide) rfl (by decide) ?_
              refine z_ldcS (M := M_X10_wordFor) (i := 5) (w := 6) (tx := "MULTIPOLYGON") dX10_wordFor_55 (by decide +kernel) (by decide) rfl ?_
              cases H
              exact z_aret (M := M_X10_wordFor) dX10_wordFor_57 rfl (Nat.le_of_ble_eq_true rfl) (Nat.le_of_ble_eq_true rfl) ⟨rfl, rfl⟩
            · refine z_tabOut (M := M_X10_wordFor) (tgt := 58) dX10_wordFor_1 rfl (by omega) (by decide) ?_
              refine z_ldcS (M := M_X10_wordFor) (i := 6) (w := 7) (tx := "GEOMETRYCOLLECTION") dX10_wordFor_58 (by decide +kernel) (by decide) rfl ?_
              cases H
              exact z_aret (M := M_X10_wordFor) dX10_wordFor_60 rfl (Nat.le_of_ble_eq_true rfl) (Nat.le_of_ble_eq_true rfl) ⟨rfl, rfl⟩
theorem c_X9_kindOfWord (hl : l.stackTraces = false) {σ : SG} {r : Int}  (H : fW_kindOfWord σ = some r) : en_S l E M_X9_kindOfWord 7 0 0 [vr 167] σ (pS (some (vi r)) σ) := by
  unfold fW_kindOfWord at H
  refine z_mk (lv := [some (vr 167), none]) m_X9_kindOfWord rfl hl (Nat.le_of_ble_eq_true rfl) rfl ?_
  refine z_iconst (M := M_X9_kindOfWord) dX9_kindOfWord_0 ?_
  refine z_istore_n (M := M_X9_kindOfWord) (lv' := [some (vr 167), some (vi 1)]) dX9_kindOfWord_1 (Nat.le_of_ble_eq_true rfl) rfl rfl ?_
  obtain ⟨rl_5, hw_2, hk_3, hk_4⟩ := bx_e H
  have J_17 : ∀ kind_16, rl_5 = (.inl kind_16) → YY l E M_X9_kindOfWord 7 0 0 (pS (some (vi r)) σ) 27 [some (vr 167), some (vi kind_16)] [] σ 0 0 := by
    intro kind_16 e
    have H := hk_3 _ e
    refine z_iconst (M := M_X9_kindOfWord) dX9_kindOfWord_27 ?_
    cases H
    exact z_iret (M := M_X9_kindOfWord) dX9_kindOfWord_28 rfl (Nat.le_of_ble_eq_true rfl) (Nat.le_of_ble_eq_true rfl) ⟨rfl, rfl⟩
  refine whl_go hw_2 (fun kind_1 => YY l E M_X9_kindOfWord 7 0 0 (pS (some (vi r)) σ) 2 [some (vr 167), some (vi kind_1)] [] σ 0 0) ?_
  rintro kind_1 o_6 H K_7 K_8
  refine z_iload_n (M := M_X9_kindOfWord) dX9_kindOfWord_2 rfl ?_
  refine z_bipush (M := M_X9_kindOfWord) dX9_kindOfWord_3 (by decide +kernel) ?_
  rcases if_e H with ⟨h_9, H⟩ | ⟨h_9, H⟩
  · refine z_icmp_gt_f (M := M_X9_kindOfWord) (tgt := 27) dX9_kindOfWord_5 (by decide) rfl (by decide +kernel) h_9 ?_
    refine z_aload_n (M := M_X9_kindOfWord) dX9_kindOfWord_8 rfl ?_
    refine z_iload_n (M := M_X9_kindOfWord) dX9_kindOfWord_9 rfl ?_
    obtain ⟨hs_10, H⟩ := ck_e H
    refine z_callS (M := M_X9_kindOfWord) (M' := M_X10_wordFor) (as := [vi kind_1]) (rest := [vr 167]) rfl rfl dX9_kindOfWord_10 m_X10_wordFor t_805 t_806 (c_X10_wordFor hl  rfl) rfl rfl (Nat.le_of_ble_eq_true rfl) (Nat.le_of_ble_eq_true rfl) (Nat.le_of_ble_eq_true rfl) (Nat.le_of_ble_eq_true rfl) ?_
    refine z_st (st' := [vr (fO_wordFor kind_1), vr 167]) rfl ?_
    obtain ⟨x_12, hc_11, H⟩ := bd_e H
    refine z_callV (M := M_X9_kindOfWord) (M' := M_X9_isWord) (as := [vr (fO_wordFor kind_1)]) (rest := []) rfl rfl dX9_kindOfWord_13 m_X9_isWord t_815 t_817 s_9 (c_X9_isWord hl hs_10 hc_11) rfl rfl ly_167 rfl (Nat.le_of_ble_eq_true rfl) (Nat.le_of_ble_eq_true rfl) (Nat.le_of_ble_eq_true rfl) (Nat.le_of_ble_eq_true rfl) ?_
    refine z_st (st' := [zv x_12]) rfl ?_
    rcases if_e H with ⟨h_13, H⟩ | ⟨h_13, H⟩
    · refine z_zeq_f (M := M_X9_kindOfWord) (tgt := 21) dX9_kindOfWord_16 (by decide) h_13 ?_
      refine z_iload_n (M := M_X9_kindOfWord) dX9_kindOfWord_19 rfl ?_
      have H := congrArg some (hk_4 _ ((K_8 _ (Option.some.inj H).symm).symm))
      cases H
      exact z_iret (M := M_X9_kindOfWord) dX9_kindOfWord_20 rfl (Nat.le_of_ble_eq_true rfl) (Nat.le_of_ble_eq_true rfl) ⟨rfl, rfl⟩
    · refine z_zeq_t (M := M_X9_kindOfWord) (tgt := 21) dX9_kindOfWord_16 (by decide) h_13 ?_
      refine z_iinc (M := M_X9_kindOfWord) (lv' := [some (vr 167), some (vi (kind_1 + 1))]) dX9_kindOfWord_21 rfl (Nat.le_of_ble_eq_true rfl) rfl rfl ?_
      refine z_goto (M := M_X9_kindOfWord) (tgt := 2) dX9_kindOfWord_24 (by decide) ?_
      exact K_7 _ (Option.some.inj H).symm
  · refine z_icmp_gt_t (M := M_X9_kindOfWord) (tgt := 27) dX9_kindOfWord_5 (by decide) rfl (by decide +kernel) (Int.not_le.mp h_9) ?_
    exact J_17 _ (K_8 _ (Option.some.inj H).symm).symm
theorem c_X9_readShape (hl : l.stackTraces = false) {σ : SG} {r : Bool} {σ' : SG}  (H : fW_readShape σ = some (r, σ')) : en_S l E M_X9_readShape 8 0 0 [vr 167] σ (pS (some (zv r)) σ') := by
  unfold fW_readShape at H
  refine z_mk (lv := [some (vr 167), none]) m_X9_readShape rfl hl (Nat.le_of_ble_eq_true rfl) rfl ?_
  refine z_aload_n (M := M_X9_readShape) dX9_readShape_0 rfl ?_
  obtain ⟨σ_2, hc_1, H⟩ := bd_e H
  refine z_callV (M := M_X9_readShape) (M' := M_X9_skipBlanks) (as := []) (rest := []) rfl rfl dX9_readShape_1 m_X9_skipBlanks t_776 t_778 s_4 (c_X9_skipBlanks hl  hc_1) rfl rfl ly_167 rfl (Nat.le_of_ble_eq_true rfl) (Nat.le_of_ble_eq_true rfl) (Nat.le_of_ble_eq_true rfl) (Nat.le_of_ble_eq_true rfl) ?_
  refine z_st (st' := []) rfl ?_
  refine z_aload_n (M := M_X9_readShape) dX9_readShape_4 rfl ?_
  refine z_aload_n (M := M_X9_readShape) dX9_readShape_5 rfl ?_
  refine z_getI (M := M_X9_readShape) (ci := 12) (C := RX9) (T := TX9) (Nf := 12) (ty := tyX9) cl12 dX9_readShape_6 ly_167 6 (by decide) t_111 rfl rfl ?_
  obtain ⟨x_4, hc_3, H⟩ := bd_e H
  refine z_callV (M := M_X9_readShape) (M' := M_X9_signAt) (as := [vi (σ_2 kW_at 0)]) (rest := []) rfl rfl dX9_readShape_9 m_X9_signAt t_783 t_785 s_5 (c_X9_signAt hl  hc_3) rfl rfl ly_167 rfl (Nat.le_of_ble_eq_true rfl) (Nat.le_of_ble_eq_true rfl) (Nat.le_of_ble_eq_true rfl) (Nat.le_of_ble_eq_true rfl) ?_
  refine z_st (st' := [vi x_4]) rfl ?_
  refine z_callS (M := M_X9_readShape) (M' := M_X9_isLetter) (as := [vi x_4]) (rest := []) rfl rfl dX9_readShape_12 m_X9_isLetter t_787 t_788 (c_X9_isLetter hl  rfl) rfl rfl (Nat.le_of_ble_eq_true rfl) (Nat.le_of_ble_eq_true rfl) (Nat.le_of_ble_eq_true rfl) (Nat.le_of_ble_eq_true rfl) ?_
  refine z_st (st' := [zv (fW_isLetter x_4)]) rfl ?_
  rcases if_e H with ⟨h_5, H⟩ | ⟨h_5, H⟩
  · refine z_zne_t (M := M_X9_readShape) (tgt := 23) dX9_readShape_15 (by decide) h_5 ?_
    refine z_aload_n (M := M_X9_readShape) dX9_readShape_23 rfl ?_
    obtain ⟨x_7, hc_6, H⟩ := bd_e H
    refine z_callV (M := M_X9_readShape) (M' := M_X9_kindOfWord) (as := []) (rest := []) rfl rfl dX9_readShape_24 m_X9_kindOfWord t_801 t_803 s_8 (c_X9_kindOfWord hl  hc_6) rfl rfl ly_167 rfl (Nat.le_of_ble_eq_true rfl) (Nat.le_of_ble_eq_true rfl) (Nat.le_of_ble_eq_true rfl) (Nat.le_of_ble_eq_true rfl) ?_
    refine z_st (st' := [vi x_7]) rfl ?_
    refine z_istore_n (M := M_X9_readShape) (lv' := [some (vr 167), some (vi x_7)]) dX9_readShape_27 (Nat.le_of_ble_eq_true rfl) rfl rfl ?_
    refine z_iload_n (M := M_X9_readShape) dX9_readShape_28 rfl ?_
    rcases if_e H with ⟨h_8, H⟩ | ⟨h_8, H⟩
    · refine z_if_ne_f (M := M_X9_readShape) (tgt := 38) dX9_readShape_29 (by decide) rfl h_8 ?_
      refine z_aload_n (M := M_X9_readShape) dX9_readShape_32 rfl ?_
      refine z_iconst (M := M_X9_readShape) dX9_readShape_33 ?_
      obtain ⟨⟨x_11, σ_10⟩, hc_9, H⟩ := bd_e H
      refine z_callV (M := M_X9_readShape) (M' := M_X9_fail) (as := [vi 2]) (rest := []) rfl rfl dX9_readShape_34 m_X9_fail t_797 t_799 s_7 (c_X9_fail hl  hc_9) rfl rfl ly_167 rfl (Nat.le_of_ble_eq_true rfl) (Nat.le_of_ble_eq_true rfl) (Nat.le_of_ble_eq_true rfl) (Nat.le_of_ble_eq_true rfl) ?_
      refine z_st (st' := [zv x_11]) rfl ?_
      cases H
      exact z_zret (M := M_X9_readShape) dX9_readShape_37 rfl (Nat.le_of_ble_eq_true rfl) (Nat.le_of_ble_eq_true rfl) ⟨rfl, rfl⟩
    · refine z_if_ne_t (M := M_X9_readShape) (tgt := 38) dX9_readShape_29 (by decide) rfl h_8 ?_
      rcases if_e H with ⟨h_39, H⟩ | ⟨h_39, H⟩
      · have J_40 : YY l E M_X9_readShape 8 0 0 (pS (some (zv r)) σ') 53 [some (vr 167), some (vi x_7)] [] σ_2 0 0 := by
          refine z_aload_n (M := M_X9_readShape) dX9_readShape_53 rfl ?_
          refine z_bipush (M := M_X9_readShape) dX9_readShape_54 (by decide +kernel) ?_
          obtain ⟨⟨x_14, σ_13⟩, hc_12, H⟩ := bd_e H
          refine z_callV (M := M_X9_readShape) (M' := M_X9_fail) (as := [vi 6]) (rest := []) rfl rfl dX9_readShape_56 m_X9_fail t_797 t_799 s_7 (c_X9_fail hl  hc_12) rfl rfl ly_167 rfl (Nat.le_of_ble_eq_true rfl) (Nat.le_of_ble_eq_true rfl) (Nat.le_of_ble_eq_true rfl) (Nat.le_of_ble_eq_true rfl) ?_
          refine z_st (st' := [zv x_14]) rfl ?_
          cases H
          exact z_zret (M := M_X9_readShape) dX9_readShape_59 rfl (Nat.le_of_ble_eq_true rfl) (Nat.le_of_ble_eq_true rfl) ⟨rfl, rfl⟩
        refine z_iload_n (M := M_X9_readShape) dX9_readShape_38 rfl ?_
        refine z_bipush (M := M_X9_readShape) dX9_readShape_39 (by decide +kernel) ?_
        by_cases h_42 : (w32 x_7) = 7
        · refine z_icmp_ne_f (M := M_X9_readShape) (tgt := 60) dX9_readShape_41 (by decide) rfl (by decide +kernel) h_42 ?_
          refine z_aload_n (M := M_X9_readShape) dX9_readShape_44 rfl ?_
          refine z_getI (M := M_X9_readShape) (ci := 12) (C := RX9) (T := TX9) (Nf := 12) (ty := tyX9) cl12 dX9_readShape_45 ly_167 8 (by decide) t_113 rfl rfl ?_
          refine z_bipush (M := M_X9_readShape) dX9_readShape_48 (by decide +kernel) ?_
          by_cases h_43 : 50 ≤ (w32 (σ_2 kW_collections 0))
          · refine z_icmp_lt_f (M := M_X9_readShape) (tgt := 60) dX9_readShape_50 (by decide) rfl (by decide +kernel) h_43 ?_
            exact J_40
          · refine z_icmp_lt_t (M := M_X9_readShape) (tgt := 60) dX9_readShape_50 (by decide) rfl (by decide +kernel) (Int.not_le.mp h_43) ?_
            exact absurd h_39 (fun q => h_43 q.2)
        · refine z_icmp_ne_t (M := M_X9_readShape) (tgt := 60) dX9_readShape_41 (by decide) rfl (by decide +kernel) h_42 ?_
          exact absurd h_39 (fun q => h_42 q.1)
      · have J_41 : YY l E M_X9_readShape 8 0 0 (pS (some (zv r)) σ') 60 [some (vr 167), some (vi x_7)] [] σ_2 0 0 := by
          refine z_aload_n (M := M_X9_readShape) dX9_readShape_60 rfl ?_
          refine z_aload_n (M := M_X9_readShape) dX9_readShape_61 rfl ?_
          obtain ⟨x_16, hc_15, H⟩ := bd_e H
          refine z_callV (M := M_X9_readShape) (M' := M_X9_behindWord) (as := []) (rest := [vr 167]) rfl rfl dX9_readShape_62 m_X9_behindWord t_819 t_821 s_10 (c_X9_behindWord hl  hc_15) rfl rfl ly_167 rfl (Nat.le_of_ble_eq_true rfl) (Nat.le_of_ble_eq_true rfl) (Nat.le_of_ble_eq_true rfl) (Nat.le_of_ble_eq_true rfl) ?_
          refine z_st (st' := [vi x_16, vr 167]) rfl ?_
          obtain ⟨σ_17, σ_17_e, H⟩ := wf_e H
          refine z_putI (M := M_X9_readShape) (ci := 12) (C := RX9) (T := TX9) (Nf := 12) (ty := tyX9) cl12 dX9_readShape_65 ly_167 6 (by decide) t_111 rfl rfl rfl rfl σ_17_e ?_
          refine z_aload_n (M := M_X9_readShape) dX9_readShape_68 rfl ?_
          obtain ⟨σ_19, hc_18, H⟩ := bd_e H
          refine z_callV (M := M_X9_readShape) (M' := M_X9_skipBlanks) (as := []) (rest := []) rfl rfl dX9_readShape_69 m_X9_skipBlanks t_776 t_778 s_4 (c_X9_skipBlanks hl  hc_18) rfl rfl ly_167 rfl (Nat.le_of_ble_eq_true rfl) (Nat.le_of_ble_eq_true rfl) (Nat.le_of_ble_eq_true rfl) (Nat.le_of_ble_eq_true rfl) ?_
          refine z_st (st' := []) rfl ?_
          obtain ⟨v_35, he_36, hk_37⟩ := bd_e H
          have J_38 : ∀ x_33 σ_34, v_35 = (x_33, σ_34) → YY l E M_X9_readShape 8 0 0 (pS (some (zv r)) σ') 98 [some (vr 167), some (vi x_7)] [zv x_33] σ_34 0 0 := by
            intro x_33 σ_34 e
            have H := hk_37
            rw [e] at H
            cases H
            exact z_zret (M := M_X9_readShape) dX9_readShape_98 rfl (Nat.le_of_ble_eq_true rfl) (Nat.le_of_ble_eq_true rfl) ⟨rfl, rfl⟩
          have H := he_36
          refine z_aload_n (M := M_X9_readShape) dX9_readShape_72 rfl ?_
          obtain ⟨hs_20, H⟩ := ck_e H
          refine z_getV (M := M_X9_readShape) (ci := 12) (C := RX9) (T := TX9) (Nf := 12) (ty := tyX9) cl12 dX9_readShape_73 ly_167 4 (by decide) t_109 rfl rfl ?_
          refine z_iload_n (M := M_X9_readShape) dX9_readShape_76 rfl ?_
          refine z_iconst (M := M_X9_readShape) dX9_readShape_77 ?_
          obtain ⟨⟨x_23, σ_22⟩, hc_21, H⟩ := bd_e H
          refine z_callV (M := M_X9_readShape) (M' := M_X6_addShape) (as := [vi x_7, vi 0]) (rest := []) rfl rfl dX9_readShape_78 m_X6_addShape t_871 t_872 t_873 (c_X6_addShape hl hs_20 hc_21) rfl rfl (ly_S hs_20) rfl (Nat.le_of_ble_eq_true rfl) (Nat.le_of_ble_eq_true rfl) (Nat.le_of_ble_eq_true rfl) (Nat.le_of_ble_eq_true rfl) ?_
          refine z_st (st' := [zv x_23]) rfl ?_
          rcases if_e H with ⟨h_24, H⟩ | ⟨h_24, H⟩
          · refine z_zeq_f (M := M_X9_readShape) (tgt := 92) dX9_readShape_81 (by decide) h_24 ?_
            refine z_aload_n (M := M_X9_readShape) dX9_readShape_84 rfl ?_
            refine z_iload_n (M := M_X9_readShape) dX9_readShape_85 rfl ?_
            obtain ⟨⟨x_27, σ_26⟩, hc_25, H⟩ := bd_e H
            refine z_callV (M := M_X9_readShape) (M' := M_X9_readEmptyOrBracket) (as := [vi x_7]) (rest := []) rfl rfl dX9_readShape_86 m_X9_readEmptyOrBracket t_875 t_877 s_11 (c_X9_readEmptyOrBracket hl  hc_25) rfl rfl ly_167 rfl (Nat.le_of_ble_eq_true rfl) (Nat.le_of_ble_eq_true rfl) (Nat.le_of_ble_eq_true rfl) (Nat.le_of_ble_eq_true rfl) ?_
            refine z_st (st' := [zv x_27]) rfl ?_
            refine z_goto (M := M_X9_readShape) (tgt := 98) dX9_readShape_89 (by decide) ?_
            exact J_38 _ _ (Option.some.inj H).symm
          · refine z_zeq_t (M := M_X9_readShape) (tgt := 92) dX9_readShape_81 (by decide) h_24 ?_
            refine z_aload_n (M := M_X9_readShape) dX9_readShape_92 rfl ?_
            refine z_bipush (M := M_X9_readShape) dX9_readShape_93 (by decide +kernel) ?_
            obtain ⟨⟨x_31, σ_30⟩, hc_29, H⟩ := bd_e H
            refine z_callV (M := M_X9_readShape) (M' := M_X9_fail) (as := [vi 7]) (rest := []) rfl rfl dX9_readShape_95 m_X9_fail t_797 t_799 s_7 (c_X9_fail hl  hc_29) rfl rfl ly_167 rfl (Nat.le_of_ble_eq_true rfl) (Nat.le_of_ble_eq_true rfl) (Nat.le_of_ble_eq_true rfl) (Nat.le_of_ble_eq_true rfl) ?_
            refine z_st (st' := [zv x_31]) rfl ?_
            exact J_38 _ _ (Option.some.inj H).symm
        refine z_iload_n (M := M_X9_readShape) dX9_readShape_38 rfl ?_
        refine z_bipush (M := M_X9_readShape) dX9_readShape_39 (by decide +kernel) ?_
        by_cases h_44 : (w32 x_7) = 7
        · refine z_icmp_ne_f (M := M_X9_readShape) (tgt := 60) dX9_readShape_41 (by decide) rfl (by decide +kernel) h_44 ?_
          refine z_aload_n (M := M_X9_readShape) dX9_readShape_44 rfl ?_
          refine z_getI (M := M_X9_readShape) (ci := 12) (C := RX9) (T := TX9) (Nf := 12) (ty := tyX9) cl12 dX9_readShape_45 ly_167 8 (by decide) t_113 rfl rfl ?_
          refine z_bipush (M := M_X9_readShape) dX9_readShape_48 (by decide +kernel) ?_
          by_cases h_45 : 50 ≤ (w32 (σ_2 kW_collections 0))
          · refine z_icmp_lt_f (M := M_X9_readShape) (tgt := 60) dX9_readShape_50 (by decide) rfl (by decide +kernel) h_45 ?_
            exact absurd ⟨h_44, h_45⟩ h_39
          · refine z_icmp_lt_t (M := M_X9_readShape) (tgt := 60) dX9_readShape_50 (by decide) rfl (by decide +kernel) (Int.not_le.mp h_45) ?_
            exact J_41
        · refine z_icmp_ne_t (M := M_X9_readShape) (tgt := 60) dX9_readShape_41 (by decide) rfl (by decide +kernel) h_44 ?_
          exact J_41
  · refine z_zne_f (M := M_X9_readShape) (tgt := 23) dX9_readShape_15 (by decide) h_5 ?_
    refine z_aload_n (M := M_X9_readShape) dX9_readShape_18 rfl ?_
    obtain ⟨⟨x_48, σ_47⟩, hc_46, H⟩ := bd_e H
    refine z_callV (M := M_X9_readShape) (M' := M_X9_unexpected) (as := []) (rest := []) rfl rfl dX9_readShape_19 m_X9_unexpected t_790 t_792 s_6 (c_X9_unexpected hl  hc_46) rfl rfl ly_167 rfl (Nat.le_of_ble_eq_true rfl) (Nat.le_of_ble_eq_true rfl) (Nat.le_of_ble_eq_true rfl) (Nat.le_of_ble_eq_true rfl) ?_
    refine z_st (st' := [zv x_48]) rfl ?_
    cases H
    exact z_zret (M := M_X9_readShape) dX9_readShape_22 rfl (Nat.le_of_ble_eq_true rfl) (Nat.le_of_ble_eq_true rfl) ⟨rfl, rfl⟩
theorem c_X9_readItem (hl : l.stackTraces = false) {σ : SG} {r : Bool} {σ' : SG}  (H : fW_readItem σ = some (r, σ')) : en_S l E M_X9_readItem 9 0 0 [vr 167] σ (pS (some (zv r)) σ') := by
  unfold fW_readItem at H
  refine z_mk (lv := [some (vr 167), none]) m_X9_readItem rfl hl (Nat.le_of_ble_eq_true rfl) rfl ?_
  refine z_aload_n (M := M_X9_readItem) dX9_readItem_0 rfl ?_
  refine z_getR (M := M_X9_readItem) (ci := 12) (C := RX9) (T := TX9) (Nf := 12) (ty := tyX9) cl12 dX9_readItem_1 ly_167 2 (by decide) t_107 rfl ?_
  refine z_aload_n (M := M_X9_readItem) dX9_readItem_4 rfl ?_
  refine z_getI (M := M_X9_readItem) (ci := 12) (C := RX9) (T := TX9) (Nf := 12) (ty := tyX9) cl12 dX9_readItem_5 ly_167 7 (by decide) t_112 rfl rfl ?_
  refine z_iconst (M := M_X9_readItem) dX9_readItem_8 ?_
  refine z_isub (M := M_X9_readItem) dX9_readItem_9 ?_
  obtain ⟨x_1, x_1_e, hi_2, H⟩ := rd_e H
  refine z_iald (M := M_X9_readItem) dX9_readItem_10 ly_168 rfl rfl rfl hi_2 x_1_e ?_
  refine z_istore_n (M := M_X9_readItem) (lv' := [some (vr 167), some (vi x_1)]) dX9_readItem_11 (Nat.le_of_ble_eq_true rfl) rfl rfl ?_
  refine z_aload_n (M := M_X9_readItem) dX9_readItem_12 rfl ?_
  obtain ⟨hs_3, H⟩ := ck_e H
  refine z_getV (M := M_X9_readItem) (ci := 12) (C := RX9) (T := TX9) (Nf := 12) (ty := tyX9) cl12 dX9_readItem_13 ly_167 4 (by decide) t_109 rfl rfl ?_
  refine z_getR (M := M_X9_readItem) (ci := 9) (C := RX6) (T := TX6) (Nf := 5) (ty := tyX6) cl9 dX9_readItem_16 (ly_S hs_3) 0 (by decide) t_54 rfl ?_
  refine z_aload_n (M := M_X9_readItem) dX9_readItem_19 rfl ?_
  refine z_getR (M := M_X9_readItem) (ci := 12) (C := RX9) (T := TX9) (Nf := 12) (ty := tyX9) cl12 dX9_readItem_20 ly_167 3 (by decide) t_108 rfl ?_
  refine z_aload_n (M := M_X9_readItem) dX9_readItem_23 rfl ?_
  refine z_getI (M := M_X9_readItem) (ci := 12) (C := RX9) (T := TX9) (Nf := 12) (ty := tyX9) cl12 dX9_readItem_24 ly_167 7 (by decide) t_112 rfl rfl ?_
  refine z_iconst (M := M_X9_readItem) dX9_readItem_27 ?_
  refine z_isub (M := M_X9_readItem) dX9_readItem_28 ?_
  obtain ⟨x_4, x_4_e, hi_5, H⟩ := rd_e H
  refine z_iald (M := M_X9_readItem) dX9_readItem_29 ly_169 rfl rfl rfl hi_5 x_4_e ?_
  refine z_dup2 (M := M_X9_readItem) dX9_readItem_30 rfl rfl ?_
  obtain ⟨x_6, x_6_e, hi_7, H⟩ := rd_e H
  refine z_iald (M := M_X9_readItem) dX9_readItem_31 (ly_Sp hs_3) rfl rfl rfl hi_7 x_6_e ?_
  refine z_iconst (M := M_X9_readItem) dX9_readItem_32 ?_
  refine z_iadd (M := M_X9_readItem) dX9_readItem_33 ?_
  obtain ⟨σ_8, σ_8_e, hi_9, H⟩ := wa_e H
  refine z_iast (M := M_X9_readItem) dX9_readItem_34 (ly_Sp hs_3) rfl rfl rfl hi_9 σ_8_e ?_
  refine z_iload_n (M := M_X9_readItem) dX9_readItem_35 rfl ?_
  rcases if_e H with ⟨h_10, H⟩ | ⟨h_10, H⟩
  · refine z_tabIn (M := M_X9_readItem) (tgt := 72) (off := 36) dX9_readItem_36 h_10 (by decide) (by decide) rfl (by decide) ?_
    refine z_aload_n (M := M_X9_readItem) dX9_readItem_72 rfl ?_
    obtain ⟨⟨x_13, σ_12⟩, hc_11, H⟩ := bd_e H
    refine z_callV (M := M_X9_readItem) (M' := M_X9_readRing) (as := []) (rest := []) rfl rfl dX9_readItem_73 m_X9_readRing t_888 t_890 s_14 (c_X9_readRing hl  hc_11) rfl rfl ly_167 rfl (Nat.le_of_ble_eq_true rfl) (Nat.le_of_ble_eq_true rfl) (Nat.le_of_ble_eq_true rfl) (Nat.le_of_ble_eq_true rfl) ?_
    refine z_st (st' := [zv x_13]) rfl ?_
    cases H
    exact z_zret (M := M_X9_readItem) dX9_readItem_76 rfl (Nat.le_of_ble_eq_true rfl) (Nat.le_of_ble_eq_true rfl) ⟨rfl, rfl⟩
  · rcases if_e H with ⟨h_14, H⟩ | ⟨h_14, H⟩
    · rcases h_14 with h_14 | h_14 | h_14
      · refine z_tabIn (M := M_X9_readItem) (tgt := 77) (off := 41) dX9_readItem_36 h_14 (by decide) (by decide) rfl (by decide) ?_
        refine z_aload_n (M := M_X9_readItem) dX9_readItem_77 rfl ?_
        refine z_iload_n (M := M_X9_readItem) dX9_readItem_78 rfl ?_
        refine z_iconst (M := M_X9_readItem) dX9_readItem_79 ?_
        refine z_isub (M := M_X9_readItem) dX9_readItem_80 ?_
        obtain ⟨⟨x_17, σ_16⟩, hc_15, H⟩ := bd_e H
        refine z_callV (M := M_X9_readItem) (M' := M_X9_readPart) (as := [vi (x_1 - 3)]) (rest := []) rfl rfl dX9_readItem_81 m_X9_readPart t_896 t_898 s_15 (c_X9_readPart hl  hc_15) rfl rfl ly_167 rfl (Nat.le_of_ble_eq_true rfl) (Nat.le_of_ble_eq_true rfl) (Nat.le_of_ble_eq_true rfl) (Nat.le_of_ble_eq_true rfl) ?_
        refine z_st (st' := [zv x_17]) rfl ?_
        cases H
        exact z_zret (M := M_X9_readItem) dX9_readItem_84 rfl (Nat.le_of_ble_eq_true rfl) (Nat.le_of_ble_eq_true rfl) ⟨rfl, rfl⟩
      · refine z_tabIn (M := M_X9_readItem) (tgt := 77) (off := 41) dX9_readItem_36 h_14 (by decide) (by decide) rfl (by decide) ?_
        refine z_aload_n (M := M_X9_readItem) dX9_readItem_77 rfl ?_
        refine z_iload_n (M := M_X9_readItem) dX9_readItem_78 rfl ?_
        refine z_iconst (M := M_X9_readItem) dX9_readItem_79 ?_
        refine z_isub (M := M_X9_readItem) dX9_readItem_80 ?_
        obtain ⟨⟨x_17, σ_16⟩, hc_15, H⟩ := bd_e H
        refine z_callV (M := M_X9_readItem) (M' := M_X9_readPart) (as := [vi (x_1 - 3)]) (rest := []) rfl rfl dX9_readItem_81 m_X9_readPart t_896 t_898 s_15 (c_X9_readPart hl  hc_15) rfl rfl ly_167 rfl (Nat.le_of_ble_eq_true rfl) (Nat.le_of_ble_eq_true rfl) (Nat.le_of_ble_eq_true rfl) (Nat.le_of_ble_eq_true rfl) ?_
        refine z_st (st' := [zv x_17]) rfl ?_
        cases H
        exact z_zret (M := M_X9_readItem) dX9_readItem_84 rfl (Nat.le_of_ble_eq_true rfl) (Nat.le_of_ble_eq_true rfl) ⟨rfl, rfl⟩
      · refine z_tabIn (M := M_X9_readItem) (tgt := 77) (off := 41) dX9_readItem_36 h_14 (by decide) (by decide) rfl (by decide) ?_
        refine z_aload_n (M := M_X9_readItem) dX9_readItem_77 rfl ?_
        refine z_iload_n (M := M_X9_readItem) dX9_readItem_78 rfl ?_
        refine z_iconst (M := M_X9_readItem) dX9_readItem_79 ?_
        refine z_isub (M := M_X9_readItem) dX9_readItem_80 ?_
        obtain ⟨⟨x_17, σ_16⟩, hc_15, H⟩ := bd_e H
        refine z_callV (M := M_X9_readItem) (M' := M_X9_readPart) (as := [vi (x_1 - 3)]) (rest := []) rfl rfl dX9_readItem_81 m_X9_readPart t_896 t_898 s_15 (c_X9_readPart hl  hc_15) rfl rfl ly_167 rfl (Nat.le_of_ble_eq_true rfl) (Nat.le_of_ble_eq_true rfl) (Nat.le_of_ble_eq_true rfl) (Nat.le_of_ble_eq_true rfl) ?_
        refine z_st (st' := [zv x_17]) rfl ?_
        cases H
        exact z_zret (M := M_X9_readItem) dX9_readItem_84 rfl (Nat.le_of_ble_eq_true rfl) (Nat.le_of_ble_eq_true rfl) ⟨rfl, rfl⟩
    · rcases if_e H with ⟨h_18, H⟩ | ⟨h_18, H⟩
      · refine z_tabIn (M := M_X9_readItem) (tgt := 85) (off := 49) dX9_readItem_36 h_18 (by decide) (by decide) rfl (by decide) ?_
        refine z_aload_n (M := M_X9_readItem) dX9_readItem_85 rfl ?_
        obtain ⟨⟨x_21, σ_20⟩, hc_19, H⟩ := bd_e H
        refine z_callV (M := M_X9_readItem) (M' := M_X9_readShape) (as := []) (rest := []) rfl rfl dX9_readItem_86 m_X9_readShape t_772 t_774 s_3 (c_X9_readShape hl  hc_19) rfl rfl ly_167 rfl (Nat.le_of_ble_eq_true rfl) (Nat.le_of_ble_eq_true rfl) (Nat.le_of_ble_eq_true rfl) (Nat.le_of_ble_eq_true rfl) ?_
        refine z_st (st' := [zv x_21]) rfl ?_
        cases H
        exact z_zret (M := M_X9_readItem) dX9_readItem_89 rfl (Nat.le_of_ble_eq_true rfl) (Nat.le_of_ble_eq_true rfl) ⟨rfl, rfl⟩
      · refine z_tabOut (M := M_X9_readItem) (tgt := 90) dX9_readItem_36 rfl (by omega) (by decide) ?_
        refine z_aload_n (M := M_X9_readItem) dX9_readItem_90 rfl ?_
        obtain ⟨⟨x_24, σ_23⟩, hc_22, H⟩ := bd_e H
        refine z_callV (M := M_X9_readItem) (M' := M_X9_readCoordinate) (as := []) (rest := []) rfl rfl dX9_readItem_91 m_X9_readCoordinate t_900 t_902 s_16 (c_X9_readCoordinate hl  hc_22) rfl rfl ly_167 rfl (Nat.le_of_ble_eq_true rfl) (Nat.le_of_ble_eq_true rfl) (Nat.le_of_ble_eq_true rfl) (Nat.le_of_ble_eq_true rfl) ?_
        refine z_st (st' := [zv x_24]) rfl ?_
        cases H
        exact z_zret (M := M_X9_readItem) dX9_readItem_94 rfl (Nat.le_of_ble_eq_true rfl) (Nat.le_of_ble_eq_true rfl) ⟨rfl, rfl⟩
theorem c_X9_readInto (hl : l.stackTraces = false) {σ : SG} {into_0 : Nat} {bytes_0 : Int} {r : Bool} {σ' : SG} (h_into : isS into_0) (H : fW_readInto σ into_0 bytes_0 = some (r, σ')) : en_S l E M_X9_readInto 10 0 0 [vr 167, vr into_0, vi bytes_0] σ (pS (some (zv r)) σ') := by
  unfold fW_readInto at H
  refine z_mk (lv := [some (vr 167), some (vr into_0), some (vi bytes_0), none, none, none]) m_X9_readInto rfl hl (Nat.le_of_ble_eq_true rfl) rfl ?_
  refine z_aload_n (M := M_X9_readInto) dX9_readInto_0 rfl ?_
  refine z_aload_n (M := M_X9_readInto) dX9_readInto_1 rfl ?_
  obtain ⟨σ_1, σ_1_e, H⟩ := wf_e H
  refine z_putV (M := M_X9_readInto) (ci := 12) (C := RX9) (T := TX9) (Nf := 12) (ty := tyX9) cl12 dX9_readInto_2 ly_167 4 (by decide) t_109 rfl rfl rfl rfl σ_1_e ?_
  refine z_aload_n (M := M_X9_readInto) dX9_readInto_5 rfl ?_
  obtain ⟨hs_2, H⟩ := ck_e H
  refine z_getV (M := M_X9_readInto) (ci := 12) (C := RX9) (T := TX9) (Nf := 12) (ty := tyX9) cl12 dX9_readInto_6 ly_167 4 (by decide) t_109 rfl rfl ?_
  obtain ⟨σ_4, hc_3, H⟩ := bd_e H
  refine z_callV (M := M_X9_readInto) (M' := M_X6_clear) (as := []) (rest := []) rfl rfl dX9_readInto_9 m_X6_clear t_767 t_768 t_769 (c_X6_clear hl hs_2 hc_3) rfl rfl (ly_S hs_2) rfl (Nat.le_of_ble_eq_true rfl) (Nat.le_of_ble_eq_true rfl) (Nat.le_of_ble_eq_true rfl) (Nat.le_of_ble_eq_true rfl) ?_
  refine z_st (st' := []) rfl ?_
  refine z_aload_n (M := M_X9_readInto) dX9_readInto_12 rfl ?_
  refine z_iload_n (M := M_X9_readInto) dX9_readInto_13 rfl ?_
  refine z_aload_n (M := M_X9_readInto) dX9_readInto_14 rfl ?_
  refine z_getR (M := M_X9_readInto) (ci := 12) (C := RX9) (T := TX9) (Nf := 12) (ty := tyX9) cl12 dX9_readInto_15 ly_167 1 (by decide) t_106 rfl ?_
  refine z_alen (M := M_X9_readInto) (N := 65536) dX9_readInto_18 ly_166 (by decide) rfl ?_
  refine z_mmin (M := M_X9_readInto) dX9_readInto_19 t_771 t_626 t_20 t_627 (Nat.le_of_ble_eq_true rfl) (Nat.le_of_ble_eq_true rfl) (Nat.le_of_ble_eq_true rfl) (Nat.le_of_ble_eq_true rfl) ?_
  obtain ⟨σ_5, σ_5_e, H⟩ := wf_e H
  refine z_putI (M := M_X9_readInto) (ci := 12) (C := RX9) (T := TX9) (Nf := 12) (ty := tyX9) cl12 dX9_readInto_22 ly_167 5 (by decide) t_110 rfl rfl rfl rfl σ_5_e ?_
  refine z_aload_n (M := M_X9_readInto) dX9_readInto_25 rfl ?_
  refine z_iconst (M := M_X9_readInto) dX9_readInto_26 ?_
  obtain ⟨σ_6, σ_6_e, H⟩ := wf_e H
  refine z_putI (M := M_X9_readInto) (ci := 12) (C := RX9) (T := TX9) (Nf := 12) (ty := tyX9) cl12 dX9_readInto_27 ly_167 6 (by decide) t_111 rfl rfl rfl rfl σ_6_e ?_
  refine z_aload_n (M := M_X9_readInto) dX9_readInto_30 rfl ?_
  refine z_iconst (M := M_X9_readInto) dX9_readInto_31 ?_
  obtain ⟨σ_7, σ_7_e, H⟩ := wf_e H
  refine z_putI (M := M_X9_readInto) (ci := 12) (C := RX9) (T := TX9) (Nf := 12) (ty := tyX9) cl12 dX9_readInto_32 ly_167 7 (by decide) t_112 rfl rfl rfl rfl σ_7_e ?_
  refine z_aload_n (M := M_X9_readInto) dX9_readInto_35 rfl ?_
  refine z_iconst (M := M_X9_readInto) dX9_readInto_36 ?_
  obtain ⟨σ_8, σ_8_e, H⟩ := wf_e H
  refine z_putI (M := M_X9_readInto) (ci := 12) (C := RX9) (T := TX9) (Nf := 12) (ty := tyX9) cl12 dX9_readInto_37 ly_167 8 (by decide) t_113 rfl rfl rfl rfl σ_8_e ?_
  refine z_aload_n (M := M_X9_readInto) dX9_readInto_40 rfl ?_
  refine z_iconst (M := M_X9_readInto) dX9_readInto_41 ?_
  obtain ⟨σ_9, σ_9_e, H⟩ := wf_e H
  refine z_putI (M := M_X9_readInto) (ci := 12) (C := RX9) (T := TX9) (Nf := 12) (ty := tyX9) cl12 dX9_readInto_42 ly_167 10 (by decide) t_115 rfl rfl rfl rfl σ_9_e ?_
  refine z_aload_n (M := M_X9_readInto) dX9_readInto_45 rfl ?_
  refine z_iconst (M := M_X9_readInto) dX9_readInto_46 ?_
  obtain ⟨σ_10, σ_10_e, H⟩ := wf_e H
  refine z_putI (M := M_X9_readInto) (ci := 12) (C := RX9) (T := TX9) (Nf := 12) (ty := tyX9) cl12 dX9_readInto_47 ly_167 11 (by decide) t_117 rfl rfl rfl rfl σ_10_e ?_
  refine z_aload_n (M := M_X9_readInto) dX9_readInto_50 rfl ?_
  obtain ⟨⟨x_13, σ_12⟩, hc_11, H⟩ := bd_e H
  refine z_callV (M := M_X9_readInto) (M' := M_X9_readShape) (as := []) (rest := []) rfl rfl dX9_readInto_51 m_X9_readShape t_772 t_774 s_3 (c_X9_readShape hl  hc_11) rfl rfl ly_167 rfl (Nat.le_of_ble_eq_true rfl) (Nat.le_of_ble_eq_true rfl) (Nat.le_of_ble_eq_true rfl) (Nat.le_of_ble_eq_true rfl) ?_
  refine z_st (st' := [zv x_13]) rfl ?_
  refine z_zstore_n (M := M_X9_readInto) (lv' := [some (vr 167), some (vr into_0), some (vi bytes_0), some (zv x_13), none, none]) dX9_readInto_54 (Nat.le_of_ble_eq_true rfl) rfl rfl ?_
  refine z_iconst (M := M_X9_readInto) dX9_readInto_55 ?_
  refine z_istore (M := M_X9_readInto) (lv' := [some (vr 167), some (vr into_0), some (vi bytes_0), some (zv x_13), some (vi 0), none]) dX9_readInto_56 (Nat.le_of_ble_eq_true rfl) rfl rfl ?_
  obtain ⟨rl_20, hw_17, hk_18⟩ := bd_e H
  have J_78 : ∀ good_57 round_58 σ_59, rl_20 = (good_57, round_58, σ_59) → YY l E M_X9_readInto 10 0 0 (pS (some (zv r)) σ') 113 [some (vr 167), some (vr into_0), some (vi bytes_0), some (zv good_57), some (vi round_58), none] [] σ_59 0 0 := by
    intro good_57 round_58 σ_59 e
    have H := hk_18
    rw [e] at H
    refine z_aload_n (M := M_X9_readInto) dX9_readInto_113 rfl ?_
    obtain ⟨σ_61, hc_60, H⟩ := bd_e H
    refine z_callV (M := M_X9_readInto) (M' := M_X9_skipBlanks) (as := []) (rest := []) rfl rfl dX9_readInto_114 m_X9_skipBlanks t_776 t_778 s_4 (c_X9_skipBlanks hl  hc_60) rfl rfl ly_167 rfl (Nat.le_of_ble_eq_true rfl) (Nat.le_of_ble_eq_true rfl) (Nat.le_of_ble_eq_true rfl) (Nat.le_of_ble_eq_true rfl) ?_
    refine z_st (st' := []) rfl ?_
    obtain ⟨v_74, he_75, hk_76⟩ := bd_e H
    have J_77 : ∀ x_72 σ_73, v_74 = (x_72, σ_73) → YY l E M_X9_readInto 10 0 0 (pS (some (zv r)) σ') 146 [some (vr 167), some (vr into_0), some (vi bytes_0), some (zv good_57), some (vi round_58), none] [zv x_72] σ_73 0 0 := by
      intro x_72 σ_73 e
      have H := hk_76
      rw [e] at H
      cases H
      exact z_zret (M := M_X9_readInto) dX9_readInto_146 rfl (Nat.le_of_ble_eq_true rfl) (Nat.le_of_ble_eq_true rfl) ⟨rfl, rfl⟩
    have H := he_75
    refine z_zload_n (M := M_X9_readInto) dX9_readInto_117 rfl ?_
    rcases if_e H with ⟨h_62, H⟩ | ⟨h_62, H⟩
    · refine z_zeq_f (M := M_X9_readInto) (tgt := 145) dX9_readInto_118 (by decide) h_62 ?_
      refine z_aload_n (M := M_X9_readInto) dX9_readInto_121 rfl ?_
      refine z_getI (M := M_X9_readInto) (ci := 12) (C := RX9) (T := TX9) (Nf := 12) (ty := tyX9) cl12 dX9_readInto_122 ly_167 6 (by decide) t_111 rfl rfl ?_
      refine z_aload_n (M := M_X9_readInto) dX9_readInto_125 rfl ?_
      refine z_getI (M := M_X9_readInto) (ci := 12) (C := RX9) (T := TX9) (Nf := 12) (ty := tyX9) cl12 dX9_readInto_126 ly_167 5 (by decide) t_110 rfl rfl ?_
      rcases if_e H with ⟨h_63, H⟩ | ⟨h_63, H⟩
      · refine z_icmp_ge_t (M := M_X9_readInto) (tgt := 141) dX9_readInto_129 (by decide) rfl rfl h_63 ?_
        refine z_zconst (M := M_X9_readInto) (b := true) dX9_readInto_141 rfl ?_
        refine z_goto (M := M_X9_readInto) (tgt := 146) dX9_readInto_142 (by decide) ?_
        exact J_77 _ _ (Option.some.inj H).symm
      · refine z_icmp_ge_f (M := M_X9_readInto) (tgt := 141) dX9_readInto_129 (by decide) rfl rfl (Int.not_le.mp h_63) ?_
        refine z_aload_n (M := M_X9_readInto) dX9_readInto_132 rfl ?_
        refine z_bipush (M := M_X9_readInto) dX9_readInto_133 (by decide +kernel) ?_
        obtain ⟨⟨x_67, σ_66⟩, hc_65, H⟩ := bd_e H
        refine z_callV (M := M_X9_readInto) (M' := M_X9_fail) (as := [vi 8]) (rest := []) rfl rfl dX9_readInto_135 m_X9_fail t_797 t_799 s_7 (c_X9_fail hl  hc_65) rfl rfl ly_167 rfl (Nat.le_of_ble_eq_true rfl) (Nat.le_of_ble_eq_true rfl) (Nat.le_of_ble_eq_true rfl) (Nat.le_of_ble_eq_true rfl) ?_
        refine z_st (st' := [zv x_67]) rfl ?_
        rcases if_e H with ⟨h_68, H⟩ | ⟨h_68, H⟩
        · refine z_zeq_f (M := M_X9_readInto) (tgt := 145) dX9_readInto_138 (by decide) h_68 ?_
          refine z_zconst (M := M_X9_readInto) (b := true) dX9_readInto_141 rfl ?_
          refine z_goto (M := M_X9_readInto) (tgt := 146) dX9_readInto_142 (by decide) ?_
          exact J_77 _ _ (Option.some.inj H).symm
        · refine z_zeq_t (M := M_X9_readInto) (tgt := 145) dX9_readInto_138 (by decide) h_68 ?_
          refine z_zconst (M := M_X9_readInto) (b := false) dX9_readInto_145 rfl ?_
          exact J_77 _ _ (Option.some.inj H).symm
    · refine z_zeq_t (M := M_X9_readInto) (tgt := 145) dX9_readInto_118 (by decide) h_62 ?_
      refine z_zconst (M := M_X9_readInto) (b := false) dX9_readInto_145 rfl ?_
      exact J_77 _ _ (Option.some.inj H).symm
  refine whl_go hw_17 (fun (good_14, round_15, σ_16) => YY l E M_X9_readInto 10 0 0 (pS (some (zv r)) σ') 58 [some (vr 167), some (vr into_0), some (vi bytes_0), some (zv good_14), some (vi round_15), none] [] σ_16 0 0) ?_
  rintro ⟨good_14, round_15, σ_16⟩ o_21 H K_22 K_23
  rcases if_e H with ⟨h_48, H⟩ | ⟨h_48, H⟩
  · have J_49 : YY l E M_X9_readInto 10 0 0 (pS (some (zv r)) σ') 78 [some (vr 167), some (vr into_0), some (vi bytes_0), some (zv good_14), some (vi round_15), none] [] σ_16 0 0 := by
      refine z_aload_n (M := M_X9_readInto) dX9_readInto_78 rfl ?_
      refine z_getI (M := M_X9_readInto) (ci := 12) (C := RX9) (T := TX9) (Nf := 12) (ty := tyX9) cl12 dX9_readInto_79 ly_167 7 (by decide) t_112 rfl rfl ?_
      refine z_istore (M := M_X9_readInto) (lv' := [some (vr 167), some (vr into_0), some (vi bytes_0), some (zv good_14), some (vi round_15), some (vi (σ_16 kW_depth 0))]) dX9_readInto_82 (Nat.le_of_ble_eq_true rfl) rfl rfl ?_
      refine z_aload_n (M := M_X9_readInto) dX9_readInto_84 rfl ?_
      obtain ⟨⟨x_26, σ_25⟩, hc_24, H⟩ := bd_e H
      refine z_callV (M := M_X9_readInto) (M' := M_X9_readItem) (as := []) (rest := []) rfl rfl dX9_readInto_85 m_X9_readItem t_884 t_886 s_13 (c_X9_readItem hl  hc_24) rfl rfl ly_167 rfl (Nat.le_of_ble_eq_true rfl) (Nat.le_of_ble_eq_true rfl) (Nat.le_of_ble_eq_true rfl) (Nat.le_of_ble_eq_true rfl) ?_
      refine z_st (st' := [zv x_26]) rfl ?_
      refine z_zstore_n (M := M_X9_readInto) (lv' := [some (vr 167), some (vr into_0), some (vi bytes_0), some (zv x_26), some (vi round_15), some (vi (σ_16 kW_depth 0))]) dX9_readInto_88 (Nat.le_of_ble_eq_true rfl) rfl rfl ?_
      obtain ⟨v_30, he_27, hk_28⟩ := bd_e H
      have J_46 : ∀ good_43 σ_44, v_30 = (good_43, σ_44) → YY l E M_X9_readInto 10 0 0 (pS (some (zv r)) σ') 107 [some (vr 167), some (vr into_0), some (vi bytes_0), some (zv good_43), some (vi round_15), some (vi (σ_16 kW_depth 0))] [] σ_44 0 0 := by
        intro good_43 σ_44 e
        have H := hk_28
        rw [e] at H
        refine z_iinc (M := M_X9_readInto) (lv' := [some (vr 167), some (vr into_0), some (vi bytes_0), some (zv good_43), some (vi (round_15 + 1)), some (vi (σ_16 kW_depth 0))]) dX9_readInto_107 rfl (Nat.le_of_ble_eq_true rfl) rfl rfl ?_
        refine z_goto (M := M_X9_readInto) (tgt := 58) dX9_readInto_110 (by decide) ?_
        refine z_le (lv' := [some (vr 167), some (vr into_0), some (vi bytes_0), some (zv good_43), some (vi (round_15 + 1)), none]) ⟨Or.inr rfl, Or.inr rfl, Or.inr rfl, Or.inr rfl, Or.inr rfl, Or.inl rfl, trivial⟩ ?_
        exact K_22 _ (Option.some.inj H).symm
      have H := he_27
      rcases if_e H with ⟨h_36, H⟩ | ⟨h_36, H⟩
      · have J_37 : YY l E M_X9_readInto 10 0 0 (pS (some (zv r)) σ') 102 [some (vr 167), some (vr into_0), some (vi bytes_0), some (zv x_26), some (vi round_15), some (vi (σ_16 kW_depth 0))] [] σ_25 0 0 := by
          refine z_aload_n (M := M_X9_readInto) dX9_readInto_102 rfl ?_
          obtain ⟨⟨x_33, σ_32⟩, hc_31, H⟩ := bd_e H
          refine z_callV (M := M_X9_readInto) (M' := M_X9_goOnBehindItem) (as := []) (rest := []) rfl rfl dX9_readInto_103 m_X9_goOnBehindItem t_941 t_943 s_21 (c_X9_goOnBehindItem hl  hc_31) rfl rfl ly_167 rfl (Nat.le_of_ble_eq_true rfl) (Nat.le_of_ble_eq_true rfl) (Nat.le_of_ble_eq_true rfl) (Nat.le_of_ble_eq_true rfl) ?_
          refine z_st (st' := [zv x_33]) rfl ?_
          refine z_zstore_n (M := M_X9_readInto) (lv' := [some (vr 167), some (vr into_0), some (vi bytes_0), some (zv x_33), some (vi round_15), some (vi (σ_16 kW_depth 0))]) dX9_readInto_106 (Nat.le_of_ble_eq_true rfl) rfl rfl ?_
          exact J_46 _ _ (Option.some.inj H).symm
        refine z_zload_n (M := M_X9_readInto) dX9_readInto_89 rfl ?_
        by_cases h_39 : x_26 = true
        · refine z_zeq_f (M := M_X9_readInto) (tgt := 107) dX9_readInto_90 (by decide) h_39 ?_
          refine z_aload_n (M := M_X9_readInto) dX9_readInto_93 rfl ?_
          refine z_getI (M := M_X9_readInto) (ci := 12) (C := RX9) (T := TX9) (Nf := 12) (ty := tyX9) cl12 dX9_readInto_94 ly_167 7 (by decide) t_112 rfl rfl ?_
          refine z_iload (M := M_X9_readInto) dX9_readInto_97 rfl ?_
          by_cases h_40 : (w32 (σ_25 kW_depth 0)) = (w32 (σ_16 kW_depth 0))
          · refine z_icmp_ne_f (M := M_X9_readInto) (tgt := 107) dX9_readInto_99 (by decide) rfl rfl h_40 ?_
            exact J_37
          · refine z_icmp_ne_t (M := M_X9_readInto) (tgt := 107) dX9_readInto_99 (by decide) rfl rfl h_40 ?_
            exact absurd h_36 (fun q => h_40 q.2)
        · refine z_zeq_t (M := M_X9_readInto) (tgt := 107) dX9_readInto_90 (by decide) h_39 ?_
          exact absurd h_36 (fun q => h_39 q.1)
      · have J_38 : YY l E M_X9_readInto 10 0 0 (pS (some (zv r)) σ') 107 [some (vr 167), some (vr into_0), some (vi bytes_0), some (zv x_26), some (vi round_15), some (vi (σ_16 kW_depth 0))] [] σ_25 0 0 := by
          exact J_46 _ _ (Option.some.inj H).symm
        refine z_zload_n (M := M_X9_readInto) dX9_readInto_89 rfl ?_
        by_cases h_41 : x_26 = true
        · refine z_zeq_f (M := M_X9_readInto) (tgt := 107) dX9_readInto_90 (by decide) h_41 ?_
          refine z_aload_n (M := M_X9_readInto) dX9_readInto_93 rfl ?_
          refine z_getI (M := M_X9_readInto) (ci := 12) (C := RX9) (T := TX9) (Nf := 12) (ty := tyX9) cl12 dX9_readInto_94 ly_167 7 (by decide) t_112 rfl rfl ?_
          refine z_iload (M := M_X9_readInto) dX9_readInto_97 rfl ?_
          by_cases h_42 : (w32 (σ_25 kW_depth 0)) = (w32 (σ_16 kW_depth 0))
          · refine z_icmp_ne_f (M := M_X9_readInto) (tgt := 107) dX9_readInto_99 (by decide) rfl rfl h_42 ?_
            exact absurd ⟨h_41, h_42⟩ h_36
          · refine z_icmp_ne_t (M := M_X9_readInto) (tgt := 107) dX9_readInto_99 (by decide) rfl rfl h_42 ?_
            exact J_38
        · refine z_zeq_t (M := M_X9_readInto) (tgt := 107) dX9_readInto_90 (by decide) h_41 ?_
          exact J_38
    refine z_zload_n (M := M_X9_readInto) dX9_readInto_58 rfl ?_
    by_cases h_51 : good_14 = true
    · refine z_zeq_f (M := M_X9_readInto) (tgt := 113) dX9_readInto_59 (by decide) h_51 ?_
      refine z_aload_n (M := M_X9_readInto) dX9_readInto_62 rfl ?_
      refine z_getI (M := M_X9_readInto) (ci := 12) (C := RX9) (T := TX9) (Nf := 12) (ty := tyX9) cl12 dX9_readInto_63 ly_167 7 (by decide) t_112 rfl rfl ?_
      by_cases h_52 : 0 < (w32 (σ_16 kW_depth 0))
      · refine z_if_le_f (M := M_X9_readInto) (tgt := 113) dX9_readInto_66 (by decide) rfl h_52 ?_
        refine z_iload (M := M_X9_readInto) dX9_readInto_69 rfl ?_
        refine z_aload_n (M := M_X9_readInto) dX9_readInto_71 rfl ?_
        refine z_getI (M := M_X9_readInto) (ci := 12) (C := RX9) (T := TX9) (Nf := 12) (ty := tyX9) cl12 dX9_readInto_72 ly_167 5 (by decide) t_110 rfl rfl ?_
        by_cases h_53 : (w32 round_15) ≤ (w32 (σ_16 kW_length 0))
        · refine z_icmp_gt_f (M := M_X9_readInto) (tgt := 113) dX9_readInto_75 (by decide) rfl rfl h_53 ?_
          exact J_49
        · refine z_icmp_gt_t (M := M_X9_readInto) (tgt := 113) dX9_readInto_75 (by decide) rfl rfl (Int.not_le.mp h_53) ?_
          exact absurd h_48 (fun q => h_53 q.2)
      · refine z_if_le_t (M := M_X9_readInto) (tgt := 113) dX9_readInto_66 (by decide) rfl (Int.not_lt.mp h_52) ?_
        exact absurd h_48 (fun q => (fun q => h_52 q.2) q.1)
    · refine z_zeq_t (M := M_X9_readInto) (tgt := 113) dX9_readInto_59 (by decide) h_51 ?_
      exact absurd h_48 (fun q => (fun q => h_51 q.1) q.1)
  · have J_50 : YY l E M_X9_readInto 10 0 0 (pS (some (zv r)) σ') 113 [some (vr 167), some (vr into_0), some (vi bytes_0), some (zv good_14), some (vi round_15), none] [] σ_16 0 0 := by
      exact J_78 _ _ _ (K_23 _ (Option.some.inj H).symm).symm
    refine z_zload_n (M := M_X9_readInto) dX9_readInto_58 rfl ?_
    by_cases h_54 : good_14 = true
    · refine z_zeq_f (M := M_X9_readInto) (tgt := 113) dX9_readInto_59 (by decide) h_54 ?_
      refine z_aload_n (M := M_X9_readInto) dX9_readInto_62 rfl ?_
      refine z_getI (M := M_X9_readInto) (ci := 12) (C := RX9) (T := TX9) (Nf := 12) (ty := tyX9) cl12 dX9_readInto_63 ly_167 7 (by decide) t_112 rfl rfl ?_
      by_cases h_55 : 0 < (w32 (σ_16 kW_depth 0))
      · refine z_if_le_f (M := M_X9_readInto) (tgt := 113) dX9_readInto_66 (by decide) rfl h_55 ?_
        refine z_iload (M := M_X9_readInto) dX9_readInto_69 rfl ?_
        refine z_aload_n (M := M_X9_readInto) dX9_readInto_71 rfl ?_
        refine z_getI (M := M_X9_readInto) (ci := 12) (C := RX9) (T := TX9) (Nf := 12) (ty := tyX9) cl12 dX9_readInto_72 ly_167 5 (by decide) t_110 rfl rfl ?_
        by_cases h_56 : (w32 round_15) ≤ (w32 (σ_16 kW_length 0))
        · refine z_icmp_gt_f (M := M_X9_readInto) (tgt := 113) dX9_readInto_75 (by decide) rfl rfl h_56 ?_
          exact absurd ⟨⟨h_54, h_55⟩, h_56⟩ h_48
        · refine z_icmp_gt_t (M := M_X9_readInto) (tgt := 113) dX9_readInto_75 (by decide) rfl rfl (Int.not_le.mp h_56) ?_
          exact J_50
      · refine z_if_le_t (M := M_X9_readInto) (tgt := 113) dX9_readInto_66 (by decide) rfl (Int.not_lt.mp h_55) ?_
        exact J_50
    · refine z_zeq_t (M := M_X9_readInto) (tgt := 113) dX9_readInto_59 (by decide) h_54 ?_
      exact J_50
theorem c_X6_kind (hl : l.stackTraces = false) {σ : SG} {this_0 : Nat} {r : Int} (h_this : isS this_0) (H : fA_kind σ this_0 = some r) : en_S l E M_X6_kind 1 0 0 [vr this_0] σ (pS (some (vi r)) σ) := by
  unfold fA_kind at H
  refine z_mk (lv := [some (vr this_0)]) m_X6_kind rfl hl (Nat.le_of_ble_eq_true rfl) rfl ?_
  obtain ⟨v_9, he_10, hk_11⟩ := bd_e H
  have J_12 : ∀ x_8, v_9 = x_8 → YY l E M_X6_kind 1 0 0 (pS (some (vi r)) σ) 17 [some (vr this_0)] [vi x_8] σ 0 0 := by
    intro x_8 e
    have H := hk_11
    rw [e] at H
    cases H
    exact z_iret (M := M_X6_kind) dX6_kind_17 rfl (Nat.le_of_ble_eq_true rfl) (Nat.le_of_ble_eq_true rfl) ⟨rfl, rfl⟩
  have H := he_10
  refine z_aload_n (M := M_X6_kind) dX6_kind_0 rfl ?_
  refine z_getI (M := M_X6_kind) (ci := 9) (C := RX6) (T := TX6) (Nf := 5) (ty := tyX6) cl9 dX6_kind_1 (ly_S h_this) 3 (by decide) t_72 rfl rfl ?_
  rcases if_e H with ⟨h_3, H⟩ | ⟨h_3, H⟩
  · refine z_if_le_f (M := M_X6_kind) (tgt := 16) dX6_kind_4 (by decide) rfl h_3 ?_
    refine z_aload_n (M := M_X6_kind) dX6_kind_7 rfl ?_
    refine z_getR (M := M_X6_kind) (ci := 9) (C := RX6) (T := TX6) (Nf := 5) (ty := tyX6) cl9 dX6_kind_8 (ly_S h_this) 0 (by decide) t_50 rfl ?_
    refine z_iconst (M := M_X6_kind) dX6_kind_11 ?_
    obtain ⟨x_4, x_4_e, hi_5, H⟩ := rd_e H
    refine z_iald (M := M_X6_kind) dX6_kind_12 (ly_Sp h_this) rfl (by decide +kernel) rfl hi_5 x_4_e ?_
    refine z_goto (M := M_X6_kind) (tgt := 17) dX6_kind_13 (by decide) ?_
    exact J_12 _ (Option.some.inj H).symm
  · refine z_if_le_t (M := M_X6_kind) (tgt := 16) dX6_kind_4 (by decide) rfl (Int.not_lt.mp h_3) ?_
    refine z_iconst (M := M_X6_kind) dX6_kind_16 ?_
    exact J_12 _ (Option.some.inj H).symm
theorem c_X11_kindOrFault (hl : l.stackTraces = false) {σ : SG} {shape_0 : Nat} {good_0 : Bool} {code_0 : Int} {at_0 : Int} {r : Int ⊕ Nat} {σ' : SG} (h_shape : isS shape_0) (H : fQ_kindOrFault σ shape_0 good_0 code_0 at_0 = some (r, σ')) : en_S l E M_X11_kindOrFault 6 1 6 [vr 32, vr shape_0, zv good_0, vi code_0, vi at_0] σ (pT (riT r) σ') := by
  unfold fQ_kindOrFault at H
  refine z_mk (lv := [some (vr 32), some (vr shape_0), some (zv good_0), some (vi code_0), some (vi at_0)]) m_X11_kindOrFault rfl hl (Nat.le_of_ble_eq_true rfl) rfl ?_
  refine z_aload_n (M := M_X11_kindOrFault) dX11_kindOrFault_0 rfl ?_
  refine z_iload_n (M := M_X11_kindOrFault) dX11_kindOrFault_1 rfl ?_
  obtain ⟨σ_1, σ_1_e, H⟩ := wf_e H
  refine z_putI (M := M_X11_kindOrFault) (ci := 14) (C := RX11) (T := TX11) (Nf := 19) (ty := tyX11) cl14 dX11_kindOrFault_2 ly_32 4 (by decide) t_567 rfl rfl rfl rfl σ_1_e ?_
  refine z_aload_n (M := M_X11_kindOrFault) dX11_kindOrFault_5 rfl ?_
  refine z_iload (M := M_X11_kindOrFault) dX11_kindOrFault_6 rfl ?_
  obtain ⟨σ_2, σ_2_e, H⟩ := wf_e H
  refine z_putI (M := M_X11_kindOrFault) (ci := 14) (C := RX11) (T := TX11) (Nf := 19) (ty := tyX11) cl14 dX11_kindOrFault_8 ly_32 5 (by decide) t_568 rfl rfl rfl rfl σ_2_e ?_
  refine z_zload_n (M := M_X11_kindOrFault) dX11_kindOrFault_11 rfl ?_
  rcases if_e H with ⟨h_3, H⟩ | ⟨h_3, H⟩
  · refine z_zne_t (M := M_X11_kindOrFault) (tgt := 27) dX11_kindOrFault_12 (by decide) h_3 ?_
    refine z_aload_n (M := M_X11_kindOrFault) dX11_kindOrFault_27 rfl ?_
    obtain ⟨x_5, hc_4, H⟩ := bd_e H
    refine z_callV (M := M_X11_kindOrFault) (M' := M_X6_kind) (as := []) (rest := []) rfl rfl dX11_kindOrFault_28 m_X6_kind t_950 t_951 t_952 (c_X6_kind hl h_shape hc_4) rfl rfl (ly_S h_shape) rfl (Nat.le_of_ble_eq_true rfl) (Nat.le_of_ble_eq_true rfl) (Nat.le_of_ble_eq_true rfl) (Nat.le_of_ble_eq_true rfl) ?_
    refine z_st (st' := [vi x_5]) rfl ?_
    cases H
    exact z_iret (M := M_X11_kindOrFault) dX11_kindOrFault_31 rfl (Nat.le_of_ble_eq_true rfl) (Nat.le_of_ble_eq_true rfl) ⟨rfl, rfl⟩
  · refine z_zne_f (M := M_X11_kindOrFault) (tgt := 27) dX11_kindOrFault_12 (by decide) h_3 ?_
    refine z_aload_n (M := M_X11_kindOrFault) dX11_kindOrFault_15 rfl ?_
    obtain ⟨σ_7, hc_6, H⟩ := bd_e H
    refine z_callV (M := M_X11_kindOrFault) (M' := M_X6_clear) (as := []) (rest := []) rfl rfl dX11_kindOrFault_16 m_X6_clear t_949 t_768 t_769 (c_X6_clear hl h_shape hc_6) rfl rfl (ly_S h_shape) rfl (Nat.le_of_ble_eq_true rfl) (Nat.le_of_ble_eq_true rfl) (Nat.le_of_ble_eq_true rfl) (Nat.le_of_ble_eq_true rfl) ?_
    refine z_st (st' := []) rfl ?_
    cases H
    exact z_throw (M := M_X11_kindOrFault) (names := en_nm) rfl dX11_kindOrFault_19 dX11_kindOrFault_22 dX11_kindOrFault_23 dX11_kindOrFault_26 (by decide +kernel) en_nm_ok (Or.inl t_721) (Or.inl t_19) at_X11_IllegalArgumentException_118 (Nat.le_of_ble_eq_true rfl) (Nat.le_of_ble_eq_true rfl) (Nat.le_of_ble_eq_true rfl) (Nat.le_of_ble_eq_true rfl) ⟨rfl, rfl⟩
theorem c_X11_slotNumbered (hl : l.stackTraces = false) {σ : SG} {slot_0 : Int} {r : Nat ⊕ Nat} {σ' : SG}  (H : fQ_slotNumbered σ slot_0 = some (r, σ')) : en_S l E M_X11_slotNumbered 6 1 6 [vr 32, vi slot_0] σ (pT (rrT r) σ') := by
  unfold fQ_slotNumbered at H
  refine z_mk (lv := [some (vr 32), some (vi slot_0)]) m_X11_slotNumbered rfl hl (Nat.le_of_ble_eq_true rfl) rfl ?_
  rcases if_e H with ⟨h_2, H⟩ | ⟨h_2, H⟩
  · have J_3 : YY l E M_X11_slotNumbered 6 1 6 (pT (rrT r) σ') 10 [some (vr 32), some (vi slot_0)] [] σ 0 0 := by
      cases H
      exact z_throw (M := M_X11_slotNumbered) (names := en_nm) rfl dX11_slotNumbered_10 dX11_slotNumbered_13 dX11_slotNumbered_14 dX11_slotNumbered_17 (by decide +kernel) en_nm_ok (Or.inl t_748) (Or.inl t_22) at_X11_IndexOutOfBoundsException_139 (Nat.le_of_ble_eq_true rfl) (Nat.le_of_ble_eq_true rfl) (Nat.le_of_ble_eq_true rfl) (Nat.le_of_ble_eq_true rfl) ⟨rfl, rfl⟩
    refine z_iload_n (M := M_X11_slotNumbered) dX11_slotNumbered_0 rfl ?_
    by_cases h_5 : (w32 slot_0) < 0
    · refine z_if_lt_t (M := M_X11_slotNumbered) (tgt := 10) dX11_slotNumbered_1 (by decide) rfl h_5 ?_
      exact J_3
    · refine z_if_lt_f (M := M_X11_slotNumbered) (tgt := 10) dX11_slotNumbered_1 (by decide) rfl (Int.not_lt.mp h_5) ?_
      refine z_iload_n (M := M_X11_slotNumbered) dX11_slotNumbered_4 rfl ?_
      refine z_bipush (M := M_X11_slotNumbered) dX11_slotNumbered_5 (by decide +kernel) ?_
      by_cases h_6 : 32 ≤ (w32 slot_0)
      · refine z_icmp_lt_f (M := M_X11_slotNumbered) (tgt := 18) dX11_slotNumbered_7 (by decide) rfl (by decide +kernel) h_6 ?_
        exact J_3
      · refine z_icmp_lt_t (M := M_X11_slotNumbered) (tgt := 18) dX11_slotNumbered_7 (by decide) rfl (by decide +kernel) (Int.not_le.mp h_6) ?_
        exact absurd h_2 (fun q => q.elim h_5 h_6)
  · have J_4 : YY l E M_X11_slotNumbered 6 1 6 (pT (rrT r) σ') 18 [some (vr 32), some (vi slot_0)] [] σ 0 0 := by
      refine z_aload_n (M := M_X11_slotNumbered) dX11_slotNumbered_18 rfl ?_
      refine z_getR (M := M_X11_slotNumbered) (ci := 14) (C := RX11) (T := TX11) (Nf := 19) (ty := tyX11) cl14 dX11_slotNumbered_19 ly_32 0 (by decide) t_563 rfl ?_
      refine z_iload_n (M := M_X11_slotNumbered) dX11_slotNumbered_22 rfl ?_
      obtain ⟨hi_1, H⟩ := ck_e H
      refine z_aald (M := M_X11_slotNumbered) dX11_slotNumbered_23 ly_33 rfl rfl hi_1 rfl ?_
      cases H
      exact z_aret (M := M_X11_slotNumbered) dX11_slotNumbered_24 rfl (Nat.le_of_ble_eq_true rfl) (Nat.le_of_ble_eq_true rfl) ⟨rfl, rfl⟩
    refine z_iload_n (M := M_X11_slotNumbered) dX11_slotNumbered_0 rfl ?_
    by_cases h_7 : (w32 slot_0) < 0
    · refine z_if_lt_t (M := M_X11_slotNumbered) (tgt := 10) dX11_slotNumbered_1 (by decide) rfl h_7 ?_
      exact absurd (Or.inl h_7) h_2
    · refine z_if_lt_f (M := M_X11_slotNumbered) (tgt := 10) dX11_slotNumbered_1 (by decide) rfl (Int.not_lt.mp h_7) ?_
      refine z_iload_n (M := M_X11_slotNumbered) dX11_slotNumbered_4 rfl ?_
      refine z_bipush (M := M_X11_slotNumbered) dX11_slotNumbered_5 (by decide +kernel) ?_
      by_cases h_8 : 32 ≤ (w32 slot_0)
      · refine z_icmp_lt_f (M := M_X11_slotNumbered) (tgt := 18) dX11_slotNumbered_7 (by decide) rfl (by decide +kernel) h_8 ?_
        exact absurd (Or.inr h_8) h_2
      · refine z_icmp_lt_t (M := M_X11_slotNumbered) (tgt := 18) dX11_slotNumbered_7 (by decide) rfl (by decide +kernel) (Int.not_le.mp h_8) ?_
        exact J_4
theorem c_X11_readWords (hl : l.stackTraces = false) {σ : SG} {slot_0 : Int} {r : Int ⊕ Nat} {σ' : SG}  (H : fQ_readWords σ slot_0 = some (r, σ')) : en_S l E M_X11_readWords 11 2 12 [vr 32, vi slot_0] σ (pT (riT r) σ') := by
  unfold fQ_readWords at H
  refine z_mk (lv := [some (vr 32), some (vi slot_0), none, none, none]) m_X11_readWords rfl hl (Nat.le_of_ble_eq_true rfl) rfl ?_
  refine z_aload_n (M := M_X11_readWords) dX11_readWords_0 rfl ?_
  refine z_getI (M := M_X11_readWords) (ci := 14) (C := RX11) (T := TX11) (Nf := 19) (ty := tyX11) cl14 dX11_readWords_1 ly_32 3 (by decide) t_566 rfl rfl ?_
  refine z_istore_n (M := M_X11_readWords) (lv' := [some (vr 32), some (vi slot_0), some (vi (σ kQ_tapeSize 0)), none, none]) dX11_readWords_4 (Nat.le_of_ble_eq_true rfl) rfl rfl ?_
  refine z_aload_n (M := M_X11_readWords) dX11_readWords_5 rfl ?_
  refine z_iconst (M := M_X11_readWords) dX11_readWords_6 ?_
  obtain ⟨σ_1, σ_1_e, H⟩ := wf_e H
  refine z_putI (M := M_X11_readWords) (ci := 14) (C := RX11) (T := TX11) (Nf := 19) (ty := tyX11) cl14 dX11_readWords_7 ly_32 3 (by decide) t_566 rfl rfl rfl rfl σ_1_e ?_
  refine z_aload_n (M := M_X11_readWords) dX11_readWords_10 rfl ?_
  refine z_iload_n (M := M_X11_readWords) dX11_readWords_11 rfl ?_
  obtain ⟨z_17, σ_3, hc_2, K_5, K_6⟩ := bt_e H
  rcases z_17 with x_4 | z_17
  · have H := K_5 _ rfl
    refine z_callV (M := M_X11_readWords) (M' := M_X11_slotNumbered) (as := [vi slot_0]) (rest := []) rfl rfl dX11_readWords_12 m_X11_slotNumbered t_744 t_746 s_2 (v := some (vr x_4)) (c_X11_slotNumbered hl  hc_2) rfl rfl ly_32 rfl (Nat.le_of_ble_eq_true rfl) (Nat.le_of_ble_eq_true rfl) (Nat.le_of_ble_eq_true rfl) (Nat.le_of_ble_eq_true rfl) ?_
    refine z_st (st' := [vr x_4]) rfl ?_
    obtain ⟨hs_7, H⟩ := ck_e H
    refine z_astore_n (M := M_X11_readWords) (lv' := [some (vr 32), some (vi slot_0), some (vi (σ kQ_tapeSize 0)), some (vr x_4), none]) dX11_readWords_15 (Nat.le_of_ble_eq_true rfl) rfl rfl ?_
    refine z_aload_n (M := M_X11_readWords) dX11_readWords_16 rfl ?_
    refine z_getR (M := M_X11_readWords) (ci := 14) (C := RX11) (T := TX11) (Nf := 19) (ty := tyX11) cl14 dX11_readWords_17 ly_32 6 (by decide) t_569 rfl ?_
    refine z_aload_n (M := M_X11_readWords) dX11_readWords_20 rfl ?_
    refine z_iload_n (M := M_X11_readWords) dX11_readWords_21 rfl ?_
    obtain ⟨⟨x_10, σ_9⟩, hc_8, H⟩ := bd_e H
    refine z_callV (M := M_X11_readWords) (M' := M_X9_readInto) (as := [vr x_4, vi (σ kQ_tapeSize 0)]) (rest := []) rfl rfl dX11_readWords_22 m_X9_readInto t_763 t_764 t_765 (c_X9_readInto hl hs_7 hc_8) rfl rfl ly_167 rfl (Nat.le_of_ble_eq_true rfl) (Nat.le_of_ble_eq_true rfl) (Nat.le_of_ble_eq_true rfl) (Nat.le_of_ble_eq_true rfl) ?_
    refine z_st (st' := [zv x_10]) rfl ?_
    refine z_zstore (M := M_X11_readWords) (lv' := [some (vr 32), some (vi slot_0), some (vi (σ kQ_tapeSize 0)), some (vr x_4), some (zv x_10)]) dX11_readWords_25 (Nat.le_of_ble_eq_true rfl) rfl rfl ?_
    refine z_aload_n (M := M_X11_readWords) dX11_readWords_27 rfl ?_
    refine z_aload_n (M := M_X11_readWords) dX11_readWords_28 rfl ?_
    refine z_zload (M := M_X11_readWords) dX11_readWords_29 rfl ?_
    refine z_aload_n (M := M_X11_readWords) dX11_readWords_31 rfl ?_
    refine z_getR (M := M_X11_readWords) (ci := 14) (C := RX11) (T := TX11) (Nf := 19) (ty := tyX11) cl14 dX11_readWords_32 ly_32 6 (by decide) t_569 rfl ?_
    refine z_getI (M := M_X11_readWords) (ci := 12) (C := RX9) (T := TX9) (Nf := 12) (ty := tyX9) cl12 dX11_readWords_35 ly_167 10 (by decide) t_116 rfl rfl ?_
    refine z_aload_n (M := M_X11_readWords) dX11_readWords_38 rfl ?_
    refine z_getR (M := M_X11_readWords) (ci := 14) (C := RX11) (T := TX11) (Nf := 19) (ty := tyX11) cl14 dX11_readWords_39 ly_32 6 (by decide) t_569 rfl ?_
    refine z_getI (M := M_X11_readWords) (ci := 12) (C := RX9) (T := TX9) (Nf := 12) (ty := tyX9) cl12 dX11_readWords_42 ly_167 11 (by decide) t_118 rfl rfl ?_
    obtain ⟨z_16, σ_12, hc_11, K_14, K_15⟩ := bt_e H
    rcases z_16 with x_13 | z_16
    · have H := K_14 _ rfl
      refine z_callV (M := M_X11_readWords) (M' := M_X11_kindOrFault) (as := [vr x_4, zv x_10, vi (σ_9 kW_wrong 0), vi (σ_9 kW_place 0)]) (rest := []) rfl rfl dX11_readWords_45 m_X11_kindOrFault t_945 t_947 s_22 (v := some (vi x_13)) (c_X11_kindOrFault hl hs_7 hc_11) rfl rfl ly_32 rfl (Nat.le_of_ble_eq_true rfl) (Nat.le_of_ble_eq_true rfl) (Nat.le_of_ble_eq_true rfl) (Nat.le_of_ble_eq_true rfl) ?_
      refine z_st (st' := [vi x_13]) rfl ?_
      cases H
      exact z_iret (M := M_X11_readWords) dX11_readWords_48 rfl (Nat.le_of_ble_eq_true rfl) (Nat.le_of_ble_eq_true rfl) ⟨rfl, rfl⟩
    · have H := K_15 _ rfl
      cases H
      exact z_callVX (M := M_X11_readWords) (M' := M_X11_kindOrFault) (as := [vr x_4, zv x_10, vi (σ_9 kW_wrong 0), vi (σ_9 kW_place 0)]) (rest := []) rfl rfl dX11_readWords_45 m_X11_kindOrFault t_945 t_947 s_22 (e := z_16) (c_X11_kindOrFault hl hs_7 hc_11) rfl rfl ly_32 rfl (Nat.le_of_ble_eq_true rfl) (Nat.le_of_ble_eq_true rfl) (Nat.le_of_ble_eq_true rfl) (Nat.le_of_ble_eq_true rfl) ⟨rfl, rfl⟩
  · have H := K_6 _ rfl
    cases H
    exact z_callVX (M := M_X11_readWords) (M' := M_X11_slotNumbered) (as := [vi slot_0]) (rest := []) rfl rfl dX11_readWords_12 m_X11_slotNumbered t_744 t_746 s_2 (e := z_17) (c_X11_slotNumbered hl  hc_2) rfl rfl ly_32 rfl (Nat.le_of_ble_eq_true rfl) (Nat.le_of_ble_eq_true rfl) (Nat.le_of_ble_eq_true rfl) (Nat.le_of_ble_eq_true rfl) ⟨rfl, rfl⟩
theorem c_X0_fail (hl : l.stackTraces = false) {σ : SG} {code_0 : Int} {r : Bool} {σ' : SG}  (H : fB_fail σ code_0 = some (r, σ')) : en_S l E M_X0_fail 1 0 0 [vr 170, vi code_0] σ (pS (some (zv r)) σ') := by
  unfold fB_fail at H
  refine z_mk (lv := [some (vr 170), some (vi code_0)]) m_X0_fail rfl hl (Nat.le_of_ble_eq_true rfl) rfl ?_
  refine z_aload_n (M := M_X0_fail) dX0_fail_0 rfl ?_
  refine z_iload_n (M := M_X0_fail) dX0_fail_1 rfl ?_
  obtain ⟨σ_1, σ_1_e, H⟩ := wf_e H
  refine z_putI (M := M_X0_fail) (ci := 3) (C := RX0) (T := TX0) (Nf := 13) (ty := tyX0) cl3 dX0_fail_2 ly_170 11 (by decide) t_162 rfl rfl rfl rfl σ_1_e ?_
  refine z_aload_n (M := M_X0_fail) dX0_fail_5 rfl ?_
  refine z_aload_n (M := M_X0_fail) dX0_fail_6 rfl ?_
  refine z_getI (M := M_X0_fail) (ci := 3) (C := RX0) (T := TX0) (Nf := 13) (ty := tyX0) cl3 dX0_fail_7 ly_170 6 (by decide) t_157 rfl rfl ?_
  obtain ⟨σ_2, σ_2_e, H⟩ := wf_e H
  refine z_putI (M := M_X0_fail) (ci := 3) (C := RX0) (T := TX0) (Nf := 13) (ty := tyX0) cl3 dX0_fail_10 ly_170 12 (by decide) t_164 rfl rfl rfl rfl σ_2_e ?_
  refine z_zconst (M := M_X0_fail) (b := false) dX0_fail_13 rfl ?_
  cases H
  exact z_zret (M := M_X0_fail) dX0_fail_14 rfl (Nat.le_of_ble_eq_true rfl) (Nat.le_of_ble_eq_true rfl) ⟨rfl, rfl⟩
theorem c_X0_isPartLeft (hl : l.stackTraces = false) {σ : SG} {r : Bool} {σ' : SG}  (H : fB_isPartLeft σ = some (r, σ')) : en_S l E M_X0_isPartLeft 1 0 0 [vr 170] σ (pS (some (zv r)) σ') := by
  unfold fB_isPartLeft at H
  refine z_mk (lv := [some (vr 170)]) m_X0_isPartLeft rfl hl (Nat.le_of_ble_eq_true rfl) rfl ?_
  obtain ⟨rl_5, hw_2, hk_3⟩ := bd_e H
  have J_40 : ∀ σ_37, rl_5 = σ_37 → YY l E M_X0_isPartLeft 1 0 0 (pS (some (zv r)) σ') 60 [some (vr 170)] [] σ_37 0 0 := by
    intro σ_37 e
    have H := hk_3
    rw [e] at H
    have J_38 : YY l E M_X0_isPartLeft 1 0 0 (pS (some (zv r)) σ') 72 [some (vr 170)] [zv (decide (0 < (w32 (σ_37 kB_depth 0))))] σ_37 0 0 := by
      cases H
      exact z_zret (M := M_X0_isPartLeft) dX0_isPartLeft_72 rfl (Nat.le_of_ble_eq_true rfl) (Nat.le_of_ble_eq_true rfl) ⟨rfl, rfl⟩
    refine z_aload_n (M := M_X0_isPartLeft) dX0_isPartLeft_60 rfl ?_
    refine z_getI (M := M_X0_isPartLeft) (ci := 3) (C := RX0) (T := TX0) (Nf := 13) (ty := tyX0) cl3 dX0_isPartLeft_61 ly_170 7 (by decide) t_158 rfl rfl ?_
    by_cases h_39 : 0 < (w32 (σ_37 kB_depth 0))
    · refine z_if_le_f (M := M_X0_isPartLeft) (tgt := 71) dX0_isPartLeft_64 (by decide) rfl h_39 ?_
      refine z_iconst (M := M_X0_isPartLeft) dX0_isPartLeft_67 ?_
      refine z_goto (M := M_X0_isPartLeft) (tgt := 72) dX0_isPartLeft_68 (by decide) ?_
      exact z_st (by rw [zv_t (p := 0 < (w32 (σ_37 kB_depth 0))) h_39]) J_38
    · refine z_if_le_t (M := M_X0_isPartLeft) (tgt := 71) dX0_isPartLeft_64 (by decide) rfl (Int.not_lt.mp h_39) ?_
      refine z_iconst (M := M_X0_isPartLeft) dX0_isPartLeft_71 ?_
      exact z_st (by rw [zv_f (p := 0 < (w32 (σ_37 kB_depth 0))) h_39]) J_38
  refine whl_go hw_2 (fun σ_1 => YY l E M_X0_isPartLeft 1 0 0 (pS (some (zv r)) σ') 0 [some (vr 170)] [] σ_1 0 0) ?_
  rintro σ_1 o_6 H K_7 K_8
  refine z_aload_n (M := M_X0_isPartLeft) dX0_isPartLeft_0 rfl ?_
  refine z_getI (M := M_X0_isPartLeft) (ci := 3) (C := RX0) (T := TX0) (Nf := 13) (ty := tyX0) cl3 dX0_isPartLeft_1 ly_170 7 (by decide) t_158 rfl rfl ?_
  rcases if_e H with ⟨h_17, H⟩ | ⟨h_17, H⟩
  · refine z_if_le_f (M := M_X0_isPartLeft) (tgt := 60) dX0_isPartLeft_4 (by decide) rfl h_17 ?_
    refine z_aload_n (M := M_X0_isPartLeft) dX0_isPartLeft_7 rfl ?_
    refine z_getR (M := M_X0_isPartLeft) (ci := 3) (C := RX0) (T := TX0) (Nf := 13) (ty := tyX0) cl3 dX0_isPartLeft_8 ly_170 2 (by decide) t_153 rfl ?_
    refine z_aload_n (M := M_X0_isPartLeft) dX0_isPartLeft_11 rfl ?_
    refine z_getI (M := M_X0_isPartLeft) (ci := 3) (C := RX0) (T := TX0) (Nf := 13) (ty := tyX0) cl3 dX0_isPartLeft_12 ly_170 7 (by decide) t_158 rfl rfl ?_
    refine z_iconst (M := M_X0_isPartLeft) dX0_isPartLeft_15 ?_
    refine z_isub (M := M_X0_isPartLeft) dX0_isPartLeft_16 ?_
    obtain ⟨x_18, x_18_e, hi_19, H⟩ := rd_e H
    refine z_lald (M := M_X0_isPartLeft) dX0_isPartLeft_17 ly_171 rfl rfl rfl hi_19 x_18_e ?_
    refine z_lconst (M := M_X0_isPartLeft) (m := 0) dX0_isPartLeft_18 (by decide +kernel) ?_
    refine z_lcmp (M := M_X0_isPartLeft) dX0_isPartLeft_19 ?_
    rcases if_e H with ⟨h_20, H⟩ | ⟨h_20, H⟩
    · refine z_lif_gt_f (M := M_X0_isPartLeft) (tgt := 60) dX0_isPartLeft_20 (by decide) rfl (by decide +kernel) h_20 ?_
      refine z_aload_n (M := M_X0_isPartLeft) dX0_isPartLeft_23 rfl ?_
      refine z_dup (M := M_X0_isPartLeft) dX0_isPartLeft_24 rfl ?_
      refine z_getI (M := M_X0_isPartLeft) (ci := 3) (C := RX0) (T := TX0) (Nf := 13) (ty := tyX0) cl3 dX0_isPartLeft_25 ly_170 7 (by decide) t_158 rfl rfl ?_
      refine z_iconst (M := M_X0_isPartLeft) dX0_isPartLeft_28 ?_
      refine z_isub (M := M_X0_isPartLeft) dX0_isPartLeft_29 ?_
      obtain ⟨σ_21, σ_21_e, H⟩ := wf_e H
      refine z_putI (M := M_X0_isPartLeft) (ci := 3) (C := RX0) (T := TX0) (Nf := 13) (ty := tyX0) cl3 dX0_isPartLeft_30 ly_170 7 (by decide) t_158 rfl rfl rfl rfl σ_21_e ?_
      obtain ⟨v_25, he_22, hk_23⟩ := bd_e H
      have J_34 : ∀ σ_32, v_25 = σ_32 → YY l E M_X0_isPartLeft 1 0 0 (pS (some (zv r)) σ') 0 [some (vr 170)] [] σ_32 0 0 := by
        intro σ_32 e
        have H := hk_23
        rw [e] at H
        exact K_7 _ (Option.some.inj H).symm
      have H := he_22
      refine z_aload_n (M := M_X0_isPartLeft) dX0_isPartLeft_33 rfl ?_
      refine z_getR (M := M_X0_isPartLeft) (ci := 3) (C := RX0) (T := TX0) (Nf := 13) (ty := tyX0) cl3 dX0_isPartLeft_34 ly_170 3 (by decide) t_154 rfl ?_
      refine z_aload_n (M := M_X0_isPartLeft) dX0_isPartLeft_37 rfl ?_
      refine z_getI (M := M_X0_isPartLeft) (ci := 3) (C := RX0) (T := TX0) (Nf := 13) (ty := tyX0) cl3 dX0_isPartLeft_38 ly_170 7 (by decide) t_158 rfl rfl ?_
      obtain ⟨x_26, x_26_e, hi_27, H⟩ := rd_e H
      refine z_iald (M := M_X0_isPartLeft) dX0_isPartLeft_41 ly_172 rfl rfl rfl hi_27 x_26_e ?_
      refine z_bipush (M := M_X0_isPartLeft) dX0_isPartLeft_42 (by decide +kernel) ?_
      rcases if_e H with ⟨h_28, H⟩ | ⟨h_28, H⟩
      · refine z_icmp_ne_f (M := M_X0_isPartLeft) (tgt := 0) dX0_isPartLeft_44 (by decide) rfl (by decide +kernel) h_28 ?_
        refine z_aload_n (M := M_X0_isPartLeft) dX0_isPartLeft_47 rfl ?_
        refine z_dup (M := M_X0_isPartLeft) dX0_isPartLeft_48 rfl ?_
        refine z_getI (M := M_X0_isPartLeft) (ci := 3) (C := RX0) (T := TX0) (Nf := 13) (ty := tyX0) cl3 dX0_isPartLeft_49 ly_170 8 (by decide) t_159 rfl rfl ?_
        refine z_iconst (M := M_X0_isPartLeft) dX0_isPartLeft_52 ?_
        refine z_isub (M := M_X0_isPartLeft) dX0_isPartLeft_53 ?_
        obtain ⟨σ_29, σ_29_e, H⟩ := wf_e H
        refine z_putI (M := M_X0_isPartLeft) (ci := 3) (C := RX0) (T := TX0) (Nf := 13) (ty := tyX0) cl3 dX0_isPartLeft_54 ly_170 8 (by decide) t_159 rfl rfl rfl rfl σ_29_e ?_
        refine z_goto (M := M_X0_isPartLeft) (tgt := 0) dX0_isPartLeft_57 (by decide) ?_
        exact J_34 _ (Option.some.inj H).symm
      · refine z_icmp_ne_t (M := M_X0_isPartLeft) (tgt := 0) dX0_isPartLeft_44 (by decide) rfl (by decide +kernel) h_28 ?_
        exact J_34 _ (Option.some.inj H).symm
    · refine z_lif_gt_t (M := M_X0_isPartLeft) (tgt := 60) dX0_isPartLeft_20 (by decide) rfl (by decide +kernel) (Int.not_le.mp h_20) ?_
      exact J_40 _ (K_8 _ (Option.some.inj H).symm).symm
  · refine z_if_le_t (M := M_X0_isPartLeft) (tgt := 60) dX0_isPartLeft_4 (by decide) rfl (Int.not_lt.mp h_17) ?_
    exact J_40 _ (K_8 _ (Option.some.inj H).symm).symm
theorem c_X0_has (hl : l.stackTraces = false) {σ : SG} {bytes_0 : Int} {r : Bool}  (H : fB_has σ bytes_0 = r) : en_S l E M_X0_has 1 0 0 [vr 170, vi bytes_0] σ (pS (some (zv r)) σ) := by
  unfold fB_has at H
  refine z_mk (lv := [some (vr 170), some (vi bytes_0)]) m_X0_has rfl hl (Nat.le_of_ble_eq_true rfl) rfl ?_
  have J_1 : YY l E M_X0_has 1 0 0 (pS (some (zv r)) σ) 18 [some (vr 170), some (vi bytes_0)] [zv (decide ((w32 bytes_0) ≤ (w32 ((σ kB_length 0) - (σ kB_at 0)))))] σ 0 0 := by
    cases H
    exact z_zret (M := M_X0_has) dX0_has_18 rfl (Nat.le_of_ble_eq_true rfl) (Nat.le_of_ble_eq_true rfl) ⟨rfl, rfl⟩
  refine z_aload_n (M := M_X0_has) dX0_has_0 rfl ?_
  refine z_getI (M := M_X0_has) (ci := 3) (C := RX0) (T := TX0) (Nf := 13) (ty := tyX0) cl3 dX0_has_1 ly_170 5 (by decide) t_156 rfl rfl ?_
  refine z_aload_n (M := M_X0_has) dX0_has_4 rfl ?_
  refine z_getI (M := M_X0_has) (ci := 3) (C := RX0) (T := TX0) (Nf := 13) (ty := tyX0) cl3 dX0_has_5 ly_170 6 (by decide) t_157 rfl rfl ?_
  refine z_isub (M := M_X0_has) dX0_has_8 ?_
  refine z_iload_n (M := M_X0_has) dX0_has_9 rfl ?_
  by_cases h_2 : (w32 bytes_0) ≤ (w32 ((σ kB_length 0) - (σ kB_at 0)))
  · refine z_icmp_lt_f (M := M_X0_has) (tgt := 17) dX0_has_10 (by decide) rfl rfl h_2 ?_
    refine z_iconst (M := M_X0_has) dX0_has_13 ?_
    refine z_goto (M := M_X0_has) (tgt := 18) dX0_has_14 (by decide) ?_
    exact z_st (by rw [zv_t (p := (w32 bytes_0) ≤ (w32 ((σ kB_length 0) - (σ kB_at 0)))) h_2]) J_1
  · refine z_icmp_lt_t (M := M_X0_has) (tgt := 17) dX0_has_10 (by decide) rfl rfl (Int.not_le.mp h_2) ?_
    refine z_iconst (M := M_X0_has) dX0_has_17 ?_
    exact z_st (by rw [zv_f (p := (w32 bytes_0) ≤ (w32 ((σ kB_length 0) - (σ kB_at 0)))) h_2]) J_1
theorem c_X0_numberAt (hl : l.stackTraces = false) {σ : SG} {from_0 : Int} {bytes_0 : Int} {r : Int}  (H : fB_numberAt σ from_0 bytes_0 = some r) : en_S l E M_X0_numberAt 1 0 0 [vr 170, vi from_0, vi bytes_0] σ (pS (some (vl r)) σ) := by
  unfold fB_numberAt at H
  refine z_mk (lv := [some (vr 170), some (vi from_0), some (vi bytes_0), none, none, none, none, none]) m_X0_numberAt rfl hl (Nat.le_of_ble_eq_true rfl) rfl ?_
  refine z_lconst (M := M_X0_numberAt) (m := 0) dX0_numberAt_0 (by decide +kernel) ?_
  refine z_lstore_n (M := M_X0_numberAt) (lv' := [some (vr 170), some (vi from_0), some (vi bytes_0), some (vl 0), none, none, none, none]) dX0_numberAt_1 (Nat.le_of_ble_eq_true rfl) rfl rfl ?_
  refine z_iconst (M := M_X0_numberAt) dX0_numberAt_2 ?_
  refine z_istore (M := M_X0_numberAt) (lv' := [some (vr 170), some (vi from_0), some (vi bytes_0), some (vl 0), none, some (vi 0), none, none]) dX0_numberAt_3 (Nat.le_of_ble_eq_true rfl) rfl rfl ?_
  obtain ⟨rl_6, hw_3, hk_4⟩ := bd_e H
  have J_36 : ∀ value_34 i_35, rl_6 = (value_34, i_35) → YY l E M_X0_numberAt 1 0 0 (pS (some (vl r)) σ) 81 [some (vr 170), some (vi from_0), some (vi bytes_0), some (vl value_34), none, some (vi i_35), none, none] [] σ 0 0 := by
    intro value_34 i_35 e
    have H := hk_4
    rw [e] at H
    refine z_lload_n (M := M_X0_numberAt) dX0_numberAt_81 rfl ?_
    cases H
    exact z_lret (M := M_X0_numberAt) dX0_numberAt_82 rfl (Nat.le_of_ble_eq_true rfl) (Nat.le_of_ble_eq_true rfl) ⟨rfl, rfl⟩
  refine whl_go hw_3 (fun (value_1, i_2) => YY l E M_X0_numberAt 1 0 0 (pS (some (vl r)) σ) 5 [some (vr 170), some (vi from_0), some (vi bytes_0), some (vl value_1), none, some (vi i_2), none, none] [] σ 0 0) ?_
  rintro ⟨value_1, i_2⟩ o_7 H K_8 K_9
  refine z_iload (M := M_X0_numberAt) dX0_numberAt_5 rfl ?_
  refine z_iload_n (M := M_X0_numberAt) dX0_numberAt_7 rfl ?_
  rcases if_e H with ⟨h_10, H⟩ | ⟨h_10, H⟩
  · refine z_icmp_ge_f (M := M_X0_numberAt) (tgt := 81) dX0_numberAt_8 (by decide) rfl rfl h_10 ?_
    have J_11 : YY l E M_X0_numberAt 1 0 0 (pS (some (vl r)) σ) 33 [some (vr 170), some (vi from_0), some (vi bytes_0), some (vl value_1), none, some (vi i_2), none, none] [vi (if (nz (σ kB_lowFirst 0)) = true then (((from_0 + bytes_0) - 1) - i_2) else (from_0 + i_2))] σ 0 0 := by
      obtain ⟨x_12, x_12_e, H⟩ := lt_e H
      refine z_st (congrArg (fun z => vi z :: []) x_12_e) ?_
      refine z_istore (M := M_X0_numberAt) (lv' := [some (vr 170), some (vi from_0), some (vi bytes_0), some (vl value_1), none, some (vi i_2), some (vi x_12), none]) dX0_numberAt_33 (Nat.le_of_ble_eq_true rfl) rfl rfl ?_
      obtain ⟨v_28, he_29, hk_30⟩ := bd_e H
      have J_31 : ∀ x_26, v_28 = x_26 → YY l E M_X0_numberAt 1 0 0 (pS (some (vl r)) σ) 64 [some (vr 170), some (vi from_0), some (vi bytes_0), some (vl value_1), none, some (vi i_2), some (vi x_12), none] [vi x_26] σ 0 0 := by
        intro x_26 e
        have H := hk_30
        rw [e] at H
        refine z_istore (M := M_X0_numberAt) (lv' := [some (vr 170), some (vi from_0), some (vi bytes_0), some (vl value_1), none, some (vi i_2), some (vi x_12), some (vi x_26)]) dX0_numberAt_64 (Nat.le_of_ble_eq_true rfl) rfl rfl ?_
        refine z_lload_n (M := M_X0_numberAt) dX0_numberAt_66 rfl ?_
        refine z_bipush (M := M_X0_numberAt) dX0_numberAt_67 (by decide +kernel) ?_
        refine z_lshl (M := M_X0_numberAt) dX0_numberAt_69 ?_
        refine z_iload (M := M_X0_numberAt) dX0_numberAt_70 rfl ?_
        refine z_i2l (M := M_X0_numberAt) dX0_numberAt_72 ?_
        refine z_lor (M := M_X0_numberAt) dX0_numberAt_73 ?_
        refine z_lstore_n (M := M_X0_numberAt) (lv' := [some (vr 170), some (vi from_0), some (vi bytes_0), some (vl (q_lor (q_lsl value_1 8) (w32 x_26))), none, some (vi i_2), some (vi x_12), some (vi x_26)]) dX0_numberAt_74 (Nat.le_of_ble_eq_true rfl) rfl rfl ?_
        refine z_iinc (M := M_X0_numberAt) (lv' := [some (vr 170), some (vi from_0), some (vi bytes_0), some (vl (q_lor (q_lsl value_1 8) (w32 x_26))), none, some (vi (i_2 + 1)), some (vi x_12), some (vi x_26)]) dX0_numberAt_75 rfl (Nat.le_of_ble_eq_true rfl) rfl rfl ?_
        refine z_goto (M := M_X0_numberAt) (tgt := 5) dX0_numberAt_78 (by decide) ?_
        refine z_le (lv' := [some (vr 170), some (vi from_0), some (vi bytes_0), some (vl (q_lor (q_lsl value_1 8) (w32 x_26))), none, some (vi (i_2 + 1)), none, none]) ⟨Or.inr rfl, Or.inr rfl, Or.inr rfl, Or.inr rfl, Or.inl rfl, Or.inr rfl, Or.inl rfl, Or.inl rfl, trivial⟩ ?_
        exact K_8 _ (Option.some.inj H).symm
      have H := he_29
      rcases if_e H with ⟨h_19, H⟩ | ⟨h_19, H⟩
      · have J_20 : YY l E M_X0_numberAt 1 0 0 (pS (some (vl r)) σ) 49 [some (vr 170), some (vi from_0), some (vi bytes_0), some (vl value_1), none, some (vi i_2), some (vi x_12), none] [] σ 0 0 := by
          refine z_aload_n (M := M_X0_numberAt) dX0_numberAt_49 rfl ?_
          refine z_getR (M := M_X0_numberAt) (ci := 3) (C := RX0) (T := TX0) (Nf := 13) (ty := tyX0) cl3 dX0_numberAt_50 ly_170 1 (by decide) t_152 rfl ?_
          refine z_iload (M := M_X0_numberAt) dX0_numberAt_53 rfl ?_
          obtain ⟨x_15, x_15_e, hi_16, H⟩ := rd_e H
          refine z_bald (M := M_X0_numberAt) dX0_numberAt_55 ly_166 rfl rfl rfl hi_16 x_15_e ?_
          refine z_sipush (M := M_X0_numberAt) dX0_numberAt_56 (by decide +kernel) ?_
          refine z_iand (M := M_X0_numberAt) dX0_numberAt_59 ?_
          refine z_goto (M := M_X0_numberAt) (tgt := 64) dX0_numberAt_60 (by decide) ?_
          exact J_31 _ (Option.some.inj H).symm
        refine z_iload (M := M_X0_numberAt) dX0_numberAt_35 rfl ?_
        by_cases h_22 : 0 ≤ (w32 x_12)
        · refine z_if_lt_f (M := M_X0_numberAt) (tgt := 63) dX0_numberAt_37 (by decide) rfl h_22 ?_
          refine z_iload (M := M_X0_numberAt) dX0_numberAt_40 rfl ?_
          refine z_aload_n (M := M_X0_numberAt) dX0_numberAt_42 rfl ?_
          refine z_getI (M := M_X0_numberAt) (ci := 3) (C := RX0) (T := TX0) (Nf := 13) (ty := tyX0) cl3 dX0_numberAt_43 ly_170 5 (by decide) t_156 rfl rfl ?_
          by_cases h_23 : (w32 x_12) < (w32 (σ kB_length 0))
          · refine z_icmp_ge_f (M := M_X0_numberAt) (tgt := 63) dX0_numberAt_46 (by decide) rfl rfl h_23 ?_
            exact J_20
          · refine z_icmp_ge_t (M := M_X0_numberAt) (tgt := 63) dX0_numberAt_46 (by decide) rfl rfl (Int.not_lt.mp h_23) ?_
            exact absurd h_19 (fun q => h_23 q.2)
        · refine z_if_lt_t (M := M_X0_numberAt) (tgt := 63) dX0_numberAt_37 (by decide) rfl (Int.not_le.mp h_22) ?_
          exact absurd h_19 (fun q => h_22 q.1)
      · have J_21 : YY l E M_X0_numberAt 1 0 0 (pS (some (vl r)) σ) 63 [some (vr 170), some (vi from_0), some (vi bytes_0), some (vl value_1), none, some (vi i_2), some (vi x_12), none] [] σ 0 0 := by
          refine z_iconst (M := M_X0_numberAt) dX0_numberAt_63 ?_
          exact J_31 _ (Option.some.inj H).symm
        refine z_iload (M := M_X0_numberAt) dX0_numberAt_35 rfl ?_
        by_cases h_24 : 0 ≤ (w32 x_12)
        · refine z_if_lt_f (M := M_X0_numberAt) (tgt := 63) dX0_numberAt_37 (by decide) rfl h_24 ?_
          refine z_iload (M := M_X0_numberAt) dX0_numberAt_40 rfl ?_
          refine z_aload_n (M := M_X0_numberAt) dX0_numberAt_42 rfl ?_
          refine z_getI (M := M_X0_numberAt) (ci := 3) (C := RX0) (T := TX0) (Nf := 13) (ty := tyX0) cl3 dX0_numberAt_43 ly_170 5 (by decide) t_156 rfl rfl ?_
          by_cases h_25 : (w32 x_12) < (w32 (σ kB_length 0))
          · refine z_icmp_ge_f (M := M_X0_numberAt) (tgt := 63) dX0_numberAt_46 (by decide) rfl rfl h_25 ?_
            exact absurd ⟨h_24, h_25⟩ h_19
          · refine z_icmp_ge_t (M := M_X0_numberAt) (tgt := 63) dX0_numberAt_46 (by decide) rfl rfl (Int.not_lt.mp h_25) ?_
            exact J_21
        · refine z_if_lt_t (M := M_X0_numberAt) (tgt := 63) dX0_numberAt_37 (by decide) rfl (Int.not_le.mp h_24) ?_
          exact J_21
    refine z_aload_n (M := M_X0_numberAt) dX0_numberAt_11 rfl ?_
    refine z_getZ (M := M_X0_numberAt) (ci := 3) (C := RX0) (T := TX0) (Nf := 13) (ty := tyX0) cl3 dX0_numberAt_12 ly_170 9 (by decide) t_160 rfl rfl ?_
    by_cases h_32 : (nz (σ kB_lowFirst 0)) = true
    · refine z_zeq_f (M := M_X0_numberAt) (tgt := 29) dX0_numberAt_15 (by decide) h_32 ?_
      refine z_iload_n (M := M_X0_numberAt) dX0_numberAt_18 rfl ?_
      refine z_iload_n (M := M_X0_numberAt) dX0_numberAt_19 rfl ?_
      refine z_iadd (M := M_X0_numberAt) dX0_numberAt_20 ?_
      refine z_iconst (M := M_X0_numberAt) dX0_numberAt_21 ?_
      refine z_isub (M := M_X0_numberAt) dX0_numberAt_22 ?_
      refine z_iload (M := M_X0_numberAt) dX0_numberAt_23 rfl ?_
      refine z_isub (M := M_X0_numberAt) dX0_numberAt_25 ?_
      refine z_goto (M := M_X0_numberAt) (tgt := 33) dX0_numberAt_26 (by decide) ?_
      exact z_st (by rw [if_pos (c := (nz (σ kB_lowFirst 0)) = true) h_32]) J_11
    · refine z_zeq_t (M := M_X0_numberAt) (tgt := 29) dX0_numberAt_15 (by decide) h_32 ?_
      refine z_iload_n (M := M_X0_numberAt) dX0_numberAt_29 rfl ?_
      refine z_iload (M := M_X0_numberAt) dX0_numberAt_30 rfl ?_
      refine z_iadd (M := M_X0_numberAt) dX0_numberAt_32 ?_
      exact z_st (by rw [if_neg (c := (nz (σ kB_lowFirst 0)) = true) h_32]) J_11
  · refine z_icmp_ge_t (M := M_X0_numberAt) (tgt := 81) dX0_numberAt_8 (by decide) rfl rfl (Int.not_lt.mp h_10) ?_
    exact J_36 _ _ (K_9 _ (Option.some.inj H).symm).symm
theorem c_X0_openLevel (hl : l.stackTraces = false) {σ : SG} {kind_0 : Int} {parts_0 : Int} {r : Bool} {σ' : SG}  (H : fB_openLevel σ kind_0 parts_0 = some (r, σ')) : en_S l E M_X0_openLevel 2 0 0 [vr 170, vi kind_0, vl parts_0] σ (pS (some (zv r)) σ') := by
  unfold fB_openLevel at H
  refine z_mk (lv := [some (vr 170), some (vi kind_0), some (vl parts_0), none]) m_X0_openLevel rfl hl (Nat.le_of_ble_eq_true rfl) rfl ?_
  refine z_aload_n (M := M_X0_openLevel) dX0_openLevel_0 rfl ?_
  refine z_getI (M := M_X0_openLevel) (ci := 3) (C := RX0) (T := TX0) (Nf := 13) (ty := tyX0) cl3 dX0_openLevel_1 ly_170 7 (by decide) t_158 rfl rfl ?_
  refine z_bipush (M := M_X0_openLevel) dX0_openLevel_4 (by decide +kernel) ?_
  rcases if_e H with ⟨h_1, H⟩ | ⟨h_1, H⟩
  · refine z_icmp_lt_f (M := M_X0_openLevel) (tgt := 16) dX0_openLevel_6 (by decide) rfl (by decide +kernel) h_1 ?_
    refine z_aload_n (M := M_X0_openLevel) dX0_openLevel_9 rfl ?_
    refine z_bipush (M := M_X0_openLevel) dX0_openLevel_10 (by decide +kernel) ?_
    obtain ⟨⟨x_4, σ_3⟩, hc_2, H⟩ := bd_e H
    refine z_callV (M := M_X0_openLevel) (M' := M_X0_fail) (as := [vi 6]) (rest := []) rfl rfl dX0_openLevel_12 m_X0_fail t_975 t_977 s_25 (c_X0_fail hl  hc_2) rfl rfl ly_170 rfl (Nat.le_of_ble_eq_true rfl) (Nat.le_of_ble_eq_true rfl) (Nat.le_of_ble_eq_true rfl) (Nat.le_of_ble_eq_true rfl) ?_
    refine z_st (st' := [zv x_4]) rfl ?_
    cases H
    exact z_zret (M := M_X0_openLevel) dX0_openLevel_15 rfl (Nat.le_of_ble_eq_true rfl) (Nat.le_of_ble_eq_true rfl) ⟨rfl, rfl⟩
  · refine z_icmp_lt_t (M := M_X0_openLevel) (tgt := 16) dX0_openLevel_6 (by decide) rfl (by decide +kernel) (Int.not_le.mp h_1) ?_
    refine z_aload_n (M := M_X0_openLevel) dX0_openLevel_16 rfl ?_
    refine z_getR (M := M_X0_openLevel) (ci := 3) (C := RX0) (T := TX0) (Nf := 13) (ty := tyX0) cl3 dX0_openLevel_17 ly_170 3 (by decide) t_154 rfl ?_
    refine z_aload_n (M := M_X0_openLevel) dX0_openLevel_20 rfl ?_
    refine z_getI (M := M_X0_openLevel) (ci := 3) (C := RX0) (T := TX0) (Nf := 13) (ty := tyX0) cl3 dX0_openLevel_21 ly_170 7 (by decide) t_158 rfl rfl ?_
    refine z_iload_n (M := M_X0_openLevel) dX0_openLevel_24 rfl ?_
    obtain ⟨σ_5, σ_5_e, hi_6, H⟩ := wa_e H
    refine z_iast (M := M_X0_openLevel) dX0_openLevel_25 ly_172 rfl rfl rfl hi_6 σ_5_e ?_
    refine z_aload_n (M := M_X0_openLevel) dX0_openLevel_26 rfl ?_
    refine z_getR (M := M_X0_openLevel) (ci := 3) (C := RX0) (T := TX0) (Nf := 13) (ty := tyX0) cl3 dX0_openLevel_27 ly_170 2 (by decide) t_153 rfl ?_
    refine z_aload_n (M := M_X0_openLevel) dX0_openLevel_30 rfl ?_
    refine z_getI (M := M_X0_openLevel) (ci := 3) (C := RX0) (T := TX0) (Nf := 13) (ty := tyX0) cl3 dX0_openLevel_31 ly_170 7 (by decide) t_158 rfl rfl ?_
    refine z_lload_n (M := M_X0_openLevel) dX0_openLevel_34 rfl ?_
    obtain ⟨σ_7, σ_7_e, hi_8, H⟩ := wa_e H
    refine z_last (M := M_X0_openLevel) dX0_openLevel_35 ly_171 rfl rfl rfl hi_8 σ_7_e ?_
    refine z_aload_n (M := M_X0_openLevel) dX0_openLevel_36 rfl ?_
    refine z_dup (M := M_X0_openLevel) dX0_openLevel_37 rfl ?_
    refine z_getI (M := M_X0_openLevel) (ci := 3) (C := RX0) (T := TX0) (Nf := 13) (ty := tyX0) cl3 dX0_openLevel_38 ly_170 7 (by decide) t_158 rfl rfl ?_
    refine z_iconst (M := M_X0_openLevel) dX0_openLevel_41 ?_
    refine z_iadd (M := M_X0_openLevel) dX0_openLevel_42 ?_
    obtain ⟨σ_9, σ_9_e, H⟩ := wf_e H
    refine z_putI (M := M_X0_openLevel) (ci := 3) (C := RX0) (T := TX0) (Nf := 13) (ty := tyX0) cl3 dX0_openLevel_43 ly_170 7 (by decide) t_158 rfl rfl rfl rfl σ_9_e ?_
    obtain ⟨v_13, he_10, hk_11⟩ := bd_e H
    have J_19 : ∀ σ_18, v_13 = σ_18 → YY l E M_X0_openLevel 2 0 0 (pS (some (zv r)) σ') 62 [some (vr 170), some (vi kind_0), some (vl parts_0), none] [] σ_18 0 0 := by
      intro σ_18 e
      have H := hk_11
      rw [e] at H
      refine z_zconst (M := M_X0_openLevel) (b := true) dX0_openLevel_62 rfl ?_
      cases H
      exact z_zret (M := M_X0_openLevel) dX0_openLevel_63 rfl (Nat.le_of_ble_eq_true rfl) (Nat.le_of_ble_eq_true rfl) ⟨rfl, rfl⟩
    have H := he_10
    refine z_iload_n (M := M_X0_openLevel) dX0_openLevel_46 rfl ?_
    refine z_bipush (M := M_X0_openLevel) dX0_openLevel_47 (by decide +kernel) ?_
    rcases if_e H with ⟨h_14, H⟩ | ⟨h_14, H⟩
    · refine z_icmp_ne_f (M := M_X0_openLevel) (tgt := 62) dX0_openLevel_49 (by decide) rfl (by decide +kernel) h_14 ?_
      refine z_aload_n (M := M_X0_openLevel) dX0_openLevel_52 rfl ?_
      refine z_dup (M := M_X0_openLevel) dX0_openLevel_53 rfl ?_
      refine z_getI (M := M_X0_openLevel) (ci := 3) (C := RX0) (T := TX0) (Nf := 13) (ty := tyX0) cl3 dX0_openLevel_54 ly_170 8 (by decide) t_159 rfl rfl ?_
      refine z_iconst (M := M_X0_openLevel) dX0_openLevel_57 ?_
      refine z_iadd (M := M_X0_openLevel) dX0_openLevel_58 ?_
      obtain ⟨σ_15, σ_15_e, H⟩ := wf_e H
      refine z_putI (M := M_X0_openLevel) (ci := 3) (C := RX0) (T := TX0) (Nf := 13) (ty := tyX0) cl3 dX0_openLevel_59 ly_170 8 (by decide) t_159 rfl rfl rfl rfl σ_15_e ?_
      exact J_19 _ (Option.some.inj H).symm
    · refine z_icmp_ne_t (M := M_X0_openLevel) (tgt := 62) dX0_openLevel_49 (by decide) rfl (by decide +kernel) h_14 ?_
      exact J_19 _ (Option.some.inj H).symm
theorem c_X0_roundedFrom (hl : l.stackTraces = false) {σ : SG} {power_0 : Int} {fraction_0 : Int} {r : Int}  (H : fB_roundedFrom σ power_0 fraction_0 = some r) : en_S l E M_X0_roundedFrom 1 0 0 [vr 170, vi power_0, vl fraction_0] σ (pS (some (vl r)) σ) := by
  unfold fB_roundedFrom at H
  refine z_mk (lv := [some (vr 170), some (vi power_0), some (vl fraction_0), none, none, none, none, none, none, none, none, none, none, none, none, none]) m_X0_roundedFrom rfl hl (Nat.le_of_ble_eq_true rfl) rfl ?_
  have J_1 : YY l E M_X0_roundedFrom 1 0 0 (pS (some (vl r)) σ) 15 [some (vr 170), some (vi power_0), some (vl fraction_0), none, none, none, none, none, none, none, none, none, none, none, none, none] [vl (if (w32 power_0) = 0 then fraction_0 else ((fraction_0 + 4503599627370495) + 1))] σ 0 0 := by
    obtain ⟨x_2, x_2_e, H⟩ := lt_e H
    refine z_st (congrArg (fun z => vl z :: []) x_2_e) ?_
    refine z_lstore (M := M_X0_roundedFrom) (lv' := [some (vr 170), some (vi power_0), some (vl fraction_0), none, some (vl x_2), none, none, none, none, none, none, none, none, none, none, none]) dX0_roundedFrom_15 (Nat.le_of_ble_eq_true rfl) rfl rfl ?_
    refine z_sipush (M := M_X0_roundedFrom) dX0_roundedFrom_17 (by decide +kernel) ?_
    refine z_iload_n (M := M_X0_roundedFrom) dX0_roundedFrom_20 rfl ?_
    refine z_iconst (M := M_X0_roundedFrom) dX0_roundedFrom_21 ?_
    refine z_mmax (M := M_X0_roundedFrom) dX0_roundedFrom_22 t_1012 t_1013 t_20 t_1014 (Nat.le_of_ble_eq_true rfl) (Nat.le_of_ble_eq_true rfl) (Nat.le_of_ble_eq_true rfl) (Nat.le_of_ble_eq_true rfl) ?_
    refine z_isub (M := M_X0_roundedFrom) dX0_roundedFrom_25 ?_
    refine z_istore (M := M_X0_roundedFrom) (lv' := [some (vr 170), some (vi power_0), some (vl fraction_0), none, some (vl x_2), none, some (vi (1075 - (q_mxi power_0 1))), none, none, none, none, none, none, none, none, none]) dX0_roundedFrom_26 (Nat.le_of_ble_eq_true rfl) rfl rfl ?_
    refine z_lload (M := M_X0_roundedFrom) dX0_roundedFrom_28 rfl ?_
    refine z_getsU (M := M_X0_roundedFrom) dX0_roundedFrom_30 n_1015 ?_
    refine z_aload_n (M := M_X0_roundedFrom) dX0_roundedFrom_33 rfl ?_
    refine z_getI (M := M_X0_roundedFrom) (ci := 3) (C := RX0) (T := TX0) (Nf := 13) (ty := tyX0) cl3 dX0_roundedFrom_34 ly_170 0 (by decide) t_151 rfl rfl ?_
    obtain ⟨hi_3, H⟩ := ck_e H
    refine z_tald (M := M_X0_roundedFrom) dX0_roundedFrom_37 rfl hi_3 ?_
    refine z_i2l (M := M_X0_roundedFrom) dX0_roundedFrom_38 ?_
    refine z_lmul (M := M_X0_roundedFrom) dX0_roundedFrom_39 ?_
    refine z_lstore (M := M_X0_roundedFrom) (lv' := [some (vr 170), some (vi power_0), some (vl fraction_0), none, some (vl x_2), none, some (vi (1075 - (q_mxi power_0 1))), some (vl (x_2 * (w32 (uNit (w32 (σ kB_digits 0)))))), none, none, none, none, none, none, none, none]) dX0_roundedFrom_40 (Nat.le_of_ble_eq_true rfl) rfl rfl ?_
    refine z_iload (M := M_X0_roundedFrom) dX0_roundedFrom_42 rfl ?_
    rcases if_e H with ⟨h_4, H⟩ | ⟨h_4, H⟩
    · refine z_if_gt_f (M := M_X0_roundedFrom) (tgt := 51) dX0_roundedFrom_44 (by decide) rfl h_4 ?_
      refine z_ldc2 (M := M_X0_roundedFrom) (n := 9223372036854775807) dX0_roundedFrom_47 t_1017 (by decide +kernel) ?_
      cases H
      exact z_lret (M := M_X0_roundedFrom) dX0_roundedFrom_50 rfl (Nat.le_of_ble_eq_true rfl) (Nat.le_of_ble_eq_true rfl) ⟨rfl, rfl⟩
    · refine z_if_gt_t (M := M_X0_roundedFrom) (tgt := 51) dX0_roundedFrom_44 (by decide) rfl (Int.not_le.mp h_4) ?_
      refine z_iload (M := M_X0_roundedFrom) dX0_roundedFrom_51 rfl ?_
      refine z_bipush (M := M_X0_roundedFrom) dX0_roundedFrom_53 (by decide +kernel) ?_
      rcases if_e H with ⟨h_5, H⟩ | ⟨h_5, H⟩
      · refine z_icmp_le_f (M := M_X0_roundedFrom) (tgt := 60) dX0_roundedFrom_55 (by decide) rfl (by decide +kernel) h_5 ?_
        refine z_lconst (M := M_X0_roundedFrom) (m := 0) dX0_roundedFrom_58 (by decide +kernel) ?_
        cases H
        exact z_lret (M := M_X0_roundedFrom) dX0_roundedFrom_59 rfl (Nat.le_of_ble_eq_true rfl) (Nat.le_of_ble_eq_true rfl) ⟨rfl, rfl⟩
      · refine z_icmp_le_t (M := M_X0_roundedFrom) (tgt := 60) dX0_roundedFrom_55 (by decide) rfl (by decide +kernel) (Int.not_lt.mp h_5) ?_
        refine z_lload (M := M_X0_roundedFrom) dX0_roundedFrom_60 rfl ?_
        refine z_iload (M := M_X0_roundedFrom) dX0_roundedFrom_62 rfl ?_
        refine z_lushr (M := M_X0_roundedFrom) dX0_roundedFrom_64 ?_
        obtain ⟨x_6, x_6_e, H⟩ := lt_e H
        refine z_st (congrArg (fun z => vl z :: []) x_6_e) ?_
        refine z_lstore (M := M_X0_roundedFrom) (lv' := [some (vr 170), some (vi power_0), some (vl fraction_0), none, some (vl x_2), none, some (vi (1075 - (q_mxi power_0 1))), some (vl (x_2 * (w32 (uNit (w32 (σ kB_digits 0)))))), none, some (vl x_6), none, none, none, none, none, none]) dX0_roundedFrom_65 (Nat.le_of_ble_eq_true rfl) rfl rfl ?_
        refine z_lload (M := M_X0_roundedFrom) dX0_roundedFrom_67 rfl ?_
        refine z_lload (M := M_X0_roundedFrom) dX0_roundedFrom_69 rfl ?_
        refine z_iload (M := M_X0_roundedFrom) dX0_roundedFrom_71 rfl ?_
        refine z_lshl (M := M_X0_roundedFrom) dX0_roundedFrom_73 ?_
        refine z_lsub (M := M_X0_roundedFrom) dX0_roundedFrom_74 ?_
        obtain ⟨x_7, x_7_e, H⟩ := lt_e H
        refine z_st (congrArg (fun z => vl z :: []) x_7_e) ?_
        refine z_lstore (M := M_X0_roundedFrom) (lv' := [some (vr 170), some (vi power_0), some (vl fraction_0), none, some (vl x_2), none, some (vi (1075 - (q_mxi power_0 1))), some (vl (x_2 * (w32 (uNit (w32 (σ kB_digits 0)))))), none, some (vl x_6), none, some (vl x_7), none, none, none, none]) dX0_roundedFrom_75 (Nat.le_of_ble_eq_true rfl) rfl rfl ?_
        refine z_lconst (M := M_X0_roundedFrom) (m := 1) dX0_roundedFrom_77 (by decide +kernel) ?_
        refine z_iload (M := M_X0_roundedFrom) dX0_roundedFrom_78 rfl ?_
        refine z_iconst (M := M_X0_roundedFrom) dX0_roundedFrom_80 ?_
        refine z_isub (M := M_X0_roundedFrom) dX0_roundedFrom_81 ?_
        refine z_lshl (M := M_X0_roundedFrom) dX0_roundedFrom_82 ?_
        refine z_lstore (M := M_X0_roundedFrom) (lv' := [some (vr 170), some (vi power_0), some (vl fraction_0), none, some (vl x_2), none, some (vi (1075 - (q_mxi power_0 1))), some (vl (x_2 * (w32 (uNit (w32 (σ kB_digits 0)))))), none, some (vl x_6), none, some (vl x_7), none, some (vl (q_lsl 1 ((1075 - (q_mxi power_0 1)) - 1))), none, none]) dX0_roundedFrom_83 (Nat.le_of_ble_eq_true rfl) rfl rfl ?_
        have J_8 : YY l E M_X0_roundedFrom 1 0 0 (pS (some (vl r)) σ) 115 [some (vr 170), some (vi power_0), some (vl fraction_0), none, some (vl x_2), none, some (vi (1075 - (q_mxi power_0 1))), some (vl (x_2 * (w32 (uNit (w32 (σ kB_digits 0)))))), none, some (vl x_6), none, some (vl x_7), none, some (vl (q_lsl 1 ((1075 - (q_mxi power_0 1)) - 1))), none, none] [zv (decide (((w64 (q_lsl 1 ((1075 - (q_mxi power_0 1)) - 1))) < (w64 x_7)) ∨ (((w64 x_7) = (w64 (q_lsl 1 ((1075 - (q_mxi power_0 1)) - 1)))) ∧ ((w64 (q_lan x_6 1)) = 1))))] σ 0 0 := by
          obtain ⟨x_9, x_9_e, H⟩ := lt_e H
          refine z_st (congrArg (fun z => zv z :: []) x_9_e) ?_
          refine z_zstore (M := M_X0_roundedFrom) (lv' := [some (vr 170), some (vi power_0), some (vl fraction_0), none, some (vl x_2), none, some (vi (1075 - (q_mxi power_0 1))), some (vl (x_2 * (w32 (uNit (w32 (σ kB_digits 0)))))), none, some (vl x_6), none, some (vl x_7), none, some (vl (q_lsl 1 ((1075 - (q_mxi power_0 1)) - 1))), none, some (zv x_9)]) dX0_roundedFrom_115 (Nat.le_of_ble_eq_true rfl) rfl rfl ?_
          have J_10 : YY l E M_X0_roundedFrom 1 0 0 (pS (some (vl r)) σ) 131 [some (vr 170), some (vi power_0), some (vl fraction_0), none, some (vl x_2), none, some (vi (1075 - (q_mxi power_0 1))), some (vl (x_2 * (w32 (uNit (w32 (σ kB_digits 0)))))), none, some (vl x_6), none, some (vl x_7), none, some (vl (q_lsl 1 ((1075 - (q_mxi power_0 1)) - 1))), none, some (zv x_9)] [vl (if x_9 = true then (x_6 + 1) else x_6)] σ 0 0 := by
            cases H
            exact z_lret (M := M_X0_roundedFrom) dX0_roundedFrom_131 rfl (Nat.le_of_ble_eq_true rfl) (Nat.le_of_ble_eq_true rfl) ⟨rfl, rfl⟩
          refine z_zload (M := M_X0_roundedFrom) dX0_roundedFrom_117 rfl ?_
          by_cases h_11 : x_9 = true
          · refine z_zeq_f (M := M_X0_roundedFrom) (tgt := 129) dX0_roundedFrom_119 (by decide) h_11 ?_
            refine z_lload (M := M_X0_roundedFrom) dX0_roundedFrom_122 rfl ?_
            refine z_lconst (M := M_X0_roundedFrom) (m := 1) dX0_roundedFrom_124 (by decide +kernel) ?_
            refine z_ladd (M := M_X0_roundedFrom) dX0_roundedFrom_125 ?_
            refine z_goto (M := M_X0_roundedFrom) (tgt := 131) dX0_roundedFrom_126 (by decide) ?_
            exact z_st (by rw [if_pos (c := x_9 = true) h_11]) J_10
          · refine z_zeq_t (M := M_X0_roundedFrom) (tgt := 129) dX0_roundedFrom_119 (by decide) h_11 ?_
            refine z_lload (M := M_X0_roundedFrom) dX0_roundedFrom_129 rfl ?_
            exact z_st (by rw [if_neg (c := x_9 = true) h_11]) J_10
        refine z_lload (M := M_X0_roundedFrom) dX0_roundedFrom_85 rfl ?_
        refine z_lload (M := M_X0_roundedFrom) dX0_roundedFrom_87 rfl ?_
        refine z_lcmp (M := M_X0_roundedFrom) dX0_roundedFrom_89 ?_
        by_cases h_12 : (w64 (q_lsl 1 ((1075 - (q_mxi power_0 1)) - 1))) < (w64 x_7)
        · refine z_lif_gt_t (M := M_X0_roundedFrom) (tgt := 110) dX0_roundedFrom_90 (by decide) rfl rfl h_12 ?_
          refine z_iconst (M := M_X0_roundedFrom) dX0_roundedFrom_110 ?_
          refine z_goto (M := M_X0_roundedFrom) (tgt := 115) dX0_roundedFrom_111 (by decide) ?_
          exact z_st (by rw [zv_t (p := ((w64 (q_lsl 1 ((1075 - (q_mxi power_0 1)) - 1))) < (w64 x_7)) ∨ (((w64 x_7) = (w64 (q_lsl 1 ((1075 - (q_mxi power_0 1)) - 1)))) ∧ ((w64 (q_lan x_6 1)) = 1))) (Or.inl h_12)]) J_8
        · refine z_lif_gt_f (M := M_X0_roundedFrom) (tgt := 110) dX0_roundedFrom_90 (by decide) rfl rfl (Int.not_lt.mp h_12) ?_
          refine z_lload (M := M_X0_roundedFrom) dX0_roundedFrom_93 rfl ?_
          refine z_lload (M := M_X0_roundedFrom) dX0_roundedFrom_95 rfl ?_
          refine z_lcmp (M := M_X0_roundedFrom) dX0_roundedFrom_97 ?_
          by_cases h_13 : (w64 x_7) = (w64 (q_lsl 1 ((1075 - (q_mxi power_0 1)) - 1)))
          · refine z_lif_ne_f (M := M_X0_roundedFrom) (tgt := 114) dX0_roundedFrom_98 (by decide) rfl rfl h_13 ?_
            refine z_lload (M := M_X0_roundedFrom) dX0_roundedFrom_101 rfl ?_
            refine z_lconst (M := M_X0_roundedFrom) (m := 1) dX0_roundedFrom_103 (by decide +kernel) ?_
            refine z_land (M := M_X0_roundedFrom) dX0_roundedFrom_104 ?_
            refine z_lconst (M := M_X0_roundedFrom) (m := 1) dX0_roundedFrom_105 (by decide +kernel) ?_
            refine z_lcmp (M := M_X0_roundedFrom) dX0_roundedFrom_106 ?_
            by_cases h_14 : (w64 (q_lan x_6 1)) = 1
            · refine z_lif_ne_f (M := M_X0_roundedFrom) (tgt := 114) dX0_roundedFrom_107 (by decide) rfl (by decide +kernel) h_14 ?_
              refine z_iconst (M := M_X0_roundedFrom) dX0_roundedFrom_110 ?_
              refine z_goto (M := M_X0_roundedFrom) (tgt := 115) dX0_roundedFrom_111 (by decide) ?_
              exact z_st (by rw [zv_t (p := ((w64 (q_lsl 1 ((1075 - (q_mxi power_0 1)) - 1))) < (w64 x_7)) ∨ (((w64 x_7) = (w64 (q_lsl 1 ((1075 - (q_mxi power_0 1)) - 1)))) ∧ ((w64 (q_lan x_6 1)) = 1))) (Or.inr ⟨h_13, h_14⟩)]) J_8
            · refine z_lif_ne_t (M := M_X0_roundedFrom) (tgt := 114) dX0_roundedFrom_107 (by decide) rfl (by decide +kernel) h_14 ?_
              refine z_iconst (M := M_X0_roundedFrom) dX0_roundedFrom_114 ?_
              exact z_st (by rw [zv_f (p := ((w64 (q_lsl 1 ((1075 - (q_mxi power_0 1)) - 1))) < (w64 x_7)) ∨ (((w64 x_7) = (w64 (q_lsl 1 ((1075 - (q_mxi power_0 1)) - 1)))) ∧ ((w64 (q_lan x_6 1)) = 1))) (fun q => q.elim h_12 (fun q => h_14 q.2))]) J_8
          · refine z_lif_ne_t (M := M_X0_roundedFrom) (tgt := 114) dX0_roundedFrom_98 (by decide) rfl rfl h_13 ?_
            refine z_iconst (M := M_X0_roundedFrom) dX0_roundedFrom_114 ?_
            exact z_st (by rw [zv_f (p := ((w64 (q_lsl 1 ((1075 - (q_mxi power_0 1)) - 1))) < (w64 x_7)) ∨ (((w64 x_7) = (w64 (q_lsl 1 ((1075 - (q_mxi power_0 1)) - 1)))) ∧ ((w64 (q_lan x_6 1)) = 1))) (fun q => q.elim h_12 (fun q => h_13 q.1))]) J_8
  refine z_iload_n (M := M_X0_roundedFrom) dX0_roundedFrom_0 rfl ?_
  by_cases h_15 : (w32 power_0) = 0
  · refine z_if_ne_f (M := M_X0_roundedFrom) (tgt := 8) dX0_roundedFrom_1 (by decide) rfl h_15 ?_
    refine z_lload_n (M := M_X0_roundedFrom) dX0_roundedFrom_4 rfl ?_
    refine z_goto (M := M_X0_roundedFrom) (tgt := 15) dX0_roundedFrom_5 (by decide) ?_
    exact z_st (by rw [if_pos (c := (w32 power_0) = 0) h_15]) J_1
  · refine z_if_ne_t (M := M_X0_roundedFrom) (tgt := 8) dX0_roundedFrom_1 (by decide) rfl h_15 ?_
    refine z_lload_n (M := M_X0_roundedFrom) dX0_roundedFrom_8 rfl ?_
    refine z_ldc2 (M := M_X0_roundedFrom) (n := 4503599627370495) dX0_roundedFrom_9 t_998 (by decide +kernel) ?_
    refine z_ladd (M := M_X0_roundedFrom) dX0_roundedFrom_12 ?_
    refine z_lconst (M := M_X0_roundedFrom) (m := 1) dX0_roundedFrom_13 (by decide +kernel) ?_
    refine z_ladd (M := M_X0_roundedFrom) dX0_roundedFrom_14 ?_
    exact z_st (by rw [if_neg (c := (w32 power_0) = 0) h_15]) J_1
theorem c_X0_readNumber (hl : l.stackTraces = false) {σ : SG} {r : Bool} {σ' : SG}  (H : fB_readNumber σ = some (r, σ')) : en_S l E M_X0_readNumber 2 0 0 [vr 170] σ (pS (some (zv r)) σ') := by
  unfold fB_readNumber at H
  refine z_mk (lv := [some (vr 170), none, none, none, none, none]) m_X0_readNumber rfl hl (Nat.le_of_ble_eq_true rfl) rfl ?_
  refine z_aload_n (M := M_X0_readNumber) dX0_readNumber_0 rfl ?_
  refine z_bipush (M := M_X0_readNumber) dX0_readNumber_1 (by decide +kernel) ?_
  refine z_callV (M := M_X0_readNumber) (M' := M_X0_has) (as := [vi 8]) (rest := []) rfl rfl dX0_readNumber_3 m_X0_has t_971 t_973 s_24 (c_X0_has hl  rfl) rfl rfl ly_170 rfl (Nat.le_of_ble_eq_true rfl) (Nat.le_of_ble_eq_true rfl) (Nat.le_of_ble_eq_true rfl) (Nat.le_of_ble_eq_true rfl) ?_
  refine z_st (st' := [zv (fB_has σ 8)]) rfl ?_
  rcases if_e H with ⟨h_1, H⟩ | ⟨h_1, H⟩
  · refine z_zne_t (M := M_X0_readNumber) (tgt := 15) dX0_readNumber_6 (by decide) h_1 ?_
    refine z_aload_n (M := M_X0_readNumber) dX0_readNumber_15 rfl ?_
    refine z_aload_n (M := M_X0_readNumber) dX0_readNumber_16 rfl ?_
    refine z_getI (M := M_X0_readNumber) (ci := 3) (C := RX0) (T := TX0) (Nf := 13) (ty := tyX0) cl3 dX0_readNumber_17 ly_170 6 (by decide) t_157 rfl rfl ?_
    refine z_bipush (M := M_X0_readNumber) dX0_readNumber_20 (by decide +kernel) ?_
    obtain ⟨x_3, hc_2, H⟩ := bd_e H
    refine z_callV (M := M_X0_readNumber) (M' := M_X0_numberAt) (as := [vi (σ kB_at 0), vi 8]) (rest := []) rfl rfl dX0_readNumber_22 m_X0_numberAt t_979 t_981 s_26 (c_X0_numberAt hl  hc_2) rfl rfl ly_170 rfl (Nat.le_of_ble_eq_true rfl) (Nat.le_of_ble_eq_true rfl) (Nat.le_of_ble_eq_true rfl) (Nat.le_of_ble_eq_true rfl) ?_
    refine z_st (st' := [vl x_3]) rfl ?_
    refine z_lstore_n (M := M_X0_readNumber) (lv' := [some (vr 170), some (vl x_3), none, none, none, none]) dX0_readNumber_25 (Nat.le_of_ble_eq_true rfl) rfl rfl ?_
    refine z_lload_n (M := M_X0_readNumber) dX0_readNumber_26 rfl ?_
    refine z_bipush (M := M_X0_readNumber) dX0_readNumber_27 (by decide +kernel) ?_
    refine z_lushr (M := M_X0_readNumber) dX0_readNumber_29 ?_
    refine z_l2i (M := M_X0_readNumber) dX0_readNumber_30 ?_
    refine z_sipush (M := M_X0_readNumber) dX0_readNumber_31 (by decide +kernel) ?_
    refine z_iand (M := M_X0_readNumber) dX0_readNumber_34 ?_
    refine z_istore_n (M := M_X0_readNumber) (lv' := [some (vr 170), some (vl x_3), none, some (vi (q_ian (q_lus x_3 52) 2047)), none, none]) dX0_readNumber_35 (Nat.le_of_ble_eq_true rfl) rfl rfl ?_
    refine z_iload_n (M := M_X0_readNumber) dX0_readNumber_36 rfl ?_
    refine z_sipush (M := M_X0_readNumber) dX0_readNumber_37 (by decide +kernel) ?_
    rcases if_e H with ⟨h_4, H⟩ | ⟨h_4, H⟩
    · refine z_icmp_ne_f (M := M_X0_readNumber) (tgt := 49) dX0_readNumber_40 (by decide) rfl (by decide +kernel) h_4 ?_
      refine z_aload_n (M := M_X0_readNumber) dX0_readNumber_43 rfl ?_
      refine z_iconst (M := M_X0_readNumber) dX0_readNumber_44 ?_
      obtain ⟨⟨x_7, σ_6⟩, hc_5, H⟩ := bd_e H
      refine z_callV (M := M_X0_readNumber) (M' := M_X0_fail) (as := [vi 4]) (rest := []) rfl rfl dX0_readNumber_45 m_X0_fail t_975 t_977 s_25 (c_X0_fail hl  hc_5) rfl rfl ly_170 rfl (Nat.le_of_ble_eq_true rfl) (Nat.le_of_ble_eq_true rfl) (Nat.le_of_ble_eq_true rfl) (Nat.le_of_ble_eq_true rfl) ?_
      refine z_st (st' := [zv x_7]) rfl ?_
      cases H
      exact z_zret (M := M_X0_readNumber) dX0_readNumber_48 rfl (Nat.le_of_ble_eq_true rfl) (Nat.le_of_ble_eq_true rfl) ⟨rfl, rfl⟩
    · refine z_icmp_ne_t (M := M_X0_readNumber) (tgt := 49) dX0_readNumber_40 (by decide) rfl (by decide +kernel) h_4 ?_
      refine z_aload_n (M := M_X0_readNumber) dX0_readNumber_49 rfl ?_
      refine z_iload_n (M := M_X0_readNumber) dX0_readNumber_50 rfl ?_
      refine z_lload_n (M := M_X0_readNumber) dX0_readNumber_51 rfl ?_
      refine z_ldc2 (M := M_X0_readNumber) (n := 4503599627370495) dX0_readNumber_52 t_998 (by decide +kernel) ?_
      refine z_land (M := M_X0_readNumber) dX0_readNumber_55 ?_
      obtain ⟨x_9, hc_8, H⟩ := bd_e H
      refine z_callV (M := M_X0_readNumber) (M' := M_X0_roundedFrom) (as := [vi (q_ian (q_lus x_3 52) 2047), vl (q_lan x_3 4503599627370495)]) (rest := []) rfl rfl dX0_readNumber_56 m_X0_roundedFrom t_1008 t_1010 s_31 (c_X0_roundedFrom hl  hc_8) rfl rfl ly_170 rfl (Nat.le_of_ble_eq_true rfl) (Nat.le_of_ble_eq_true rfl) (Nat.le_of_ble_eq_true rfl) (Nat.le_of_ble_eq_true rfl) ?_
      refine z_st (st' := [vl x_9]) rfl ?_
      refine z_lstore (M := M_X0_readNumber) (lv' := [some (vr 170), some (vl x_3), none, some (vi (q_ian (q_lus x_3 52) 2047)), some (vl x_9), none]) dX0_readNumber_59 (Nat.le_of_ble_eq_true rfl) rfl rfl ?_
      refine z_lload (M := M_X0_readNumber) dX0_readNumber_61 rfl ?_
      refine z_ldc2 (M := M_X0_readNumber) (n := 1000000000) dX0_readNumber_63 t_1018 (by decide +kernel) ?_
      refine z_lcmp (M := M_X0_readNumber) dX0_readNumber_66 ?_
      rcases if_e H with ⟨h_10, H⟩ | ⟨h_10, H⟩
      · refine z_lif_le_f (M := M_X0_readNumber) (tgt := 76) dX0_readNumber_67 (by decide) rfl (by decide +kernel) h_10 ?_
        refine z_aload_n (M := M_X0_readNumber) dX0_readNumber_70 rfl ?_
        refine z_iconst (M := M_X0_readNumber) dX0_readNumber_71 ?_
        obtain ⟨⟨x_13, σ_12⟩, hc_11, H⟩ := bd_e H
        refine z_callV (M := M_X0_readNumber) (M' := M_X0_fail) (as := [vi 5]) (rest := []) rfl rfl dX0_readNumber_72 m_X0_fail t_975 t_977 s_25 (c_X0_fail hl  hc_11) rfl rfl ly_170 rfl (Nat.le_of_ble_eq_true rfl) (Nat.le_of_ble_eq_true rfl) (Nat.le_of_ble_eq_true rfl) (Nat.le_of_ble_eq_true rfl) ?_
        refine z_st (st' := [zv x_13]) rfl ?_
        cases H
        exact z_zret (M := M_X0_readNumber) dX0_readNumber_75 rfl (Nat.le_of_ble_eq_true rfl) (Nat.le_of_ble_eq_true rfl) ⟨rfl, rfl⟩
      · refine z_lif_le_t (M := M_X0_readNumber) (tgt := 76) dX0_readNumber_67 (by decide) rfl (by decide +kernel) (Int.not_lt.mp h_10) ?_
        refine z_aload_n (M := M_X0_readNumber) dX0_readNumber_76 rfl ?_
        have J_14 : YY l E M_X0_readNumber 2 0 0 (pS (some (zv r)) σ') 91 [some (vr 170), some (vl x_3), none, some (vi (q_ian (q_lus x_3 52) 2047)), some (vl x_9), none] [vl (if (w64 x_3) < 0 then (-x_9) else x_9), vr 170] σ 0 0 := by
          refine z_l2i (M := M_X0_readNumber) dX0_readNumber_91 ?_
          obtain ⟨σ_15, σ_15_e, H⟩ := wf_e H
          refine z_putI (M := M_X0_readNumber) (ci := 3) (C := RX0) (T := TX0) (Nf := 13) (ty := tyX0) cl3 dX0_readNumber_92 ly_170 10 (by decide) t_161 rfl rfl rfl rfl σ_15_e ?_
          refine z_aload_n (M := M_X0_readNumber) dX0_readNumber_95 rfl ?_
          refine z_dup (M := M_X0_readNumber) dX0_readNumber_96 rfl ?_
          refine z_getI (M := M_X0_readNumber) (ci := 3) (C := RX0) (T := TX0) (Nf := 13) (ty := tyX0) cl3 dX0_readNumber_97 ly_170 6 (by decide) t_157 rfl rfl ?_
          refine z_bipush (M := M_X0_readNumber) dX0_readNumber_100 (by decide +kernel) ?_
          refine z_iadd (M := M_X0_readNumber) dX0_readNumber_102 ?_
          obtain ⟨σ_16, σ_16_e, H⟩ := wf_e H
          refine z_putI (M := M_X0_readNumber) (ci := 3) (C := RX0) (T := TX0) (Nf := 13) (ty := tyX0) cl3 dX0_readNumber_103 ly_170 6 (by decide) t_157 rfl rfl rfl rfl σ_16_e ?_
          refine z_zconst (M := M_X0_readNumber) (b := true) dX0_readNumber_106 rfl ?_
          cases H
          exact z_zret (M := M_X0_readNumber) dX0_readNumber_107 rfl (Nat.le_of_ble_eq_true rfl) (Nat.le_of_ble_eq_true rfl) ⟨rfl, rfl⟩
        refine z_lload_n (M := M_X0_readNumber) dX0_readNumber_77 rfl ?_
        refine z_lconst (M := M_X0_readNumber) (m := 0) dX0_readNumber_78 (by decide +kernel) ?_
        refine z_lcmp (M := M_X0_readNumber) dX0_readNumber_79 ?_
        by_cases h_17 : (w64 x_3) < 0
        · refine z_lif_ge_f (M := M_X0_readNumber) (tgt := 89) dX0_readNumber_80 (by decide) rfl (by decide +kernel) h_17 ?_
          refine z_lload (M := M_X0_readNumber) dX0_readNumber_83 rfl ?_
          refine z_lneg (M := M_X0_readNumber) dX0_readNumber_85 ?_
          refine z_goto (M := M_X0_readNumber) (tgt := 91) dX0_readNumber_86 (by decide) ?_
          exact z_st (by rw [if_pos (c := (w64 x_3) < 0) h_17]) J_14
        · refine z_lif_ge_t (M := M_X0_readNumber) (tgt := 89) dX0_readNumber_80 (by decide) rfl (by decide +kernel) (Int.not_lt.mp h_17) ?_
          refine z_lload (M := M_X0_readNumber) dX0_readNumber_89 rfl ?_
          exact z_st (by rw [if_neg (c := (w64 x_3) < 0) h_17]) J_14
  · refine z_zne_f (M := M_X0_readNumber) (tgt := 15) dX0_readNumber_6 (by decide) h_1 ?_
    refine z_aload_n (M := M_X0_readNumber) dX0_readNumber_9 rfl ?_
    refine z_iconst (M := M_X0_readNumber) dX0_readNumber_10 ?_
    obtain ⟨⟨x_20, σ_19⟩, hc_18, H⟩ := bd_e H
    refine z_callV (M := M_X0_readNumber) (M' := M_X0_fail) (as := [vi 3]) (rest := []) rfl rfl dX0_readNumber_11 m_X0_fail t_975 t_977 s_25 (c_X0_fail hl  hc_18) rfl rfl ly_170 rfl (Nat.le_of_ble_eq_true rfl) (Nat.le_of_ble_eq_true rfl) (Nat.le_of_ble_eq_true rfl) (Nat.le_of_ble_eq_true rfl) ?_
    refine z_st (st' := [zv x_20]) rfl ?_
    cases H
    exact z_zret (M := M_X0_readNumber) dX0_readNumber_14 rfl (Nat.le_of_ble_eq_true rfl) (Nat.le_of_ble_eq_true rfl) ⟨rfl, rfl⟩
theorem c_X0_readCoordinates (hl : l.stackTraces = false) {σ : SG} {points_0 : Int} {r : Bool} {σ' : SG}  (H : fB_readCoordinates σ points_0 = some (r, σ')) : en_S l E M_X0_readCoordinates 3 0 0 [vr 170, vl points_0] σ (pS (some (zv r)) σ') := by
  unfold fB_readCoordinates at H
  refine z_mk (lv := [some (vr 170), some (vl points_0), none, none, none, none]) m_X0_readCoordinates rfl hl (Nat.le_of_ble_eq_true rfl) rfl ?_
  refine z_lconst (M := M_X0_readCoordinates) (m := 0) dX0_readCoordinates_0 (by decide +kernel) ?_
  refine z_lstore_n (M := M_X0_readCoordinates) (lv' := [some (vr 170), some (vl points_0), none, some (vl 0), none, none]) dX0_readCoordinates_1 (Nat.le_of_ble_eq_true rfl) rfl rfl ?_
  obtain ⟨rl_6, hw_3, hk_4, hk_5⟩ := bx_e H
  have J_45 : ∀ i_43 σ_44, rl_6 = (.inl (i_43, σ_44)) → YY l E M_X0_readCoordinates 3 0 0 (pS (some (zv r)) σ') 72 [some (vr 170), some (vl points_0), none, some (vl i_43), none, none] [] σ_44 0 0 := by
    intro i_43 σ_44 e
    have H := hk_4 _ e
    refine z_zconst (M := M_X0_readCoordinates) (b := true) dX0_readCoordinates_72 rfl ?_
    cases H
    exact z_zret (M := M_X0_readCoordinates) dX0_readCoordinates_73 rfl (Nat.le_of_ble_eq_true rfl) (Nat.le_of_ble_eq_true rfl) ⟨rfl, rfl⟩
  refine whl_go hw_3 (fun (i_1, σ_2) => YY l E M_X0_readCoordinates 3 0 0 (pS (some (zv r)) σ') 2 [some (vr 170), some (vl points_0), none, some (vl i_1), none, none] [] σ_2 0 0) ?_
  rintro ⟨i_1, σ_2⟩ o_7 H K_8 K_9
  refine z_lload_n (M := M_X0_readCoordinates) dX0_readCoordinates_2 rfl ?_
  refine z_lload_n (M := M_X0_readCoordinates) dX0_readCoordinates_3 rfl ?_
  refine z_lcmp (M := M_X0_readCoordinates) dX0_readCoordinates_4 ?_
  rcases if_e H with ⟨h_10, H⟩ | ⟨h_10, H⟩
  · refine z_lif_ge_f (M := M_X0_readCoordinates) (tgt := 72) dX0_readCoordinates_5 (by decide) rfl rfl h_10 ?_
    refine z_aload_n (M := M_X0_readCoordinates) dX0_readCoordinates_8 rfl ?_
    obtain ⟨hs_11, H⟩ := ck_e H
    refine z_getV (M := M_X0_readCoordinates) (ci := 3) (C := RX0) (T := TX0) (Nf := 13) (ty := tyX0) cl3 dX0_readCoordinates_9 ly_170 4 (by decide) t_155 rfl rfl ?_
    refine z_callV (M := M_X0_readCoordinates) (M' := M_X6_hasRoomForPoint) (as := []) (rest := []) rfl rfl dX0_readCoordinates_12 m_X6_hasRoomForPoint t_1003 t_905 t_906 (c_X6_hasRoomForPoint hl hs_11 rfl) rfl rfl (ly_S hs_11) rfl (Nat.le_of_ble_eq_true rfl) (Nat.le_of_ble_eq_true rfl) (Nat.le_of_ble_eq_true rfl) (Nat.le_of_ble_eq_true rfl) ?_
    refine z_st (st' := [zv (fA_hasRoomForPoint σ_2 ((σ_2 kB_shape 0).toNat))]) rfl ?_
    rcases if_e H with ⟨h_12, H⟩ | ⟨h_12, H⟩
    · refine z_zne_t (M := M_X0_readCoordinates) (tgt := 25) dX0_readCoordinates_15 (by decide) h_12 ?_
      refine z_aload_n (M := M_X0_readCoordinates) dX0_readCoordinates_25 rfl ?_
      obtain ⟨⟨x_15, σ_14⟩, hc_13, H⟩ := bd_e H
      refine z_callV (M := M_X0_readCoordinates) (M' := M_X0_readNumber) (as := []) (rest := []) rfl rfl dX0_readCoordinates_26 m_X0_readNumber t_1004 t_1006 s_30 (c_X0_readNumber hl  hc_13) rfl rfl ly_170 rfl (Nat.le_of_ble_eq_true rfl) (Nat.le_of_ble_eq_true rfl) (Nat.le_of_ble_eq_true rfl) (Nat.le_of_ble_eq_true rfl) ?_
      refine z_st (st' := [zv x_15]) rfl ?_
      rcases if_e H with ⟨h_16, H⟩ | ⟨h_16, H⟩
      · refine z_zne_t (M := M_X0_readCoordinates) (tgt := 34) dX0_readCoordinates_29 (by decide) h_16 ?_
        refine z_aload_n (M := M_X0_readCoordinates) dX0_readCoordinates_34 rfl ?_
        refine z_getI (M := M_X0_readCoordinates) (ci := 3) (C := RX0) (T := TX0) (Nf := 13) (ty := tyX0) cl3 dX0_readCoordinates_35 ly_170 10 (by decide) t_161 rfl rfl ?_
        refine z_istore (M := M_X0_readCoordinates) (lv' := [some (vr 170), some (vl points_0), none, some (vl i_1), none, some (vi (σ_14 kB_number 0))]) dX0_readCoordinates_38 (Nat.le_of_ble_eq_true rfl) rfl rfl ?_
        refine z_aload_n (M := M_X0_readCoordinates) dX0_readCoordinates_40 rfl ?_
        obtain ⟨⟨x_31, σ_30⟩, hc_29, H⟩ := bd_e H
        refine z_callV (M := M_X0_readCoordinates) (M' := M_X0_readNumber) (as := []) (rest := []) rfl rfl dX0_readCoordinates_41 m_X0_readNumber t_1004 t_1006 s_30 (c_X0_readNumber hl  hc_29) rfl rfl ly_170 rfl (Nat.le_of_ble_eq_true rfl) (Nat.le_of_ble_eq_true rfl) (Nat.le_of_ble_eq_true rfl) (Nat.le_of_ble_eq_true rfl) ?_
        refine z_st (st' := [zv x_31]) rfl ?_
        rcases if_e H with ⟨h_32, H⟩ | ⟨h_32, H⟩
        · refine z_zeq_f (M := M_X0_readCoordinates) (tgt := 63) dX0_readCoordinates_44 (by decide) h_32 ?_
          refine z_aload_n (M := M_X0_readCoordinates) dX0_readCoordinates_47 rfl ?_
          obtain ⟨hs_33, H⟩ := ck_e H
          refine z_getV (M := M_X0_readCoordinates) (ci := 3) (C := RX0) (T := TX0) (Nf := 13) (ty := tyX0) cl3 dX0_readCoordinates_48 ly_170 4 (by decide) t_155 rfl rfl ?_
          refine z_iload (M := M_X0_readCoordinates) dX0_readCoordinates_51 rfl ?_
          refine z_aload_n (M := M_X0_readCoordinates) dX0_readCoordinates_53 rfl ?_
          refine z_getI (M := M_X0_readCoordinates) (ci := 3) (C := RX0) (T := TX0) (Nf := 13) (ty := tyX0) cl3 dX0_readCoordinates_54 ly_170 10 (by decide) t_161 rfl rfl ?_
          obtain ⟨⟨x_36, σ_35⟩, hc_34, H⟩ := bd_e H
          refine z_callV (M := M_X0_readCoordinates) (M' := M_X6_addPoint) (as := [vi (σ_14 kB_number 0), vi (σ_30 kB_number 0)]) (rest := []) rfl rfl dX0_readCoordinates_57 m_X6_addPoint t_1019 t_938 t_939 (c_X6_addPoint hl hs_33 hc_34) rfl rfl (ly_S hs_33) rfl (Nat.le_of_ble_eq_true rfl) (Nat.le_of_ble_eq_true rfl) (Nat.le_of_ble_eq_true rfl) (Nat.le_of_ble_eq_true rfl) ?_
          refine z_st (st' := [zv x_36]) rfl ?_
          rcases if_e H with ⟨h_37, H⟩ | ⟨h_37, H⟩
          · refine z_zne_t (M := M_X0_readCoordinates) (tgt := 65) dX0_readCoordinates_60 (by decide) h_37 ?_
            refine z_lload_n (M := M_X0_readCoordinates) dX0_readCoordinates_65 rfl ?_
            refine z_lconst (M := M_X0_readCoordinates) (m := 1) dX0_readCoordinates_66 (by decide +kernel) ?_
            refine z_ladd (M := M_X0_readCoordinates) dX0_readCoordinates_67 ?_
            refine z_lstore_n (M := M_X0_readCoordinates) (lv' := [some (vr 170), some (vl points_0), none, some (vl (i_1 + 1)), none, some (vi (σ_14 kB_number 0))]) dX0_readCoordinates_68 (Nat.le_of_ble_eq_true rfl) rfl rfl ?_
            refine z_goto (M := M_X0_readCoordinates) (tgt := 2) dX0_readCoordinates_69 (by decide) ?_
            refine z_le (lv' := [some (vr 170), some (vl points_0), none, some (vl (i_1 + 1)), none, none]) ⟨Or.inr rfl, Or.inr rfl, Or.inl rfl, Or.inr rfl, Or.inl rfl, Or.inl rfl, trivial⟩ ?_
            exact K_8 _ (Option.some.inj H).symm
          · refine z_zne_f (M := M_X0_readCoordinates) (tgt := 65) dX0_readCoordinates_60 (by decide) h_37 ?_
            refine z_zconst (M := M_X0_readCoordinates) (b := false) dX0_readCoordinates_63 rfl ?_
            have H := congrArg some (hk_5 _ ((K_9 _ (Option.some.inj H).symm).symm))
            cases H
            exact z_zret (M := M_X0_readCoordinates) dX0_readCoordinates_64 rfl (Nat.le_of_ble_eq_true rfl) (Nat.le_of_ble_eq_true rfl) ⟨rfl, rfl⟩
        · refine z_zeq_t (M := M_X0_readCoordinates) (tgt := 63) dX0_readCoordinates_44 (by decide) h_32 ?_
          refine z_zconst (M := M_X0_readCoordinates) (b := false) dX0_readCoordinates_63 rfl ?_
          have H := congrArg some (hk_5 _ ((K_9 _ (Option.some.inj H).symm).symm))
          cases H
          exact z_zret (M := M_X0_readCoordinates) dX0_readCoordinates_64 rfl (Nat.le_of_ble_eq_true rfl) (Nat.le_of_ble_eq_true rfl) ⟨rfl, rfl⟩
      · refine z_zne_f (M := M_X0_readCoordinates) (tgt := 34) dX0_readCoordinates_29 (by decide) h_16 ?_
        refine z_zconst (M := M_X0_readCoordinates) (b := false) dX0_readCoordinates_32 rfl ?_
        have H := congrArg some (hk_5 _ ((K_9 _ (Option.some.inj H).symm).symm))
        cases H
        exact z_zret (M := M_X0_readCoordinates) dX0_readCoordinates_33 rfl (Nat.le_of_ble_eq_true rfl) (Nat.le_of_ble_eq_true rfl) ⟨rfl, rfl⟩
    · refine z_zne_f (M := M_X0_readCoordinates) (tgt := 25) dX0_readCoordinates_15 (by decide) h_12 ?_
      refine z_aload_n (M := M_X0_readCoordinates) dX0_readCoordinates_18 rfl ?_
      refine z_bipush (M := M_X0_readCoordinates) dX0_readCoordinates_19 (by decide +kernel) ?_
      obtain ⟨⟨x_41, σ_40⟩, hc_39, H⟩ := bd_e H
      refine z_callV (M := M_X0_readCoordinates) (M' := M_X0_fail) (as := [vi 7]) (rest := []) rfl rfl dX0_readCoordinates_21 m_X0_fail t_975 t_977 s_25 (c_X0_fail hl  hc_39) rfl rfl ly_170 rfl (Nat.le_of_ble_eq_true rfl) (Nat.le_of_ble_eq_true rfl) (Nat.le_of_ble_eq_true rfl) (Nat.le_of_ble_eq_true rfl) ?_
      refine z_st (st' := [zv x_41]) rfl ?_
      have H := congrArg some (hk_5 _ ((K_9 _ (Option.some.inj H).symm).symm))
      cases H
      exact z_zret (M := M_X0_readCoordinates) dX0_readCoordinates_24 rfl (Nat.le_of_ble_eq_true rfl) (Nat.le_of_ble_eq_true rfl) ⟨rfl, rfl⟩
  · refine z_lif_ge_t (M := M_X0_readCoordinates) (tgt := 72) dX0_readCoordinates_5 (by decide) rfl rfl (Int.not_lt.mp h_10) ?_
    exact J_45 _ _ (K_9 _ (Option.some.inj H).symm).symm
theorem c_X0_isNoNumber (hl : l.stackTraces = false) {σ : SG} {bits_0 : Int} {r : Bool}  (H : fB_isNoNumber bits_0 = r) : en_S l E M_X0_isNoNumber 1 0 0 [vl bits_0] σ (pS (some (zv r)) σ) := by
  unfold fB_isNoNumber at H
  refine z_mk (lv := [some (vl bits_0), none]) m_X0_isNoNumber rfl hl (Nat.le_of_ble_eq_true rfl) rfl ?_
  have J_1 : YY l E M_X0_isNoNumber 1 0 0 (pS (some (zv r)) σ) 30 [some (vl bits_0), none] [zv (decide (((w64 (q_lan (q_lus bits_0 52) 2047)) = 2047) ∧ (¬ (w64 (q_lan bits_0 4503599627370495)) = 0)))] σ 0 0 := by
    cases H
    exact z_zret (M := M_X0_isNoNumber) dX0_isNoNumber_30 rfl (Nat.le_of_ble_eq_true rfl) (Nat.le_of_ble_eq_true rfl) ⟨rfl, rfl⟩
  refine z_lload_n (M := M_X0_isNoNumber) dX0_isNoNumber_0 rfl ?_
  refine z_bipush (M := M_X0_isNoNumber) dX0_isNoNumber_1 (by decide +kernel) ?_
  refine z_lushr (M := M_X0_isNoNumber) dX0_isNoNumber_3 ?_
  refine z_ldc2 (M := M_X0_isNoNumber) (n := 2047) dX0_isNoNumber_4 t_997 (by decide +kernel) ?_
  refine z_land (M := M_X0_isNoNumber) dX0_isNoNumber_7 ?_
  refine z_ldc2 (M := M_X0_isNoNumber) (n := 2047) dX0_isNoNumber_8 t_997 (by decide +kernel) ?_
  refine z_lcmp (M := M_X0_isNoNumber) dX0_isNoNumber_11 ?_
  by_cases h_2 : (w64 (q_lan (q_lus bits_0 52) 2047)) = 2047
  · refine z_lif_ne_f (M := M_X0_isNoNumber) (tgt := 29) dX0_isNoNumber_12 (by decide) rfl (by decide +kernel) h_2 ?_
    refine z_lload_n (M := M_X0_isNoNumber) dX0_isNoNumber_15 rfl ?_
    refine z_ldc2 (M := M_X0_isNoNumber) (n := 4503599627370495) dX0_isNoNumber_16 t_998 (by decide +kernel) ?_
    refine z_land (M := M_X0_isNoNumber) dX0_isNoNumber_19 ?_
    refine z_lconst (M := M_X0_isNoNumber) (m := 0) dX0_isNoNumber_20 (by decide +kernel) ?_
    refine z_lcmp (M := M_X0_isNoNumber) dX0_isNoNumber_21 ?_
    by_cases h_3 : ¬ (w64 (q_lan bits_0 4503599627370495)) = 0
    · refine z_lif_eq_f (M := M_X0_isNoNumber) (tgt := 29) dX0_isNoNumber_22 (by decide) rfl (by decide +kernel) h_3 ?_
      refine z_iconst (M := M_X0_isNoNumber) dX0_isNoNumber_25 ?_
      refine z_goto (M := M_X0_isNoNumber) (tgt := 30) dX0_isNoNumber_26 (by decide) ?_
      exact z_st (by rw [zv_t (p := ((w64 (q_lan (q_lus bits_0 52) 2047)) = 2047) ∧ (¬ (w64 (q_lan bits_0 4503599627370495)) = 0)) ⟨h_2, h_3⟩]) J_1
    · refine z_lif_eq_t (M := M_X0_isNoNumber) (tgt := 29) dX0_isNoNumber_22 (by decide) rfl (by decide +kernel) (Decidable.not_not.mp h_3) ?_
      refine z_iconst (M := M_X0_isNoNumber) dX0_isNoNumber_29 ?_
      exact z_st (by rw [zv_f (p := ((w64 (q_lan (q_lus bits_0 52) 2047)) = 2047) ∧ (¬ (w64 (q_lan bits_0 4503599627370495)) = 0)) (fun q => h_3 q.2)]) J_1
  · refine z_lif_ne_t (M := M_X0_isNoNumber) (tgt := 29) dX0_isNoNumber_12 (by decide) rfl (by decide +kernel) h_2 ?_
    refine z_iconst (M := M_X0_isNoNumber) dX0_isNoNumber_29 ?_
    exact z_st (by rw [zv_f (p := ((w64 (q_lan (q_lus bits_0 52) 2047)) = 2047) ∧ (¬ (w64 (q_lan bits_0 4503599627370495)) = 0)) (fun q => h_2 q.1)]) J_1
theorem c_X0_readPoint (hl : l.stackTraces = false) {σ : SG} {counter_0 : Int} {r : Bool} {σ' : SG}  (H : fB_readPoint σ counter_0 = some (r, σ')) : en_S l E M_X0_readPoint 4 0 0 [vr 170, vi counter_0] σ (pS (some (zv r)) σ') := by
  unfold fB_readPoint at H
  refine z_mk (lv := [some (vr 170), some (vi counter_0)]) m_X0_readPoint rfl hl (Nat.le_of_ble_eq_true rfl) rfl ?_
  refine z_aload_n (M := M_X0_readPoint) dX0_readPoint_0 rfl ?_
  refine z_bipush (M := M_X0_readPoint) dX0_readPoint_1 (by decide +kernel) ?_
  refine z_callV (M := M_X0_readPoint) (M' := M_X0_has) (as := [vi 16]) (rest := []) rfl rfl dX0_readPoint_3 m_X0_has t_971 t_973 s_24 (c_X0_has hl  rfl) rfl rfl ly_170 rfl (Nat.le_of_ble_eq_true rfl) (Nat.le_of_ble_eq_true rfl) (Nat.le_of_ble_eq_true rfl) (Nat.le_of_ble_eq_true rfl) ?_
  refine z_st (st' := [zv (fB_has σ 16)]) rfl ?_
  rcases if_e H with ⟨h_18, H⟩ | ⟨h_18, H⟩
  · refine z_zeq_f (M := M_X0_readPoint) (tgt := 57) dX0_readPoint_6 (by decide) h_18 ?_
    refine z_aload_n (M := M_X0_readPoint) dX0_readPoint_9 rfl ?_
    refine z_aload_n (M := M_X0_readPoint) dX0_readPoint_10 rfl ?_
    refine z_getI (M := M_X0_readPoint) (ci := 3) (C := RX0) (T := TX0) (Nf := 13) (ty := tyX0) cl3 dX0_readPoint_11 ly_170 6 (by decide) t_157 rfl rfl ?_
    refine z_bipush (M := M_X0_readPoint) dX0_readPoint_14 (by decide +kernel) ?_
    obtain ⟨x_20, hc_19, H⟩ := bd_e H
    refine z_callV (M := M_X0_readPoint) (M' := M_X0_numberAt) (as := [vi (σ kB_at 0), vi 8]) (rest := []) rfl rfl dX0_readPoint_16 m_X0_numberAt t_979 t_981 s_26 (c_X0_numberAt hl  hc_19) rfl rfl ly_170 rfl (Nat.le_of_ble_eq_true rfl) (Nat.le_of_ble_eq_true rfl) (Nat.le_of_ble_eq_true rfl) (Nat.le_of_ble_eq_true rfl) ?_
    refine z_st (st' := [vl x_20]) rfl ?_
    refine z_callS (M := M_X0_readPoint) (M' := M_X0_isNoNumber) (as := [vl x_20]) (rest := []) rfl rfl dX0_readPoint_19 m_X0_isNoNumber t_994 t_995 (c_X0_isNoNumber hl  rfl) rfl rfl (Nat.le_of_ble_eq_true rfl) (Nat.le_of_ble_eq_true rfl) (Nat.le_of_ble_eq_true rfl) (Nat.le_of_ble_eq_true rfl) ?_
    refine z_st (st' := [zv (fB_isNoNumber x_20)]) rfl ?_
    rcases if_e H with ⟨h_21, H⟩ | ⟨h_21, H⟩
    · refine z_zeq_f (M := M_X0_readPoint) (tgt := 57) dX0_readPoint_22 (by decide) h_21 ?_
      refine z_aload_n (M := M_X0_readPoint) dX0_readPoint_25 rfl ?_
      refine z_aload_n (M := M_X0_readPoint) dX0_readPoint_26 rfl ?_
      refine z_getI (M := M_X0_readPoint) (ci := 3) (C := RX0) (T := TX0) (Nf := 13) (ty := tyX0) cl3 dX0_readPoint_27 ly_170 6 (by decide) t_157 rfl rfl ?_
      refine z_bipush (M := M_X0_readPoint) dX0_readPoint_30 (by decide +kernel) ?_
      refine z_iadd (M := M_X0_readPoint) dX0_readPoint_32 ?_
      refine z_bipush (M := M_X0_readPoint) dX0_readPoint_33 (by decide +kernel) ?_
      obtain ⟨x_23, hc_22, H⟩ := bd_e H
      refine z_callV (M := M_X0_readPoint) (M' := M_X0_numberAt) (as := [vi ((σ kB_at 0) + 8), vi 8]) (rest := []) rfl rfl dX0_readPoint_35 m_X0_numberAt t_979 t_981 s_26 (c_X0_numberAt hl  hc_22) rfl rfl ly_170 rfl (Nat.le_of_ble_eq_true rfl) (Nat.le_of_ble_eq_true rfl) (Nat.le_of_ble_eq_true rfl) (Nat.le_of_ble_eq_true rfl) ?_
      refine z_st (st' := [vl x_23]) rfl ?_
      refine z_callS (M := M_X0_readPoint) (M' := M_X0_isNoNumber) (as := [vl x_23]) (rest := []) rfl rfl dX0_readPoint_38 m_X0_isNoNumber t_994 t_995 (c_X0_isNoNumber hl  rfl) rfl rfl (Nat.le_of_ble_eq_true rfl) (Nat.le_of_ble_eq_true rfl) (Nat.le_of_ble_eq_true rfl) (Nat.le_of_ble_eq_true rfl) ?_
      refine z_st (st' := [zv (fB_isNoNumber x_23)]) rfl ?_
      rcases if_e H with ⟨h_24, H⟩ | ⟨h_24, H⟩
      · refine z_zeq_f (M := M_X0_readPoint) (tgt := 57) dX0_readPoint_41 (by decide) h_24 ?_
        refine z_aload_n (M := M_X0_readPoint) dX0_readPoint_44 rfl ?_
        refine z_dup (M := M_X0_readPoint) dX0_readPoint_45 rfl ?_
        refine z_getI (M := M_X0_readPoint) (ci := 3) (C := RX0) (T := TX0) (Nf := 13) (ty := tyX0) cl3 dX0_readPoint_46 ly_170 6 (by decide) t_157 rfl rfl ?_
        refine z_bipush (M := M_X0_readPoint) dX0_readPoint_49 (by decide +kernel) ?_
        refine z_iadd (M := M_X0_readPoint) dX0_readPoint_51 ?_
        obtain ⟨σ_25, σ_25_e, H⟩ := wf_e H
        refine z_putI (M := M_X0_readPoint) (ci := 3) (C := RX0) (T := TX0) (Nf := 13) (ty := tyX0) cl3 dX0_readPoint_52 ly_170 6 (by decide) t_157 rfl rfl rfl rfl σ_25_e ?_
        refine z_zconst (M := M_X0_readPoint) (b := true) dX0_readPoint_55 rfl ?_
        cases H
        exact z_zret (M := M_X0_readPoint) dX0_readPoint_56 rfl (Nat.le_of_ble_eq_true rfl) (Nat.le_of_ble_eq_true rfl) ⟨rfl, rfl⟩
      · refine z_zeq_t (M := M_X0_readPoint) (tgt := 57) dX0_readPoint_41 (by decide) h_24 ?_
        refine z_aload_n (M := M_X0_readPoint) dX0_readPoint_57 rfl ?_
        obtain ⟨hs_26, H⟩ := ck_e H
        refine z_getV (M := M_X0_readPoint) (ci := 3) (C := RX0) (T := TX0) (Nf := 13) (ty := tyX0) cl3 dX0_readPoint_58 ly_170 4 (by decide) t_155 rfl rfl ?_
        refine z_getR (M := M_X0_readPoint) (ci := 9) (C := RX6) (T := TX6) (Nf := 5) (ty := tyX6) cl9 dX0_readPoint_61 (ly_S hs_26) 0 (by decide) t_53 rfl ?_
        refine z_iload_n (M := M_X0_readPoint) dX0_readPoint_64 rfl ?_
        refine z_iconst (M := M_X0_readPoint) dX0_readPoint_65 ?_
        obtain ⟨σ_27, σ_27_e, hi_28, H⟩ := wa_e H
        refine z_iast (M := M_X0_readPoint) dX0_readPoint_66 (ly_Sp hs_26) rfl rfl rfl hi_28 σ_27_e ?_
        refine z_aload_n (M := M_X0_readPoint) dX0_readPoint_67 rfl ?_
        refine z_lconst (M := M_X0_readPoint) (m := 1) dX0_readPoint_68 (by decide +kernel) ?_
        obtain ⟨⟨x_31, σ_30⟩, hc_29, H⟩ := bd_e H
        refine z_callV (M := M_X0_readPoint) (M' := M_X0_readCoordinates) (as := [vl 1]) (rest := []) rfl rfl dX0_readPoint_69 m_X0_readCoordinates t_999 t_1001 s_29 (c_X0_readCoordinates hl  hc_29) rfl rfl ly_170 rfl (Nat.le_of_ble_eq_true rfl) (Nat.le_of_ble_eq_true rfl) (Nat.le_of_ble_eq_true rfl) (Nat.le_of_ble_eq_true rfl) ?_
        refine z_st (st' := [zv x_31]) rfl ?_
        cases H
        exact z_zret (M := M_X0_readPoint) dX0_readPoint_72 rfl (Nat.le_of_ble_eq_true rfl) (Nat.le_of_ble_eq_true rfl) ⟨rfl, rfl⟩
    · refine z_zeq_t (M := M_X0_readPoint) (tgt := 57) dX0_readPoint_22 (by decide) h_21 ?_
      refine z_aload_n (M := M_X0_readPoint) dX0_readPoint_57 rfl ?_
      obtain ⟨hs_32, H⟩ := ck_e H
      refine z_getV (M := M_X0_readPoint) (ci := 3) (C := RX0) (T := TX0) (Nf := 13) (ty := tyX0) cl3 dX0_readPoint_58 ly_170 4 (by decide) t_155 rfl rfl ?_
      refine z_getR (M := M_X0_readPoint) (ci := 9) (C := RX6) (T := TX6) (Nf := 5) (ty := tyX6) cl9 dX0_readPoint_61 (ly_S hs_32) 0 (by decide) t_53 rfl ?_
      refine z_iload_n (M := M_X0_readPoint) dX0_readPoint_64 rfl ?_
      refine z_iconst (M := M_X0_readPoint) dX0_readPoint_65 ?_
      obtain ⟨σ_33, σ_33_e, hi_34, H⟩ := wa_e H
      refine z_iast (M := M_X0_readPoint) dX0_readPoint_66 (ly_Sp hs_32) rfl rfl rfl hi_34 σ_33_e ?_
      refine z_aload_n (M := M_X0_readPoint) dX0_readPoint_67 rfl ?_
      refine z_lconst (M := M_X0_readPoint) (m := 1) dX0_readPoint_68 (by decide +kernel) ?_
      obtain ⟨⟨x_37, σ_36⟩, hc_35, H⟩ := bd_e H
      refine z_callV (M := M_X0_readPoint) (M' := M_X0_readCoordinates) (as := [vl 1]) (rest := []) rfl rfl dX0_readPoint_69 m_X0_readCoordinates t_999 t_1001 s_29 (c_X0_readCoordinates hl  hc_35) rfl rfl ly_170 rfl (Nat.le_of_ble_eq_true rfl) (Nat.le_of_ble_eq_true rfl) (Nat.le_of_ble_eq_true rfl) (Nat.le_of_ble_eq_true rfl) ?_
      refine z_st (st' := [zv x_37]) rfl ?_
      cases H
      exact z_zret (M := M_X0_readPoint) dX0_readPoint_72 rfl (Nat.le_of_ble_eq_true rfl) (Nat.le_of_ble_eq_true rfl) ⟨rfl, rfl⟩
  · refine z_zeq_t (M := M_X0_readPoint) (tgt := 57) dX0_readPoint_6 (by decide) h_18 ?_
    refine z_aload_n (M := M_X0_readPoint) dX0_readPoint_57 rfl ?_
    obtain ⟨hs_38, H⟩ := ck_e H
    refine z_getV (M := M_X0_readPoint) (ci := 3) (C := RX0) (T := TX0) (Nf := 13) (ty := tyX0) cl3 dX0_readPoint_58 ly_170 4 (by decide) t_155 rfl rfl ?_
    refine z_getR (M := M_X0_readPoint) (ci := 9) (C := RX6) (T := TX6) (Nf := 5) (ty := tyX6) cl9 dX0_readPoint_61 (ly_S hs_38) 0 (by decide) t_53 rfl ?_
    refine z_iload_n (M := M_X0_readPoint) dX0_readPoint_64 rfl ?_
    refine z_iconst (M := M_X0_readPoint) dX0_readPoint_65 ?_
    obtain ⟨σ_39, σ_39_e, hi_40, H⟩ := wa_e H
    refine z_iast (M := M_X0_readPoint) dX0_readPoint_66 (ly_Sp hs_38) rfl rfl rfl hi_40 σ_39_e ?_
    refine z_aload_n (M := M_X0_readPoint) dX0_readPoint_67 rfl ?_
    refine z_lconst (M := M_X0_readPoint) (m := 1) dX0_readPoint_68 (by decide +kernel) ?_
    obtain ⟨⟨x_43, σ_42⟩, hc_41, H⟩ := bd_e H
    refine z_callV (M := M_X0_readPoint) (M' := M_X0_readCoordinates) (as := [vl 1]) (rest := []) rfl rfl dX0_readPoint_69 m_X0_readCoordinates t_999 t_1001 s_29 (c_X0_readCoordinates hl  hc_41) rfl rfl ly_170 rfl (Nat.le_of_ble_eq_true rfl) (Nat.le_of_ble_eq_true rfl) (Nat.le_of_ble_eq_true rfl) (Nat.le_of_ble_eq_true rfl) ?_
    refine z_st (st' := [zv x_43]) rfl ?_
    cases H
    exact z_zret (M := M_X0_readPoint) dX0_readPoint_72 rfl (Nat.le_of_ble_eq_true rfl) (Nat.le_of_ble_eq_true rfl) ⟨rfl, rfl⟩
theorem c_X0_readRings (hl : l.stackTraces = false) {σ : SG} {rings_0 : Int} {r : Bool} {σ' : SG}  (H : fB_readRings σ rings_0 = some (r, σ')) : en_S l E M_X0_readRings 4 0 0 [vr 170, vl rings_0] σ (pS (some (zv r)) σ') := by
  unfold fB_readRings at H
  refine z_mk (lv := [some (vr 170), some (vl rings_0), none, none, none, none, none]) m_X0_readRings rfl hl (Nat.le_of_ble_eq_true rfl) rfl ?_
  refine z_lconst (M := M_X0_readRings) (m := 0) dX0_readRings_0 (by decide +kernel) ?_
  refine z_lstore_n (M := M_X0_readRings) (lv' := [some (vr 170), some (vl rings_0), none, some (vl 0), none, none, none]) dX0_readRings_1 (Nat.le_of_ble_eq_true rfl) rfl rfl ?_
  obtain ⟨rl_6, hw_3, hk_4, hk_5⟩ := bx_e H
  have J_42 : ∀ ring_40 σ_41, rl_6 = (.inl (ring_40, σ_41)) → YY l E M_X0_readRings 4 0 0 (pS (some (zv r)) σ') 112 [some (vr 170), some (vl rings_0), none, some (vl ring_40), none, none, none] [] σ_41 0 0 := by
    intro ring_40 σ_41 e
    have H := hk_4 _ e
    refine z_zconst (M := M_X0_readRings) (b := true) dX0_readRings_112 rfl ?_
    cases H
    exact z_zret (M := M_X0_readRings) dX0_readRings_113 rfl (Nat.le_of_ble_eq_true rfl) (Nat.le_of_ble_eq_true rfl) ⟨rfl, rfl⟩
  refine whl_go hw_3 (fun (ring_1, σ_2) => YY l E M_X0_readRings 4 0 0 (pS (some (zv r)) σ') 2 [some (vr 170), some (vl rings_0), none, some (vl ring_1), none, none, none] [] σ_2 0 0) ?_
  rintro ⟨ring_1, σ_2⟩ o_7 H K_8 K_9
  refine z_lload_n (M := M_X0_readRings) dX0_readRings_2 rfl ?_
  refine z_lload_n (M := M_X0_readRings) dX0_readRings_3 rfl ?_
  refine z_lcmp (M := M_X0_readRings) dX0_readRings_4 ?_
  rcases if_e H with ⟨h_10, H⟩ | ⟨h_10, H⟩
  · refine z_lif_ge_f (M := M_X0_readRings) (tgt := 112) dX0_readRings_5 (by decide) rfl rfl h_10 ?_
    refine z_aload_n (M := M_X0_readRings) dX0_readRings_8 rfl ?_
    obtain ⟨hs_11, H⟩ := ck_e H
    refine z_getV (M := M_X0_readRings) (ci := 3) (C := RX0) (T := TX0) (Nf := 13) (ty := tyX0) cl3 dX0_readRings_9 ly_170 4 (by decide) t_155 rfl rfl ?_
    refine z_iconst (M := M_X0_readRings) dX0_readRings_12 ?_
    obtain ⟨⟨x_14, σ_13⟩, hc_12, H⟩ := bd_e H
    refine z_callV (M := M_X0_readRings) (M' := M_X6_addRing) (as := [vi 0]) (rest := []) rfl rfl dX0_readRings_13 m_X6_addRing t_1024 t_893 t_894 (c_X6_addRing hl hs_11 hc_12) rfl rfl (ly_S hs_11) rfl (Nat.le_of_ble_eq_true rfl) (Nat.le_of_ble_eq_true rfl) (Nat.le_of_ble_eq_true rfl) (Nat.le_of_ble_eq_true rfl) ?_
    refine z_st (st' := [zv x_14]) rfl ?_
    rcases if_e H with ⟨h_15, H⟩ | ⟨h_15, H⟩
    · refine z_zne_t (M := M_X0_readRings) (tgt := 26) dX0_readRings_16 (by decide) h_15 ?_
      refine z_aload_n (M := M_X0_readRings) dX0_readRings_26 rfl ?_
      refine z_iconst (M := M_X0_readRings) dX0_readRings_27 ?_
      refine z_callV (M := M_X0_readRings) (M' := M_X0_has) (as := [vi 4]) (rest := []) rfl rfl dX0_readRings_28 m_X0_has t_971 t_973 s_24 (c_X0_has hl  rfl) rfl rfl ly_170 rfl (Nat.le_of_ble_eq_true rfl) (Nat.le_of_ble_eq_true rfl) (Nat.le_of_ble_eq_true rfl) (Nat.le_of_ble_eq_true rfl) ?_
      refine z_st (st' := [zv (fB_has σ_13 4)]) rfl ?_
      rcases if_e H with ⟨h_16, H⟩ | ⟨h_16, H⟩
      · refine z_zne_t (M := M_X0_readRings) (tgt := 40) dX0_readRings_31 (by decide) h_16 ?_
        refine z_aload_n (M := M_X0_readRings) dX0_readRings_40 rfl ?_
        refine z_aload_n (M := M_X0_readRings) dX0_readRings_41 rfl ?_
        refine z_getI (M := M_X0_readRings) (ci := 3) (C := RX0) (T := TX0) (Nf := 13) (ty := tyX0) cl3 dX0_readRings_42 ly_170 6 (by decide) t_157 rfl rfl ?_
        refine z_iconst (M := M_X0_readRings) dX0_readRings_45 ?_
        obtain ⟨x_18, hc_17, H⟩ := bd_e H
        refine z_callV (M := M_X0_readRings) (M' := M_X0_numberAt) (as := [vi (σ_13 kB_at 0), vi 4]) (rest := []) rfl rfl dX0_readRings_46 m_X0_numberAt t_979 t_981 s_26 (c_X0_numberAt hl  hc_17) rfl rfl ly_170 rfl (Nat.le_of_ble_eq_true rfl) (Nat.le_of_ble_eq_true rfl) (Nat.le_of_ble_eq_true rfl) (Nat.le_of_ble_eq_true rfl) ?_
        refine z_st (st' := [vl x_18]) rfl ?_
        refine z_lstore (M := M_X0_readRings) (lv' := [some (vr 170), some (vl rings_0), none, some (vl ring_1), none, some (vl x_18), none]) dX0_readRings_49 (Nat.le_of_ble_eq_true rfl) rfl rfl ?_
        refine z_lload (M := M_X0_readRings) dX0_readRings_51 rfl ?_
        refine z_lconst (M := M_X0_readRings) (m := 0) dX0_readRings_53 (by decide +kernel) ?_
        refine z_lcmp (M := M_X0_readRings) dX0_readRings_54 ?_
        rcases if_e H with ⟨h_19, H⟩ | ⟨h_19, H⟩
        · refine z_lif_ne_f (M := M_X0_readRings) (tgt := 64) dX0_readRings_55 (by decide) rfl (by decide +kernel) h_19 ?_
          refine z_aload_n (M := M_X0_readRings) dX0_readRings_58 rfl ?_
          refine z_iconst (M := M_X0_readRings) dX0_readRings_59 ?_
          obtain ⟨⟨x_22, σ_21⟩, hc_20, H⟩ := bd_e H
          refine z_callV (M := M_X0_readRings) (M' := M_X0_fail) (as := [vi 4]) (rest := []) rfl rfl dX0_readRings_60 m_X0_fail t_975 t_977 s_25 (c_X0_fail hl  hc_20) rfl rfl ly_170 rfl (Nat.le_of_ble_eq_true rfl) (Nat.le_of_ble_eq_true rfl) (Nat.le_of_ble_eq_true rfl) (Nat.le_of_ble_eq_true rfl) ?_
          refine z_st (st' := [zv x_22]) rfl ?_
          have H := congrArg some (hk_5 _ ((K_9 _ (Option.some.inj H).symm).symm))
          cases H
          exact z_zret (M := M_X0_readRings) dX0_readRings_63 rfl (Nat.le_of_ble_eq_true rfl) (Nat.le_of_ble_eq_true rfl) ⟨rfl, rfl⟩
        · refine z_lif_ne_t (M := M_X0_readRings) (tgt := 64) dX0_readRings_55 (by decide) rfl (by decide +kernel) h_19 ?_
          refine z_aload_n (M := M_X0_readRings) dX0_readRings_64 rfl ?_
          refine z_dup (M := M_X0_readRings) dX0_readRings_65 rfl ?_
          refine z_getI (M := M_X0_readRings) (ci := 3) (C := RX0) (T := TX0) (Nf := 13) (ty := tyX0) cl3 dX0_readRings_66 ly_170 6 (by decide) t_157 rfl rfl ?_
          refine z_iconst (M := M_X0_readRings) dX0_readRings_69 ?_
          refine z_iadd (M := M_X0_readRings) dX0_readRings_70 ?_
          obtain ⟨σ_23, σ_23_e, H⟩ := wf_e H
          refine z_putI (M := M_X0_readRings) (ci := 3) (C := RX0) (T := TX0) (Nf := 13) (ty := tyX0) cl3 dX0_readRings_71 ly_170 6 (by decide) t_157 rfl rfl rfl rfl σ_23_e ?_
          refine z_aload_n (M := M_X0_readRings) dX0_readRings_74 rfl ?_
          obtain ⟨hs_24, H⟩ := ck_e H
          refine z_getV (M := M_X0_readRings) (ci := 3) (C := RX0) (T := TX0) (Nf := 13) (ty := tyX0) cl3 dX0_readRings_75 ly_170 4 (by decide) t_155 rfl rfl ?_
          refine z_getR (M := M_X0_readRings) (ci := 9) (C := RX6) (T := TX6) (Nf := 5) (ty := tyX6) cl9 dX0_readRings_78 (ly_S hs_24) 0 (by decide) t_53 rfl ?_
          refine z_aload_n (M := M_X0_readRings) dX0_readRings_81 rfl ?_
          obtain ⟨hs_25, H⟩ := ck_e H
          refine z_getV (M := M_X0_readRings) (ci := 3) (C := RX0) (T := TX0) (Nf := 13) (ty := tyX0) cl3 dX0_readRings_82 ly_170 4 (by decide) t_155 rfl rfl ?_
          refine z_getI (M := M_X0_readRings) (ci := 9) (C := RX6) (T := TX6) (Nf := 5) (ty := tyX6) cl9 dX0_readRings_85 (ly_S hs_25) 3 (by decide) t_77 rfl rfl ?_
          refine z_iconst (M := M_X0_readRings) dX0_readRings_88 ?_
          refine z_isub (M := M_X0_readRings) dX0_readRings_89 ?_
          refine z_lload (M := M_X0_readRings) dX0_readRings_90 rfl ?_
          refine z_l2i (M := M_X0_readRings) dX0_readRings_92 ?_
          obtain ⟨σ_26, σ_26_e, hi_27, H⟩ := wa_e H
          refine z_iast (M := M_X0_readRings) dX0_readRings_93 (ly_Sp hs_24) rfl rfl rfl hi_27 σ_26_e ?_
          refine z_aload_n (M := M_X0_readRings) dX0_readRings_94 rfl ?_
          refine z_lload (M := M_X0_readRings) dX0_readRings_95 rfl ?_
          obtain ⟨⟨x_30, σ_29⟩, hc_28, H⟩ := bd_e H
          refine z_callV (M := M_X0_readRings) (M' := M_X0_readCoordinates) (as := [vl x_18]) (rest := []) rfl rfl dX0_readRings_97 m_X0_readCoordinates t_999 t_1001 s_29 (c_X0_readCoordinates hl  hc_28) rfl rfl ly_170 rfl (Nat.le_of_ble_eq_true rfl) (Nat.le_of_ble_eq_true rfl) (Nat.le_of_ble_eq_true rfl) (Nat.le_of_ble_eq_true rfl) ?_
          refine z_st (st' := [zv x_30]) rfl ?_
          rcases if_e H with ⟨h_31, H⟩ | ⟨h_31, H⟩
          · refine z_zne_t (M := M_X0_readRings) (tgt := 105) dX0_readRings_100 (by decide) h_31 ?_
            refine z_lload_n (M := M_X0_readRings) dX0_readRings_105 rfl ?_
            refine z_lconst (M := M_X0_readRings) (m := 1) dX0_readRings_106 (by decide +kernel) ?_
            refine z_ladd (M := M_X0_readRings) dX0_readRings_107 ?_
            refine z_lstore_n (M := M_X0_readRings) (lv' := [some (vr 170), some (vl rings_0), none, some (vl (ring_1 + 1)), none, some (vl x_18), none]) dX0_readRings_108 (Nat.le_of_ble_eq_true rfl) rfl rfl ?_
            refine z_goto (M := M_X0_readRings) (tgt := 2) dX0_readRings_109 (by decide) ?_
            refine z_le (lv' := [some (vr 170), some (vl rings_0), none, some (vl (ring_1 + 1)), none, none, none]) ⟨Or.inr rfl, Or.inr rfl, Or.inl rfl, Or.inr rfl, Or.inl rfl, Or.inl rfl, Or.inl rfl, trivial⟩ ?_
            exact K_8 _ (Option.some.inj H).symm
          · refine z_zne_f (M := M_X0_readRings) (tgt := 105) dX0_readRings_100 (by decide) h_31 ?_
            refine z_zconst (M := M_X0_readRings) (b := false) dX0_readRings_103 rfl ?_
            have H := congrArg some (hk_5 _ ((K_9 _ (Option.some.inj H).symm).symm))
            cases H
            exact z_zret (M := M_X0_readRings) dX0_readRings_104 rfl (Nat.le_of_ble_eq_true rfl) (Nat.le_of_ble_eq_true rfl) ⟨rfl, rfl⟩
      · refine z_zne_f (M := M_X0_readRings) (tgt := 40) dX0_readRings_31 (by decide) h_16 ?_
        refine z_aload_n (M := M_X0_readRings) dX0_readRings_34 rfl ?_
        refine z_iconst (M := M_X0_readRings) dX0_readRings_35 ?_
        obtain ⟨⟨x_35, σ_34⟩, hc_33, H⟩ := bd_e H
        refine z_callV (M := M_X0_readRings) (M' := M_X0_fail) (as := [vi 3]) (rest := []) rfl rfl dX0_readRings_36 m_X0_fail t_975 t_977 s_25 (c_X0_fail hl  hc_33) rfl rfl ly_170 rfl (Nat.le_of_ble_eq_true rfl) (Nat.le_of_ble_eq_true rfl) (Nat.le_of_ble_eq_true rfl) (Nat.le_of_ble_eq_true rfl) ?_
        refine z_st (st' := [zv x_35]) rfl ?_
        have H := congrArg some (hk_5 _ ((K_9 _ (Option.some.inj H).symm).symm))
        cases H
        exact z_zret (M := M_X0_readRings) dX0_readRings_39 rfl (Nat.le_of_ble_eq_true rfl) (Nat.le_of_ble_eq_true rfl) ⟨rfl, rfl⟩
    · refine z_zne_f (M := M_X0_readRings) (tgt := 26) dX0_readRings_16 (by decide) h_15 ?_
      refine z_aload_n (M := M_X0_readRings) dX0_readRings_19 rfl ?_
      refine z_bipush (M := M_X0_readRings) dX0_readRings_20 (by decide +kernel) ?_
      obtain ⟨⟨x_38, σ_37⟩, hc_36, H⟩ := bd_e H
      refine z_callV (M := M_X0_readRings) (M' := M_X0_fail) (as := [vi 7]) (rest := []) rfl rfl dX0_readRings_22 m_X0_fail t_975 t_977 s_25 (c_X0_fail hl  hc_36) rfl rfl ly_170 rfl (Nat.le_of_ble_eq_true rfl) (Nat.le_of_ble_eq_true rfl) (Nat.le_of_ble_eq_true rfl) (Nat.le_of_ble_eq_true rfl) ?_
      refine z_st (st' := [zv x_38]) rfl ?_
      have H := congrArg some (hk_5 _ ((K_9 _ (Option.some.inj H).symm).symm))
      cases H
      exact z_zret (M := M_X0_readRings) dX0_readRings_25 rfl (Nat.le_of_ble_eq_true rfl) (Nat.le_of_ble_eq_true rfl) ⟨rfl, rfl⟩
  · refine z_lif_ge_t (M := M_X0_readRings) (tgt := 112) dX0_readRings_5 (by decide) rfl rfl (Int.not_lt.mp h_10) ?_
    exact J_42 _ _ (K_9 _ (Option.some.inj H).symm).symm
theorem c_X0_readBody (hl : l.stackTraces = false) {σ : SG} {kind_0 : Int} {r : Bool} {σ' : SG}  (H : fB_readBody σ kind_0 = some (r, σ')) : en_S l E M_X0_readBody 5 0 0 [vr 170, vi kind_0] σ (pS (some (zv r)) σ') := by
  unfold fB_readBody at H
  refine z_mk (lv := [some (vr 170), some (vi kind_0), none, none, none]) m_X0_readBody rfl hl (Nat.le_of_ble_eq_true rfl) rfl ?_
  refine z_aload_n (M := M_X0_readBody) dX0_readBody_0 rfl ?_
  obtain ⟨hs_1, H⟩ := ck_e H
  refine z_getV (M := M_X0_readBody) (ci := 3) (C := RX0) (T := TX0) (Nf := 13) (ty := tyX0) cl3 dX0_readBody_1 ly_170 4 (by decide) t_155 rfl rfl ?_
  refine z_getI (M := M_X0_readBody) (ci := 9) (C := RX6) (T := TX6) (Nf := 5) (ty := tyX6) cl9 dX0_readBody_4 (ly_S hs_1) 3 (by decide) t_77 rfl rfl ?_
  refine z_iconst (M := M_X0_readBody) dX0_readBody_7 ?_
  refine z_isub (M := M_X0_readBody) dX0_readBody_8 ?_
  refine z_istore_n (M := M_X0_readBody) (lv' := [some (vr 170), some (vi kind_0), some (vi ((σ (kA_plans (σ kB_shape 0).toNat) 0) - 1)), none, none]) dX0_readBody_9 (Nat.le_of_ble_eq_true rfl) rfl rfl ?_
  refine z_iload_n (M := M_X0_readBody) dX0_readBody_10 rfl ?_
  refine z_iconst (M := M_X0_readBody) dX0_readBody_11 ?_
  rcases if_e H with ⟨h_2, H⟩ | ⟨h_2, H⟩
  · refine z_icmp_ne_f (M := M_X0_readBody) (tgt := 21) dX0_readBody_12 (by decide) rfl (by decide +kernel) h_2 ?_
    refine z_aload_n (M := M_X0_readBody) dX0_readBody_15 rfl ?_
    refine z_iload_n (M := M_X0_readBody) dX0_readBody_16 rfl ?_
    obtain ⟨⟨x_5, σ_4⟩, hc_3, H⟩ := bd_e H
    refine z_callV (M := M_X0_readBody) (M' := M_X0_readPoint) (as := [vi ((σ (kA_plans (σ kB_shape 0).toNat) 0) - 1)]) (rest := []) rfl rfl dX0_readBody_17 m_X0_readPoint t_990 t_992 s_28 (c_X0_readPoint hl  hc_3) rfl rfl ly_170 rfl (Nat.le_of_ble_eq_true rfl) (Nat.le_of_ble_eq_true rfl) (Nat.le_of_ble_eq_true rfl) (Nat.le_of_ble_eq_true rfl) ?_
    refine z_st (st' := [zv x_5]) rfl ?_
    cases H
    exact z_zret (M := M_X0_readBody) dX0_readBody_20 rfl (Nat.le_of_ble_eq_true rfl) (Nat.le_of_ble_eq_true rfl) ⟨rfl, rfl⟩
  · refine z_icmp_ne_t (M := M_X0_readBody) (tgt := 21) dX0_readBody_12 (by decide) rfl (by decide +kernel) h_2 ?_
    refine z_aload_n (M := M_X0_readBody) dX0_readBody_21 rfl ?_
    refine z_iconst (M := M_X0_readBody) dX0_readBody_22 ?_
    refine z_callV (M := M_X0_readBody) (M' := M_X0_has) (as := [vi 4]) (rest := []) rfl rfl dX0_readBody_23 m_X0_has t_971 t_973 s_24 (c_X0_has hl  rfl) rfl rfl ly_170 rfl (Nat.le_of_ble_eq_true rfl) (Nat.le_of_ble_eq_true rfl) (Nat.le_of_ble_eq_true rfl) (Nat.le_of_ble_eq_true rfl) ?_
    refine z_st (st' := [zv (fB_has σ 4)]) rfl ?_
    rcases if_e H with ⟨h_6, H⟩ | ⟨h_6, H⟩
    · refine z_zne_t (M := M_X0_readBody) (tgt := 35) dX0_readBody_26 (by decide) h_6 ?_
      refine z_aload_n (M := M_X0_readBody) dX0_readBody_35 rfl ?_
      refine z_aload_n (M := M_X0_readBody) dX0_readBody_36 rfl ?_
      refine z_getI (M := M_X0_readBody) (ci := 3) (C := RX0) (T := TX0) (Nf := 13) (ty := tyX0) cl3 dX0_readBody_37 ly_170 6 (by decide) t_157 rfl rfl ?_
      refine z_iconst (M := M_X0_readBody) dX0_readBody_40 ?_
      obtain ⟨x_8, hc_7, H⟩ := bd_e H
      refine z_callV (M := M_X0_readBody) (M' := M_X0_numberAt) (as := [vi (σ kB_at 0), vi 4]) (rest := []) rfl rfl dX0_readBody_41 m_X0_numberAt t_979 t_981 s_26 (c_X0_numberAt hl  hc_7) rfl rfl ly_170 rfl (Nat.le_of_ble_eq_true rfl) (Nat.le_of_ble_eq_true rfl) (Nat.le_of_ble_eq_true rfl) (Nat.le_of_ble_eq_true rfl) ?_
      refine z_st (st' := [vl x_8]) rfl ?_
      refine z_lstore_n (M := M_X0_readBody) (lv' := [some (vr 170), some (vi kind_0), some (vi ((σ (kA_plans (σ kB_shape 0).toNat) 0) - 1)), some (vl x_8), none]) dX0_readBody_44 (Nat.le_of_ble_eq_true rfl) rfl rfl ?_
      refine z_aload_n (M := M_X0_readBody) dX0_readBody_45 rfl ?_
      refine z_dup (M := M_X0_readBody) dX0_readBody_46 rfl ?_
      refine z_getI (M := M_X0_readBody) (ci := 3) (C := RX0) (T := TX0) (Nf := 13) (ty := tyX0) cl3 dX0_readBody_47 ly_170 6 (by decide) t_157 rfl rfl ?_
      refine z_iconst (M := M_X0_readBody) dX0_readBody_50 ?_
      refine z_iadd (M := M_X0_readBody) dX0_readBody_51 ?_
      obtain ⟨σ_9, σ_9_e, H⟩ := wf_e H
      refine z_putI (M := M_X0_readBody) (ci := 3) (C := RX0) (T := TX0) (Nf := 13) (ty := tyX0) cl3 dX0_readBody_52 ly_170 6 (by decide) t_157 rfl rfl rfl rfl σ_9_e ?_
      refine z_aload_n (M := M_X0_readBody) dX0_readBody_55 rfl ?_
      obtain ⟨hs_10, H⟩ := ck_e H
      refine z_getV (M := M_X0_readBody) (ci := 3) (C := RX0) (T := TX0) (Nf := 13) (ty := tyX0) cl3 dX0_readBody_56 ly_170 4 (by decide) t_155 rfl rfl ?_
      refine z_getR (M := M_X0_readBody) (ci := 9) (C := RX6) (T := TX6) (Nf := 5) (ty := tyX6) cl9 dX0_readBody_59 (ly_S hs_10) 0 (by decide) t_53 rfl ?_
      refine z_iload_n (M := M_X0_readBody) dX0_readBody_62 rfl ?_
      refine z_lload_n (M := M_X0_readBody) dX0_readBody_63 rfl ?_
      refine z_l2i (M := M_X0_readBody) dX0_readBody_64 ?_
      obtain ⟨σ_11, σ_11_e, hi_12, H⟩ := wa_e H
      refine z_iast (M := M_X0_readBody) dX0_readBody_65 (ly_Sp hs_10) rfl rfl rfl hi_12 σ_11_e ?_
      refine z_iload_n (M := M_X0_readBody) dX0_readBody_66 rfl ?_
      rcases if_e H with ⟨h_13, H⟩ | ⟨h_13, H⟩
      · refine z_lookup (M := M_X0_readBody) (tgt := 92) (off := 25) dX0_readBody_67 h_13 (by decide) (by decide) (by decide) ?_
        refine z_aload_n (M := M_X0_readBody) dX0_readBody_92 rfl ?_
        refine z_lload_n (M := M_X0_readBody) dX0_readBody_93 rfl ?_
        obtain ⟨⟨x_16, σ_15⟩, hc_14, H⟩ := bd_e H
        refine z_callV (M := M_X0_readBody) (M' := M_X0_readCoordinates) (as := [vl x_8]) (rest := []) rfl rfl dX0_readBody_94 m_X0_readCoordinates t_999 t_1001 s_29 (c_X0_readCoordinates hl  hc_14) rfl rfl ly_170 rfl (Nat.le_of_ble_eq_true rfl) (Nat.le_of_ble_eq_true rfl) (Nat.le_of_ble_eq_true rfl) (Nat.le_of_ble_eq_true rfl) ?_
        refine z_st (st' := [zv x_16]) rfl ?_
        cases H
        exact z_zret (M := M_X0_readBody) dX0_readBody_97 rfl (Nat.le_of_ble_eq_true rfl) (Nat.le_of_ble_eq_true rfl) ⟨rfl, rfl⟩
      · rcases if_e H with ⟨h_17, H⟩ | ⟨h_17, H⟩
        · refine z_lookup (M := M_X0_readBody) (tgt := 98) (off := 31) dX0_readBody_67 h_17 (by decide) (by decide) (by decide) ?_
          refine z_aload_n (M := M_X0_readBody) dX0_readBody_98 rfl ?_
          refine z_lload_n (M := M_X0_readBody) dX0_readBody_99 rfl ?_
          obtain ⟨⟨x_20, σ_19⟩, hc_18, H⟩ := bd_e H
          refine z_callV (M := M_X0_readBody) (M' := M_X0_readRings) (as := [vl x_8]) (rest := []) rfl rfl dX0_readBody_100 m_X0_readRings t_1020 t_1022 s_32 (c_X0_readRings hl  hc_18) rfl rfl ly_170 rfl (Nat.le_of_ble_eq_true rfl) (Nat.le_of_ble_eq_true rfl) (Nat.le_of_ble_eq_true rfl) (Nat.le_of_ble_eq_true rfl) ?_
          refine z_st (st' := [zv x_20]) rfl ?_
          cases H
          exact z_zret (M := M_X0_readBody) dX0_readBody_103 rfl (Nat.le_of_ble_eq_true rfl) (Nat.le_of_ble_eq_true rfl) ⟨rfl, rfl⟩
        · refine z_lookup (M := M_X0_readBody) (tgt := 104) (off := 37) dX0_readBody_67 rfl (by decide) (by simp only [Op.lookupswitch.offset_cons, Op.lookupswitch.offset_nil]; repeat rw [if_neg (by omega)]) (by decide) ?_
          refine z_aload_n (M := M_X0_readBody) dX0_readBody_104 rfl ?_
          refine z_iload_n (M := M_X0_readBody) dX0_readBody_105 rfl ?_
          refine z_lload_n (M := M_X0_readBody) dX0_readBody_106 rfl ?_
          obtain ⟨⟨x_23, σ_22⟩, hc_21, H⟩ := bd_e H
          refine z_callV (M := M_X0_readBody) (M' := M_X0_openLevel) (as := [vi kind_0, vl x_8]) (rest := []) rfl rfl dX0_readBody_107 m_X0_openLevel t_1025 t_1027 s_33 (c_X0_openLevel hl  hc_21) rfl rfl ly_170 rfl (Nat.le_of_ble_eq_true rfl) (Nat.le_of_ble_eq_true rfl) (Nat.le_of_ble_eq_true rfl) (Nat.le_of_ble_eq_true rfl) ?_
          refine z_st (st' := [zv x_23]) rfl ?_
          cases H
          exact z_zret (M := M_X0_readBody) dX0_readBody_110 rfl (Nat.le_of_ble_eq_true rfl) (Nat.le_of_ble_eq_true rfl) ⟨rfl, rfl⟩
    · refine z_zne_f (M := M_X0_readBody) (tgt := 35) dX0_readBody_26 (by decide) h_6 ?_
      refine z_aload_n (M := M_X0_readBody) dX0_readBody_29 rfl ?_
      refine z_iconst (M := M_X0_readBody) dX0_readBody_30 ?_
      obtain ⟨⟨x_26, σ_25⟩, hc_24, H⟩ := bd_e H
      refine z_callV (M := M_X0_readBody) (M' := M_X0_fail) (as := [vi 3]) (rest := []) rfl rfl dX0_readBody_31 m_X0_fail t_975 t_977 s_25 (c_X0_fail hl  hc_24) rfl rfl ly_170 rfl (Nat.le_of_ble_eq_true rfl) (Nat.le_of_ble_eq_true rfl) (Nat.le_of_ble_eq_true rfl) (Nat.le_of_ble_eq_true rfl) ?_
      refine z_st (st' := [zv x_26]) rfl ?_
      cases H
      exact z_zret (M := M_X0_readBody) dX0_readBody_34 rfl (Nat.le_of_ble_eq_true rfl) (Nat.le_of_ble_eq_true rfl) ⟨rfl, rfl⟩
end LFAB
