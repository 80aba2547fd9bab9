section LFAR
variable {l : Launch} {E : EE}
theorem c_X12_reads (hl : l.stackTraces = false) {σ : SG} {slot_0 : Int} {isText_0 : Bool} {r : Int} {σ' : SG}  (H : fR_reads σ slot_0 isText_0 = some (r, σ')) : en_S l E M_X12_reads 14 0 0 [vr 277, vi slot_0, zv isText_0] σ (pS (some (vi r)) σ') := by
  unfold fR_reads at H
  refine z_mk (lv := [some (vr 277), some (vi slot_0), some (zv isText_0), none]) m_X12_reads rfl hl (Nat.le_of_ble_eq_true rfl) rfl ?_
  refine z_aload_n (M := M_X12_reads) dX12_reads_0 rfl ?_
  refine z_iconst (M := M_X12_reads) dX12_reads_1 ?_
  obtain ⟨σ_1, σ_1_e, H⟩ := wf_e H
  refine z_putI (M := M_X12_reads) (ci := 15) (C := RX12) (T := TX12) (Nf := 135) (ty := tyX12) cl15 dX12_reads_2 ly_277 0 (by decide) t_2391 rfl rfl rfl rfl σ_1_e ?_
  refine z_aload_n (M := M_X12_reads) dX12_reads_5 rfl ?_
  refine z_aload_n (M := M_X12_reads) dX12_reads_6 rfl ?_
  refine z_getI (M := M_X12_reads) (ci := 15) (C := RX12) (T := TX12) (Nf := 135) (ty := tyX12) cl15 dX12_reads_7 ly_277 4 (by decide) t_2395 rfl rfl ?_
  obtain ⟨σ_2, σ_2_e, H⟩ := wf_e H
  refine z_putI (M := M_X12_reads) (ci := 15) (C := RX12) (T := TX12) (Nf := 135) (ty := tyX12) cl15 dX12_reads_10 ly_277 18 (by decide) t_2409 rfl rfl rfl rfl σ_2_e ?_
  refine z_aload_n (M := M_X12_reads) dX12_reads_13 rfl ?_
  refine z_iconst (M := M_X12_reads) dX12_reads_14 ?_
  obtain ⟨σ_3, σ_3_e, H⟩ := wf_e H
  refine z_putI (M := M_X12_reads) (ci := 15) (C := RX12) (T := TX12) (Nf := 135) (ty := tyX12) cl15 dX12_reads_15 ly_277 4 (by decide) t_2395 rfl rfl rfl rfl σ_3_e ?_
  refine z_aload_n (M := M_X12_reads) dX12_reads_18 rfl ?_
  have J_4 : YY l E M_X12_reads 14 0 0 (pS (some (vi r)) σ') 31 [some (vr 277), some (vi slot_0), some (zv isText_0), none] [zv (decide (¬ ((fR_isSlot slot_0) = true))), vr 277] σ_3 0 0 := by
    refine z_iconst (M := M_X12_reads) dX12_reads_31 ?_
    obtain ⟨⟨x_7, σ_6⟩, hc_5, H⟩ := bd_e H
    refine z_callV (M := M_X12_reads) (M' := M_X12_fails) (as := [zv (decide (¬ ((fR_isSlot slot_0) = true))), vi 1]) (rest := []) rfl rfl dX12_reads_32 m_X12_fails t_2805 t_2807 s_157 (c_X12_fails hl  hc_5) rfl rfl ly_277 rfl (Nat.le_of_ble_eq_true rfl) (Nat.le_of_ble_eq_true rfl) (Nat.le_of_ble_eq_true rfl) (Nat.le_of_ble_eq_true rfl) ?_
    refine z_st (st' := [zv x_7]) rfl ?_
    rcases if_e H with ⟨h_8, H⟩ | ⟨h_8, H⟩
    · refine z_zeq_f (M := M_X12_reads) (tgt := 40) dX12_reads_35 (by decide) h_8 ?_
      refine z_iconst (M := M_X12_reads) dX12_reads_38 ?_
      cases H
      exact z_iret (M := M_X12_reads) dX12_reads_39 rfl (Nat.le_of_ble_eq_true rfl) (Nat.le_of_ble_eq_true rfl) ⟨rfl, rfl⟩
    · refine z_zeq_t (M := M_X12_reads) (tgt := 40) dX12_reads_35 (by decide) h_8 ?_
      obtain ⟨v_40, he_41, hk_42⟩ := bd_e H
      have J_43 : ∀ x_24 σ_25, v_40 = (x_24, σ_25) → YY l E M_X12_reads 14 0 0 (pS (some (vi r)) σ') 55 [some (vr 277), some (vi slot_0), some (zv isText_0), none] [zv x_24] σ_25 0 0 := by
        intro x_24 σ_25 e
        have H := hk_42
        rw [e] at H
        refine z_zstore_n (M := M_X12_reads) (lv' := [some (vr 277), some (vi slot_0), some (zv isText_0), some (zv x_24)]) dX12_reads_55 (Nat.le_of_ble_eq_true rfl) rfl rfl ?_
        refine z_aload_n (M := M_X12_reads) dX12_reads_56 rfl ?_
        refine z_iload_n (M := M_X12_reads) dX12_reads_57 rfl ?_
        obtain ⟨σ_27, hc_26, H⟩ := bd_e H
        refine z_callV (M := M_X12_reads) (M' := M_X12_clear) (as := [vi slot_0]) (rest := []) rfl rfl dX12_reads_58 m_X12_clear t_2848 t_2850 s_161 (c_X12_clear hl  hc_26) rfl rfl ly_277 rfl (Nat.le_of_ble_eq_true rfl) (Nat.le_of_ble_eq_true rfl) (Nat.le_of_ble_eq_true rfl) (Nat.le_of_ble_eq_true rfl) ?_
        refine z_st (st' := []) rfl ?_
        refine z_aload_n (M := M_X12_reads) dX12_reads_61 rfl ?_
        have J_28 : YY l E M_X12_reads 14 0 0 (pS (some (vi r)) σ') 71 [some (vr 277), some (vi slot_0), some (zv isText_0), some (zv x_24)] [zv (decide (¬ (x_24 = true))), vr 277] σ_27 0 0 := by
          refine z_iconst (M := M_X12_reads) dX12_reads_71 ?_
          obtain ⟨⟨x_31, σ_30⟩, hc_29, H⟩ := bd_e H
          refine z_callV (M := M_X12_reads) (M' := M_X12_fails) (as := [zv (decide (¬ (x_24 = true))), vi 2]) (rest := []) rfl rfl dX12_reads_72 m_X12_fails t_2805 t_2807 s_157 (c_X12_fails hl  hc_29) rfl rfl ly_277 rfl (Nat.le_of_ble_eq_true rfl) (Nat.le_of_ble_eq_true rfl) (Nat.le_of_ble_eq_true rfl) (Nat.le_of_ble_eq_true rfl) ?_
          refine z_st (st' := [zv x_31]) rfl ?_
          rcases if_e H with ⟨h_32, H⟩ | ⟨h_32, H⟩
          · refine z_zeq_f (M := M_X12_reads) (tgt := 80) dX12_reads_75 (by decide) h_32 ?_
            refine z_iconst (M := M_X12_reads) dX12_reads_78 ?_
            cases H
            exact z_iret (M := M_X12_reads) dX12_reads_79 rfl (Nat.le_of_ble_eq_true rfl) (Nat.le_of_ble_eq_true rfl) ⟨rfl, rfl⟩
          · refine z_zeq_t (M := M_X12_reads) (tgt := 80) dX12_reads_75 (by decide) h_32 ?_
            refine z_aload_n (M := M_X12_reads) dX12_reads_80 rfl ?_
            refine z_iconst (M := M_X12_reads) dX12_reads_81 ?_
            obtain ⟨σ_33, σ_33_e, H⟩ := wf_e H
            refine z_putI (M := M_X12_reads) (ci := 15) (C := RX12) (T := TX12) (Nf := 135) (ty := tyX12) cl15 dX12_reads_82 ly_277 7 (by decide) t_2398 rfl rfl rfl rfl σ_33_e ?_
            refine z_aload_n (M := M_X12_reads) dX12_reads_85 rfl ?_
            refine z_iconst (M := M_X12_reads) dX12_reads_86 ?_
            obtain ⟨σ_34, σ_34_e, H⟩ := wf_e H
            refine z_putI (M := M_X12_reads) (ci := 15) (C := RX12) (T := TX12) (Nf := 135) (ty := tyX12) cl15 dX12_reads_87 ly_277 8 (by decide) t_2399 rfl rfl rfl rfl σ_34_e ?_
            refine z_aload_n (M := M_X12_reads) dX12_reads_90 rfl ?_
            refine z_bipush (M := M_X12_reads) dX12_reads_91 (by decide +kernel) ?_
            refine z_iload_n (M := M_X12_reads) dX12_reads_93 rfl ?_
            obtain ⟨σ_36, hc_35, H⟩ := bd_e H
            refine z_callV (M := M_X12_reads) (M' := M_X12_move) (as := [vi 32, vi slot_0]) (rest := []) rfl rfl dX12_reads_94 m_X12_move t_3021 t_3023 s_196 (c_X12_move hl  hc_35) rfl rfl ly_277 rfl (Nat.le_of_ble_eq_true rfl) (Nat.le_of_ble_eq_true rfl) (Nat.le_of_ble_eq_true rfl) (Nat.le_of_ble_eq_true rfl) ?_
            refine z_st (st' := []) rfl ?_
            refine z_aload_n (M := M_X12_reads) dX12_reads_97 rfl ?_
            refine z_getR (M := M_X12_reads) (ci := 15) (C := RX12) (T := TX12) (Nf := 135) (ty := tyX12) cl15 dX12_reads_98 ly_277 10 (by decide) t_2401 rfl ?_
            refine z_sipush (M := M_X12_reads) dX12_reads_101 (by decide +kernel) ?_
            refine z_iload_n (M := M_X12_reads) dX12_reads_104 rfl ?_
            refine z_imul (M := M_X12_reads) dX12_reads_105 ?_
            obtain ⟨x_37, x_37_e, hi_38, H⟩ := rd_e H
            refine z_iald (M := M_X12_reads) dX12_reads_106 ly_281 rfl rfl rfl hi_38 x_37_e ?_
            cases H
            exact z_iret (M := M_X12_reads) dX12_reads_107 rfl (Nat.le_of_ble_eq_true rfl) (Nat.le_of_ble_eq_true rfl) ⟨rfl, rfl⟩
        refine z_zload_n (M := M_X12_reads) dX12_reads_62 rfl ?_
        by_cases h_39 : x_24 = true
        · refine z_zne_t (M := M_X12_reads) (tgt := 70) dX12_reads_63 (by decide) h_39 ?_
          refine z_iconst (M := M_X12_reads) dX12_reads_70 ?_
          exact z_st (by rw [zv_f (p := ¬ (x_24 = true)) (not_not_intro h_39)]) J_28
        · refine z_zne_f (M := M_X12_reads) (tgt := 70) dX12_reads_63 (by decide) h_39 ?_
          refine z_iconst (M := M_X12_reads) dX12_reads_66 ?_
          refine z_goto (M := M_X12_reads) (tgt := 71) dX12_reads_67 (by decide) ?_
          exact z_st (by rw [zv_t (p := ¬ (x_24 = true)) h_39]) J_28
      have H := he_41
      refine z_zload_n (M := M_X12_reads) dX12_reads_40 rfl ?_
      rcases if_e H with ⟨h_15, H⟩ | ⟨h_15, H⟩
      · refine z_zeq_f (M := M_X12_reads) (tgt := 51) dX12_reads_41 (by decide) h_15 ?_
        refine z_aload_n (M := M_X12_reads) dX12_reads_44 rfl ?_
        obtain ⟨⟨x_18, σ_17⟩, hc_16, H⟩ := bd_e H
        refine z_callV (M := M_X12_reads) (M' := M_X12_words) (as := []) (rest := []) rfl rfl dX12_reads_45 m_X12_words t_2844 t_2846 s_160 (c_X12_words hl  hc_16) rfl rfl ly_277 rfl (Nat.le_of_ble_eq_true rfl) (Nat.le_of_ble_eq_true rfl) (Nat.le_of_ble_eq_true rfl) (Nat.le_of_ble_eq_true rfl) ?_
        refine z_st (st' := [zv x_18]) rfl ?_
        refine z_goto (M := M_X12_reads) (tgt := 55) dX12_reads_48 (by decide) ?_
        exact J_43 _ _ (Option.some.inj H).symm
      · refine z_zeq_t (M := M_X12_reads) (tgt := 51) dX12_reads_41 (by decide) h_15 ?_
        refine z_aload_n (M := M_X12_reads) dX12_reads_51 rfl ?_
        obtain ⟨⟨x_22, σ_21⟩, hc_20, H⟩ := bd_e H
        refine z_callV (M := M_X12_reads) (M' := M_X12_bytes) (as := []) (rest := []) rfl rfl dX12_reads_52 m_X12_bytes t_2966 t_2968 s_185 (c_X12_bytes hl  hc_20) rfl rfl ly_277 rfl (Nat.le_of_ble_eq_true rfl) (Nat.le_of_ble_eq_true rfl) (Nat.le_of_ble_eq_true rfl) (Nat.le_of_ble_eq_true rfl) ?_
        refine z_st (st' := [zv x_22]) rfl ?_
        exact J_43 _ _ (Option.some.inj H).symm
  refine z_iload_n (M := M_X12_reads) dX12_reads_19 rfl ?_
  refine z_callS (M := M_X12_reads) (M' := M_X12_isSlot) (as := [vi slot_0]) (rest := [vr 277]) rfl rfl dX12_reads_20 m_X12_isSlot t_2841 t_2842 (c_X12_isSlot hl  rfl) rfl rfl (Nat.le_of_ble_eq_true rfl) (Nat.le_of_ble_eq_true rfl) (Nat.le_of_ble_eq_true rfl) (Nat.le_of_ble_eq_true rfl) ?_
  refine z_st (st' := [zv (fR_isSlot slot_0), vr 277]) rfl ?_
  by_cases h_44 : (fR_isSlot slot_0) = true
  · refine z_zne_t (M := M_X12_reads) (tgt := 30) dX12_reads_23 (by decide) h_44 ?_
    refine z_iconst (M := M_X12_reads) dX12_reads_30 ?_
    exact z_st (by rw [zv_f (p := ¬ ((fR_isSlot slot_0) = true)) (not_not_intro h_44)]) J_4
  · refine z_zne_f (M := M_X12_reads) (tgt := 30) dX12_reads_23 (by decide) h_44 ?_
    refine z_iconst (M := M_X12_reads) dX12_reads_26 ?_
    refine z_goto (M := M_X12_reads) (tgt := 31) dX12_reads_27 (by decide) ?_
    exact z_st (by rw [zv_t (p := ¬ ((fR_isSlot slot_0) = true)) h_44]) J_4
theorem c_X12_readWords (hl : l.stackTraces = false) {σ : SG} {slot_0 : Int} {r : Int} {σ' : SG}  (H : fR_readWords σ slot_0 = some (r, σ')) : en_S l E M_X12_readWords 15 0 0 [vr 277, vi slot_0] σ (pS (some (vi r)) σ') := by
  unfold fR_readWords at H
  refine z_mk (lv := [some (vr 277), some (vi slot_0)]) m_X12_readWords rfl hl (Nat.le_of_ble_eq_true rfl) rfl ?_
  refine z_aload_n (M := M_X12_readWords) dX12_readWords_0 rfl ?_
  refine z_iload_n (M := M_X12_readWords) dX12_readWords_1 rfl ?_
  refine z_zconst (M := M_X12_readWords) (b := true) dX12_readWords_2 rfl ?_
  obtain ⟨⟨x_3, σ_2⟩, hc_1, H⟩ := bd_e H
  refine z_callV (M := M_X12_readWords) (M' := M_X12_reads) (as := [vi slot_0, zv true]) (rest := []) rfl rfl dX12_readWords_3 m_X12_reads t_2837 t_2839 s_159 (c_X12_reads hl  hc_1) rfl rfl ly_277 rfl (Nat.le_of_ble_eq_true rfl) (Nat.le_of_ble_eq_true rfl) (Nat.le_of_ble_eq_true rfl) (Nat.le_of_ble_eq_true rfl) ?_
  refine z_st (st' := [vi x_3]) rfl ?_
  cases H
  exact z_iret (M := M_X12_readWords) dX12_readWords_6 rfl (Nat.le_of_ble_eq_true rfl) (Nat.le_of_ble_eq_true rfl) ⟨rfl, rfl⟩
theorem c_X12_readBytes (hl : l.stackTraces = false) {σ : SG} {slot_0 : Int} {r : Int} {σ' : SG}  (H : fR_readBytes σ slot_0 = some (r, σ')) : en_S l E M_X12_readBytes 15 0 0 [vr 277, vi slot_0] σ (pS (some (vi r)) σ') := by
  unfold fR_readBytes at H
  refine z_mk (lv := [some (vr 277), some (vi slot_0)]) m_X12_readBytes rfl hl (Nat.le_of_ble_eq_true rfl) rfl ?_
  refine z_aload_n (M := M_X12_readBytes) dX12_readBytes_0 rfl ?_
  refine z_iload_n (M := M_X12_readBytes) dX12_readBytes_1 rfl ?_
  refine z_zconst (M := M_X12_readBytes) (b := false) dX12_readBytes_2 rfl ?_
  obtain ⟨⟨x_3, σ_2⟩, hc_1, H⟩ := bd_e H
  refine z_callV (M := M_X12_readBytes) (M' := M_X12_reads) (as := [vi slot_0, zv false]) (rest := []) rfl rfl dX12_readBytes_3 m_X12_reads t_2837 t_2839 s_159 (c_X12_reads hl  hc_1) rfl rfl ly_277 rfl (Nat.le_of_ble_eq_true rfl) (Nat.le_of_ble_eq_true rfl) (Nat.le_of_ble_eq_true rfl) (Nat.le_of_ble_eq_true rfl) ?_
  refine z_st (st' := [vi x_3]) rfl ?_
  cases H
  exact z_iret (M := M_X12_readBytes) dX12_readBytes_6 rfl (Nat.le_of_ble_eq_true rfl) (Nat.le_of_ble_eq_true rfl) ⟨rfl, rfl⟩
theorem c_X12_put (hl : l.stackTraces = false) {σ : SG} {c_0 : Int} {σ' : SG}  (H : fR_put σ c_0 = some σ') : en_S l E M_X12_put 1 0 0 [vr 277, vi c_0] σ (pS (none) σ') := by
  unfold fR_put at H
  refine z_mk (lv := [some (vr 277), some (vi c_0)]) m_X12_put rfl hl (Nat.le_of_ble_eq_true rfl) rfl ?_
  refine z_aload_n (M := M_X12_put) dX12_put_0 rfl ?_
  refine z_getR (M := M_X12_put) (ci := 15) (C := RX12) (T := TX12) (Nf := 135) (ty := tyX12) cl15 dX12_put_1 ly_277 5 (by decide) t_2396 rfl ?_
  refine z_aload_n (M := M_X12_put) dX12_put_4 rfl ?_
  refine z_getI (M := M_X12_put) (ci := 15) (C := RX12) (T := TX12) (Nf := 135) (ty := tyX12) cl15 dX12_put_5 ly_277 6 (by decide) t_2397 rfl rfl ?_
  refine z_iload_n (M := M_X12_put) dX12_put_8 rfl ?_
  refine z_i2b (M := M_X12_put) dX12_put_9 ?_
  obtain ⟨σ_1, σ_1_e, hi_2, H⟩ := wa_e H
  refine z_bast (M := M_X12_put) dX12_put_10 ly_279 rfl rfl rfl hi_2 σ_1_e ?_
  refine z_aload_n (M := M_X12_put) dX12_put_11 rfl ?_
  refine z_dup (M := M_X12_put) dX12_put_12 rfl ?_
  refine z_getI (M := M_X12_put) (ci := 15) (C := RX12) (T := TX12) (Nf := 135) (ty := tyX12) cl15 dX12_put_13 ly_277 6 (by decide) t_2397 rfl rfl ?_
  refine z_iconst (M := M_X12_put) dX12_put_16 ?_
  refine z_iadd (M := M_X12_put) dX12_put_17 ?_
  obtain ⟨σ_3, σ_3_e, H⟩ := wf_e H
  refine z_putI (M := M_X12_put) (ci := 15) (C := RX12) (T := TX12) (Nf := 135) (ty := tyX12) cl15 dX12_put_18 ly_277 6 (by decide) t_2397 rfl rfl rfl rfl σ_3_e ?_
  cases H
  exact z_vret (M := M_X12_put) dX12_put_21 rfl (Nat.le_of_ble_eq_true rfl) (Nat.le_of_ble_eq_true rfl) ⟨rfl, rfl⟩
theorem c_X12_next (hl : l.stackTraces = false) {σ : SG} {r : Int} {σ' : SG}  (H : fR_next σ = some (r, σ')) : en_S l E M_X12_next 1 0 0 [vr 277] σ (pS (some (vi r)) σ') := by
  unfold fR_next at H
  refine z_mk (lv := [some (vr 277)]) m_X12_next rfl hl (Nat.le_of_ble_eq_true rfl) rfl ?_
  refine z_aload_n (M := M_X12_next) dX12_next_0 rfl ?_
  refine z_dup (M := M_X12_next) dX12_next_1 rfl ?_
  refine z_getI (M := M_X12_next) (ci := 15) (C := RX12) (T := TX12) (Nf := 135) (ty := tyX12) cl15 dX12_next_2 ly_277 30 (by decide) t_2421 rfl rfl ?_
  refine z_iconst (M := M_X12_next) dX12_next_5 ?_
  refine z_iadd (M := M_X12_next) dX12_next_6 ?_
  obtain ⟨σ_1, σ_1_e, H⟩ := wf_e H
  refine z_putI (M := M_X12_next) (ci := 15) (C := RX12) (T := TX12) (Nf := 135) (ty := tyX12) cl15 dX12_next_7 ly_277 30 (by decide) t_2421 rfl rfl rfl rfl σ_1_e ?_
  refine z_aload_n (M := M_X12_next) dX12_next_10 rfl ?_
  refine z_getR (M := M_X12_next) (ci := 15) (C := RX12) (T := TX12) (Nf := 135) (ty := tyX12) cl15 dX12_next_11 ly_277 10 (by decide) t_2401 rfl ?_
  refine z_aload_n (M := M_X12_next) dX12_next_14 rfl ?_
  refine z_getI (M := M_X12_next) (ci := 15) (C := RX12) (T := TX12) (Nf := 135) (ty := tyX12) cl15 dX12_next_15 ly_277 30 (by decide) t_2421 rfl rfl ?_
  refine z_iconst (M := M_X12_next) dX12_next_18 ?_
  refine z_isub (M := M_X12_next) dX12_next_19 ?_
  obtain ⟨x_2, x_2_e, hi_3, H⟩ := rd_e H
  refine z_iald (M := M_X12_next) dX12_next_20 ly_281 rfl rfl rfl hi_3 x_2_e ?_
  cases H
  exact z_iret (M := M_X12_next) dX12_next_21 rfl (Nat.le_of_ble_eq_true rfl) (Nat.le_of_ble_eq_true rfl) ⟨rfl, rfl⟩
theorem c_X12_putWord (hl : l.stackTraces = false) {σ : SG} {kind_0 : Int} {σ' : SG}  (H : fR_putWord σ kind_0 = some σ') : en_S l E M_X12_putWord 6 0 0 [vr 277, vi kind_0] σ (pS (none) σ') := by
  unfold fR_putWord at H
  refine z_mk (lv := [some (vr 277), some (vi kind_0), none, none, none]) m_X12_putWord rfl hl (Nat.le_of_ble_eq_true rfl) rfl ?_
  refine z_iconst (M := M_X12_putWord) dX12_putWord_0 ?_
  refine z_istore_n (M := M_X12_putWord) (lv' := [some (vr 277), some (vi kind_0), some (vi 1), none, none]) dX12_putWord_1 (Nat.le_of_ble_eq_true rfl) rfl rfl ?_
  refine z_iconst (M := M_X12_putWord) dX12_putWord_2 ?_
  refine z_istore_n (M := M_X12_putWord) (lv' := [some (vr 277), some (vi kind_0), some (vi 1), some (vi 0), none]) dX12_putWord_3 (Nat.le_of_ble_eq_true rfl) rfl rfl ?_
  obtain ⟨rl_7, hw_4, hk_5⟩ := bd_e H
  have J_39 : ∀ which_36 k_37 σ_38, rl_7 = (which_36, k_37, σ_38) → YY l E M_X12_putWord 6 0 0 (pS (none) σ') 53 [some (vr 277), some (vi kind_0), some (vi which_36), some (vi k_37), none] [] σ_38 0 0 := by
    intro which_36 k_37 σ_38 e
    have H := hk_5
    rw [e] at H
    cases H
    exact z_vret (M := M_X12_putWord) dX12_putWord_53 rfl (Nat.le_of_ble_eq_true rfl) (Nat.le_of_ble_eq_true rfl) ⟨rfl, rfl⟩
  refine whl_go hw_4 (fun (which_1, k_2, σ_3) => YY l E M_X12_putWord 6 0 0 (pS (none) σ') 4 [some (vr 277), some (vi kind_0), some (vi which_1), some (vi k_2), none] [] σ_3 0 0) ?_
  rintro ⟨which_1, k_2, σ_3⟩ o_8 H K_9 K_10
  refine z_iload_n (M := M_X12_putWord) dX12_putWord_4 rfl ?_
  refine z_ldcWS (M := M_X12_putWord) (i := 9) (w := 10) (tx := "POINT LINESTRING POLYGON MULTIPOINT MULTILINESTRING MULTIPOLYGON GEOMETRYCOLLECTION EMPTY ") dX12_putWord_5 (by decide +kernel) (by decide) rfl ?_
  refine z_strlen (M := M_X12_putWord) rfl dX12_putWord_8 t_2889 (by decide) hl (Nat.le_of_ble_eq_true rfl) (Nat.le_of_ble_eq_true rfl) (Nat.le_of_ble_eq_true rfl) (Nat.le_of_ble_eq_true rfl) ?_
  rcases if_e H with ⟨h_11, H⟩ | ⟨h_11, H⟩
  · refine z_icmp_ge_f (M := M_X12_putWord) (tgt := 53) dX12_putWord_11 (by decide) rfl rfl h_11 ?_
    refine z_ldcWS (M := M_X12_putWord) (i := 9) (w := 10) (tx := "POINT LINESTRING POLYGON MULTIPOINT MULTILINESTRING MULTIPOLYGON GEOMETRYCOLLECTION EMPTY ") dX12_putWord_14 (by decide +kernel) (by decide) rfl ?_
    refine z_iload_n (M := M_X12_putWord) dX12_putWord_17 rfl ?_
    obtain ⟨hi_12, H⟩ := ck_e H
    refine z_strch (M := M_X12_putWord) rfl dX12_putWord_18 t_2890 (by decide) rfl hi_12 hl (Nat.le_of_ble_eq_true rfl) (Nat.le_of_ble_eq_true rfl) (Nat.le_of_ble_eq_true rfl) (Nat.le_of_ble_eq_true rfl) ?_
    refine z_istore (M := M_X12_putWord) (lv' := [some (vr 277), some (vi kind_0), some (vi which_1), some (vi k_2), some (vi (sChr 10 (w32 k_2)))]) dX12_putWord_21 (Nat.le_of_ble_eq_true rfl) rfl rfl ?_
    obtain ⟨v_16, he_13, hk_14⟩ := bd_e H
    have J_34 : ∀ which_31 σ_32, v_16 = (which_31, σ_32) → YY l E M_X12_putWord 6 0 0 (pS (none) σ') 47 [some (vr 277), some (vi kind_0), some (vi which_31), some (vi k_2), some (vi (sChr 10 (w32 k_2)))] [] σ_32 0 0 := by
      intro which_31 σ_32 e
      have H := hk_14
      rw [e] at H
      refine z_iinc (M := M_X12_putWord) (lv' := [some (vr 277), some (vi kind_0), some (vi which_31), some (vi (k_2 + 1)), some (vi (sChr 10 (w32 k_2)))]) dX12_putWord_47 rfl (Nat.le_of_ble_eq_true rfl) rfl rfl ?_
      refine z_goto (M := M_X12_putWord) (tgt := 4) dX12_putWord_50 (by decide) ?_
      refine z_le (lv' := [some (vr 277), some (vi kind_0), some (vi which_31), some (vi (k_2 + 1)), none]) ⟨Or.inr rfl, Or.inr rfl, Or.inr rfl, Or.inr rfl, Or.inl rfl, trivial⟩ ?_
      exact K_9 _ (Option.some.inj H).symm
    have H := he_13
    refine z_iload (M := M_X12_putWord) dX12_putWord_23 rfl ?_
    refine z_bipush (M := M_X12_putWord) dX12_putWord_25 (by decide +kernel) ?_
    rcases if_e H with ⟨h_17, H⟩ | ⟨h_17, H⟩
    · refine z_icmp_ne_f (M := M_X12_putWord) (tgt := 36) dX12_putWord_27 (by decide) rfl (by decide +kernel) h_17 ?_
      refine z_iinc (M := M_X12_putWord) (lv' := [some (vr 277), some (vi kind_0), some (vi (which_1 + 1)), some (vi k_2), some (vi (sChr 10 (w32 k_2)))]) dX12_putWord_30 rfl (Nat.le_of_ble_eq_true rfl) rfl rfl ?_
      refine z_goto (M := M_X12_putWord) (tgt := 47) dX12_putWord_33 (by decide) ?_
      exact J_34 _ _ (Option.some.inj H).symm
    · refine z_icmp_ne_t (M := M_X12_putWord) (tgt := 36) dX12_putWord_27 (by decide) rfl (by decide +kernel) h_17 ?_
      obtain ⟨v_22, he_19, hk_20⟩ := bd_e H
      have J_30 : ∀ σ_28, v_22 = σ_28 → YY l E M_X12_putWord 6 0 0 (pS (none) σ') 47 [some (vr 277), some (vi kind_0), some (vi which_1), some (vi k_2), some (vi (sChr 10 (w32 k_2)))] [] σ_28 0 0 := by
        intro σ_28 e
        have H := hk_20
        rw [e] at H
        exact J_34 _ _ (Option.some.inj H).symm
      have H := he_19
      refine z_iload_n (M := M_X12_putWord) dX12_putWord_36 rfl ?_
      refine z_iload_n (M := M_X12_putWord) dX12_putWord_37 rfl ?_
      rcases if_e H with ⟨h_23, H⟩ | ⟨h_23, H⟩
      · refine z_icmp_ne_f (M := M_X12_putWord) (tgt := 47) dX12_putWord_38 (by decide) rfl rfl h_23 ?_
        refine z_aload_n (M := M_X12_putWord) dX12_putWord_41 rfl ?_
        refine z_iload (M := M_X12_putWord) dX12_putWord_42 rfl ?_
        obtain ⟨σ_25, hc_24, H⟩ := bd_e H
        refine z_callV (M := M_X12_putWord) (M' := M_X12_put) (as := [vi (sChr 10 (w32 k_2))]) (rest := []) rfl rfl dX12_putWord_44 m_X12_put t_3045 t_3047 s_200 (c_X12_put hl  hc_24) rfl rfl ly_277 rfl (Nat.le_of_ble_eq_true rfl) (Nat.le_of_ble_eq_true rfl) (Nat.le_of_ble_eq_true rfl) (Nat.le_of_ble_eq_true rfl) ?_
        refine z_st (st' := []) rfl ?_
        exact J_30 _ (Option.some.inj H).symm
      · refine z_icmp_ne_t (M := M_X12_putWord) (tgt := 47) dX12_putWord_38 (by decide) rfl rfl h_23 ?_
        exact J_30 _ (Option.some.inj H).symm
  · refine z_icmp_ge_t (M := M_X12_putWord) (tgt := 53) dX12_putWord_11 (by decide) rfl rfl (Int.not_lt.mp h_11) ?_
    exact J_39 _ _ _ (K_10 _ (Option.some.inj H).symm).symm
theorem c_X12_putNumber (hl : l.stackTraces = false) {σ : SG} {v_0 : Int} {σ' : SG}  (H : fR_putNumber σ v_0 = some σ') : en_S l E M_X12_putNumber 2 0 0 [vr 277, vi v_0] σ (pS (none) σ') := by
  unfold fR_putNumber at H
  refine z_mk (lv := [some (vr 277), some (vi v_0), none, none, none, none, none, none, none, none]) m_X12_putNumber rfl hl (Nat.le_of_ble_eq_true rfl) rfl ?_
  have J_1 : YY l E M_X12_putNumber 2 0 0 (pS (none) σ') 12 [some (vr 277), some (vi v_0), none, none, none, none, none, none, none, none] [vl (if (w32 v_0) < 0 then (-(w32 v_0)) else (w32 v_0))] σ 0 0 := by
    refine z_lstore_n (M := M_X12_putNumber) (lv' := [some (vr 277), some (vi v_0), some (vl (if (w32 v_0) < 0 then (-(w32 v_0)) else (w32 v_0))), none, none, none, none, none, none, none]) dX12_putNumber_12 (Nat.le_of_ble_eq_true rfl) rfl rfl ?_
    obtain ⟨v_5, he_2, hk_3⟩ := bd_e H
    have J_80 : ∀ σ_11, v_5 = σ_11 → YY l E M_X12_putNumber 2 0 0 (pS (none) σ') 23 [some (vr 277), some (vi v_0), some (vl (if (w32 v_0) < 0 then (-(w32 v_0)) else (w32 v_0))), none, none, none, none, none, none, none] [] σ_11 0 0 := by
      intro σ_11 e
      have H := hk_3
      rw [e] at H
      refine z_lconst (M := M_X12_putNumber) (m := 1) dX12_putNumber_23 (by decide +kernel) ?_
      refine z_lstore (M := M_X12_putNumber) (lv' := [some (vr 277), some (vi v_0), some (vl (if (w32 v_0) < 0 then (-(w32 v_0)) else (w32 v_0))), none, some (vl 1), none, none, none, none, none]) dX12_putNumber_24 (Nat.le_of_ble_eq_true rfl) rfl rfl ?_
      obtain ⟨rl_16, hw_13, hk_14⟩ := bd_e H
      have J_79 : ∀ ten_25, rl_16 = ten_25 → YY l E M_X12_putNumber 2 0 0 (pS (none) σ') 53 [some (vr 277), some (vi v_0), some (vl (if (w32 v_0) < 0 then (-(w32 v_0)) else (w32 v_0))), none, some (vl ten_25), none, none, none, none, none] [] σ_11 0 0 := by
        intro ten_25 e
        have H := hk_14
        rw [e] at H
        obtain ⟨rl_31, hw_28, hk_29⟩ := bd_e H
        have J_78 : ∀ ten_42 σ_43, rl_31 = (ten_42, σ_43) → YY l E M_X12_putNumber 2 0 0 (pS (none) σ') 93 [some (vr 277), some (vi v_0), some (vl (if (w32 v_0) < 0 then (-(w32 v_0)) else (w32 v_0))), none, some (vl ten_42), none, none, none, none, none] [] σ_43 0 0 := by
          intro ten_42 σ_43 e
          have H := hk_29
          rw [e] at H
          refine z_lload_n (M := M_X12_putNumber) dX12_putNumber_93 rfl ?_
          refine z_aload_n (M := M_X12_putNumber) dX12_putNumber_94 rfl ?_
          refine z_getL (M := M_X12_putNumber) (ci := 15) (C := RX12) (T := TX12) (Nf := 135) (ty := tyX12) cl15 dX12_putNumber_95 ly_277 2 (by decide) t_2393 rfl rfl ?_
          obtain ⟨hd_44, H⟩ := ck_e H
          refine z_lrem (M := M_X12_putNumber) dX12_putNumber_98 hd_44 ?_
          obtain ⟨x_45, x_45_e, H⟩ := lt_e H
          refine z_st (congrArg (fun z => vl z :: []) x_45_e) ?_
          refine z_lstore (M := M_X12_putNumber) (lv' := [some (vr 277), some (vi v_0), some (vl (if (w32 v_0) < 0 then (-(w32 v_0)) else (w32 v_0))), none, some (vl ten_42), none, some (vl x_45), none, none, none]) dX12_putNumber_99 (Nat.le_of_ble_eq_true rfl) rfl rfl ?_
          obtain ⟨v_49, he_46, hk_47⟩ := bd_e H
          have J_77 : ∀ σ_55, v_49 = σ_55 → YY l E M_X12_putNumber 2 0 0 (pS (none) σ') 114 [some (vr 277), some (vi v_0), some (vl (if (w32 v_0) < 0 then (-(w32 v_0)) else (w32 v_0))), none, some (vl ten_42), none, some (vl x_45), none, none, none] [] σ_55 0 0 := by
            intro σ_55 e
            have H := hk_47
            rw [e] at H
            refine z_aload_n (M := M_X12_putNumber) dX12_putNumber_114 rfl ?_
            refine z_getL (M := M_X12_putNumber) (ci := 15) (C := RX12) (T := TX12) (Nf := 135) (ty := tyX12) cl15 dX12_putNumber_115 ly_277 2 (by decide) t_2393 rfl rfl ?_
            refine z_ldc2 (M := M_X12_putNumber) (n := 10) dX12_putNumber_118 t_2390 (by decide +kernel) ?_
            refine z_ldiv (M := M_X12_putNumber) dX12_putNumber_121 (by decide +kernel) ?_
            refine z_lstore (M := M_X12_putNumber) (lv' := [some (vr 277), some (vi v_0), some (vl (if (w32 v_0) < 0 then (-(w32 v_0)) else (w32 v_0))), none, some (vl ten_42), none, some (vl x_45), none, some (vl (q_ldv (σ_55 kR_unit 0) 10)), none]) dX12_putNumber_122 (Nat.le_of_ble_eq_true rfl) rfl rfl ?_
            obtain ⟨rl_62, hw_59, hk_60⟩ := bd_e H
            have J_76 : ∀ rest_73 u_74 σ_75, rl_62 = (rest_73, u_74, σ_75) → YY l E M_X12_putNumber 2 0 0 (pS (none) σ') 163 [some (vr 277), some (vi v_0), some (vl (if (w32 v_0) < 0 then (-(w32 v_0)) else (w32 v_0))), none, some (vl ten_42), none, some (vl rest_73), none, some (vl u_74), none] [] σ_75 0 0 := by
              intro rest_73 u_74 σ_75 e
              have H := hk_60
              rw [e] at H
              cases H
              exact z_vret (M := M_X12_putNumber) dX12_putNumber_163 rfl (Nat.le_of_ble_eq_true rfl) (Nat.le_of_ble_eq_true rfl) ⟨rfl, rfl⟩
            refine whl_go hw_59 (fun (rest_56, u_57, σ_58) => YY l E M_X12_putNumber 2 0 0 (pS (none) σ') 124 [some (vr 277), some (vi v_0), some (vl (if (w32 v_0) < 0 then (-(w32 v_0)) else (w32 v_0))), none, some (vl ten_42), none, some (vl rest_56), none, some (vl u_57), none] [] σ_58 0 0) ?_
            rintro ⟨rest_56, u_57, σ_58⟩ o_63 H K_64 K_65
            refine z_lload (M := M_X12_putNumber) dX12_putNumber_124 rfl ?_
            refine z_lconst (M := M_X12_putNumber) (m := 0) dX12_putNumber_126 (by decide +kernel) ?_
            refine z_lcmp (M := M_X12_putNumber) dX12_putNumber_127 ?_
            rcases if_e H with ⟨h_66, H⟩ | ⟨h_66, H⟩
            · refine z_lif_le_f (M := M_X12_putNumber) (tgt := 163) dX12_putNumber_128 (by decide) rfl (by decide +kernel) h_66 ?_
              refine z_aload_n (M := M_X12_putNumber) dX12_putNumber_131 rfl ?_
              refine z_ldc2 (M := M_X12_putNumber) (n := 48) dX12_putNumber_132 t_2931 (by decide +kernel) ?_
              refine z_lload (M := M_X12_putNumber) dX12_putNumber_135 rfl ?_
              refine z_lload (M := M_X12_putNumber) dX12_putNumber_137 rfl ?_
              obtain ⟨hd_67, H⟩ := ck_e H
              refine z_ldiv (M := M_X12_putNumber) dX12_putNumber_139 hd_67 ?_
              refine z_ladd (M := M_X12_putNumber) dX12_putNumber_140 ?_
              refine z_l2i (M := M_X12_putNumber) dX12_putNumber_141 ?_
              obtain ⟨σ_69, hc_68, H⟩ := bd_e H
              refine z_callV (M := M_X12_putNumber) (M' := M_X12_put) (as := [vi (48 + (q_ldv rest_56 u_57))]) (rest := []) rfl rfl dX12_putNumber_142 m_X12_put t_3045 t_3047 s_200 (c_X12_put hl  hc_68) rfl rfl ly_277 rfl (Nat.le_of_ble_eq_true rfl) (Nat.le_of_ble_eq_true rfl) (Nat.le_of_ble_eq_true rfl) (Nat.le_of_ble_eq_true rfl) ?_
              refine z_st (st' := []) rfl ?_
              refine z_lload (M := M_X12_putNumber) dX12_putNumber_145 rfl ?_
              refine z_lload (M := M_X12_putNumber) dX12_putNumber_147 rfl ?_
              obtain ⟨hd_70, H⟩ := ck_e H
              refine z_lrem (M := M_X12_putNumber) dX12_putNumber_149 hd_70 ?_
              refine z_lstore (M := M_X12_putNumber) (lv' := [some (vr 277), some (vi v_0), some (vl (if (w32 v_0) < 0 then (-(w32 v_0)) else (w32 v_0))), none, some (vl ten_42), none, some (vl (q_lrm rest_56 u_57)), none, some (vl u_57), none]) dX12_putNumber_150 (Nat.le_of_ble_eq_true rfl) rfl rfl ?_
              refine z_lload (M := M_X12_putNumber) dX12_putNumber_152 rfl ?_
              refine z_ldc2 (M := M_X12_putNumber) (n := 10) dX12_putNumber_154 t_2390 (by decide +kernel) ?_
              refine z_ldiv (M := M_X12_putNumber) dX12_putNumber_157 (by decide +kernel) ?_
              refine z_lstore (M := M_X12_putNumber) (lv' := [some (vr 277), some (vi v_0), some (vl (if (w32 v_0) < 0 then (-(w32 v_0)) else (w32 v_0))), none, some (vl ten_42), none, some (vl (q_lrm rest_56 u_57)), none, some (vl (q_ldv u_57 10)), none]) dX12_putNumber_158 (Nat.le_of_ble_eq_true rfl) rfl rfl ?_
              refine z_goto (M := M_X12_putNumber) (tgt := 124) dX12_putNumber_160 (by decide) ?_
              exact K_64 _ (Option.some.inj H).symm
            · refine z_lif_le_t (M := M_X12_putNumber) (tgt := 163) dX12_putNumber_128 (by decide) rfl (by decide +kernel) (Int.not_lt.mp h_66) ?_
              exact J_76 _ _ _ (K_65 _ (Option.some.inj H).symm).symm
          have H := he_46
          refine z_lload (M := M_X12_putNumber) dX12_putNumber_101 rfl ?_
          refine z_lconst (M := M_X12_putNumber) (m := 0) dX12_putNumber_103 (by decide +kernel) ?_
          refine z_lcmp (M := M_X12_putNumber) dX12_putNumber_104 ?_
          rcases if_e H with ⟨h_50, H⟩ | ⟨h_50, H⟩
          · refine z_lif_le_f (M := M_X12_putNumber) (tgt := 114) dX12_putNumber_105 (by decide) rfl (by decide +kernel) h_50 ?_
            refine z_aload_n (M := M_X12_putNumber) dX12_putNumber_108 rfl ?_
            refine z_bipush (M := M_X12_putNumber) dX12_putNumber_109 (by decide +kernel) ?_
            obtain ⟨σ_52, hc_51, H⟩ := bd_e H
            refine z_callV (M := M_X12_putNumber) (M' := M_X12_put) (as := [vi 46]) (rest := []) rfl rfl dX12_putNumber_111 m_X12_put t_3045 t_3047 s_200 (c_X12_put hl  hc_51) rfl rfl ly_277 rfl (Nat.le_of_ble_eq_true rfl) (Nat.le_of_ble_eq_true rfl) (Nat.le_of_ble_eq_true rfl) (Nat.le_of_ble_eq_true rfl) ?_
            refine z_st (st' := []) rfl ?_
            exact J_77 _ (Option.some.inj H).symm
          · refine z_lif_le_t (M := M_X12_putNumber) (tgt := 114) dX12_putNumber_105 (by decide) rfl (by decide +kernel) (Int.not_lt.mp h_50) ?_
            exact J_77 _ (Option.some.inj H).symm
        refine whl_go hw_28 (fun (ten_26, σ_27) => YY l E M_X12_putNumber 2 0 0 (pS (none) σ') 53 [some (vr 277), some (vi v_0), some (vl (if (w32 v_0) < 0 then (-(w32 v_0)) else (w32 v_0))), none, some (vl ten_26), none, none, none, none, none] [] σ_27 0 0) ?_
        rintro ⟨ten_26, σ_27⟩ o_32 H K_33 K_34
        refine z_lload (M := M_X12_putNumber) dX12_putNumber_53 rfl ?_
        refine z_lconst (M := M_X12_putNumber) (m := 0) dX12_putNumber_55 (by decide +kernel) ?_
        refine z_lcmp (M := M_X12_putNumber) dX12_putNumber_56 ?_
        rcases if_e H with ⟨h_35, H⟩ | ⟨h_35, H⟩
        · refine z_lif_le_f (M := M_X12_putNumber) (tgt := 93) dX12_putNumber_57 (by decide) rfl (by decide +kernel) h_35 ?_
          refine z_aload_n (M := M_X12_putNumber) dX12_putNumber_60 rfl ?_
          refine z_ldc2 (M := M_X12_putNumber) (n := 48) dX12_putNumber_61 t_2931 (by decide +kernel) ?_
          refine z_lload_n (M := M_X12_putNumber) dX12_putNumber_64 rfl ?_
          refine z_aload_n (M := M_X12_putNumber) dX12_putNumber_65 rfl ?_
          refine z_getL (M := M_X12_putNumber) (ci := 15) (C := RX12) (T := TX12) (Nf := 135) (ty := tyX12) cl15 dX12_putNumber_66 ly_277 2 (by decide) t_2393 rfl rfl ?_
          obtain ⟨hd_36, H⟩ := ck_e H
          refine z_ldiv (M := M_X12_putNumber) dX12_putNumber_69 hd_36 ?_
          refine z_lload (M := M_X12_putNumber) dX12_putNumber_70 rfl ?_
          obtain ⟨hd_37, H⟩ := ck_e H
          refine z_ldiv (M := M_X12_putNumber) dX12_putNumber_72 hd_37 ?_
          refine z_ldc2 (M := M_X12_putNumber) (n := 10) dX12_putNumber_73 t_2390 (by decide +kernel) ?_
          refine z_lrem (M := M_X12_putNumber) dX12_putNumber_76 (by decide +kernel) ?_
          refine z_ladd (M := M_X12_putNumber) dX12_putNumber_77 ?_
          refine z_l2i (M := M_X12_putNumber) dX12_putNumber_78 ?_
          obtain ⟨σ_39, hc_38, H⟩ := bd_e H
          refine z_callV (M := M_X12_putNumber) (M' := M_X12_put) (as := [vi (48 + (q_lrm (q_ldv (q_ldv (if (w32 v_0) < 0 then (-(w32 v_0)) else (w32 v_0)) (σ_27 kR_unit 0)) ten_26) 10))]) (rest := []) rfl rfl dX12_putNumber_79 m_X12_put t_3045 t_3047 s_200 (c_X12_put hl  hc_38) rfl rfl ly_277 rfl (Nat.le_of_ble_eq_true rfl) (Nat.le_of_ble_eq_true rfl) (Nat.le_of_ble_eq_true rfl) (Nat.le_of_ble_eq_true rfl) ?_
          refine z_st (st' := []) rfl ?_
          refine z_lload (M := M_X12_putNumber) dX12_putNumber_82 rfl ?_
          refine z_ldc2 (M := M_X12_putNumber) (n := 10) dX12_putNumber_84 t_2390 (by decide +kernel) ?_
          refine z_ldiv (M := M_X12_putNumber) dX12_putNumber_87 (by decide +kernel) ?_
          refine z_lstore (M := M_X12_putNumber) (lv' := [some (vr 277), some (vi v_0), some (vl (if (w32 v_0) < 0 then (-(w32 v_0)) else (w32 v_0))), none, some (vl (q_ldv ten_26 10)), none, none, none, none, none]) dX12_putNumber_88 (Nat.le_of_ble_eq_true rfl) rfl rfl ?_
          refine z_goto (M := M_X12_putNumber) (tgt := 53) dX12_putNumber_90 (by decide) ?_
          exact K_33 _ (Option.some.inj H).symm
        · refine z_lif_le_t (M := M_X12_putNumber) (tgt := 93) dX12_putNumber_57 (by decide) rfl (by decide +kernel) (Int.not_lt.mp h_35) ?_
          exact J_78 _ _ (K_34 _ (Option.some.inj H).symm).symm
      refine whl_go hw_13 (fun ten_12 => YY l E M_X12_putNumber 2 0 0 (pS (none) σ') 26 [some (vr 277), some (vi v_0), some (vl (if (w32 v_0) < 0 then (-(w32 v_0)) else (w32 v_0))), none, some (vl ten_12), none, none, none, none, none] [] σ_11 0 0) ?_
      rintro ten_12 o_17 H K_18 K_19
      refine z_lload_n (M := M_X12_putNumber) dX12_putNumber_26 rfl ?_
      refine z_aload_n (M := M_X12_putNumber) dX12_putNumber_27 rfl ?_
      refine z_getL (M := M_X12_putNumber) (ci := 15) (C := RX12) (T := TX12) (Nf := 135) (ty := tyX12) cl15 dX12_putNumber_28 ly_277 2 (by decide) t_2393 rfl rfl ?_
      obtain ⟨hd_20, H⟩ := ck_e H
      refine z_ldiv (M := M_X12_putNumber) dX12_putNumber_31 hd_20 ?_
      refine z_lload (M := M_X12_putNumber) dX12_putNumber_32 rfl ?_
      obtain ⟨hd_21, H⟩ := ck_e H
      refine z_ldiv (M := M_X12_putNumber) dX12_putNumber_34 hd_21 ?_
      refine z_ldc2 (M := M_X12_putNumber) (n := 9) dX12_putNumber_35 t_3061 (by decide +kernel) ?_
      refine z_lcmp (M := M_X12_putNumber) dX12_putNumber_38 ?_
      rcases if_e H with ⟨h_22, H⟩ | ⟨h_22, H⟩
      · refine z_lif_le_f (M := M_X12_putNumber) (tgt := 53) dX12_putNumber_39 (by decide) rfl (by decide +kernel) h_22 ?_
        refine z_lload (M := M_X12_putNumber) dX12_putNumber_42 rfl ?_
        refine z_ldc2 (M := M_X12_putNumber) (n := 10) dX12_putNumber_44 t_2390 (by decide +kernel) ?_
        refine z_lmul (M := M_X12_putNumber) dX12_putNumber_47 ?_
        refine z_lstore (M := M_X12_putNumber) (lv' := [some (vr 277), some (vi v_0), some (vl (if (w32 v_0) < 0 then (-(w32 v_0)) else (w32 v_0))), none, some (vl (ten_12 * 10)), none, none, none, none, none]) dX12_putNumber_48 (Nat.le_of_ble_eq_true rfl) rfl rfl ?_
        refine z_goto (M := M_X12_putNumber) (tgt := 26) dX12_putNumber_50 (by decide) ?_
        exact K_18 _ (Option.some.inj H).symm
      · refine z_lif_le_t (M := M_X12_putNumber) (tgt := 53) dX12_putNumber_39 (by decide) rfl (by decide +kernel) (Int.not_lt.mp h_22) ?_
        exact J_79 _ (K_19 _ (Option.some.inj H).symm).symm
    have H := he_2
    refine z_iload_n (M := M_X12_putNumber) dX12_putNumber_13 rfl ?_
    rcases if_e H with ⟨h_6, H⟩ | ⟨h_6, H⟩
    · refine z_if_ge_f (M := M_X12_putNumber) (tgt := 23) dX12_putNumber_14 (by decide) rfl h_6 ?_
      refine z_aload_n (M := M_X12_putNumber) dX12_putNumber_17 rfl ?_
      refine z_bipush (M := M_X12_putNumber) dX12_putNumber_18 (by decide +kernel) ?_
      obtain ⟨σ_8, hc_7, H⟩ := bd_e H
      refine z_callV (M := M_X12_putNumber) (M' := M_X12_put) (as := [vi 45]) (rest := []) rfl rfl dX12_putNumber_20 m_X12_put t_3045 t_3047 s_200 (c_X12_put hl  hc_7) rfl rfl ly_277 rfl (Nat.le_of_ble_eq_true rfl) (Nat.le_of_ble_eq_true rfl) (Nat.le_of_ble_eq_true rfl) (Nat.le_of_ble_eq_true rfl) ?_
      refine z_st (st' := []) rfl ?_
      exact J_80 _ (Option.some.inj H).symm
    · refine z_if_ge_t (M := M_X12_putNumber) (tgt := 23) dX12_putNumber_14 (by decide) rfl (Int.not_lt.mp h_6) ?_
      exact J_80 _ (Option.some.inj H).symm
  refine z_iload_n (M := M_X12_putNumber) dX12_putNumber_0 rfl ?_
  by_cases h_81 : (w32 v_0) < 0
  · refine z_if_ge_f (M := M_X12_putNumber) (tgt := 10) dX12_putNumber_1 (by decide) rfl h_81 ?_
    refine z_iload_n (M := M_X12_putNumber) dX12_putNumber_4 rfl ?_
    refine z_i2l (M := M_X12_putNumber) dX12_putNumber_5 ?_
    refine z_lneg (M := M_X12_putNumber) dX12_putNumber_6 ?_
    refine z_goto (M := M_X12_putNumber) (tgt := 12) dX12_putNumber_7 (by decide) ?_
    exact z_st (by rw [if_pos (c := (w32 v_0) < 0) h_81]) J_1
  · refine z_if_ge_t (M := M_X12_putNumber) (tgt := 10) dX12_putNumber_1 (by decide) rfl (Int.not_lt.mp h_81) ?_
    refine z_iload_n (M := M_X12_putNumber) dX12_putNumber_10 rfl ?_
    refine z_i2l (M := M_X12_putNumber) dX12_putNumber_11 ?_
    exact z_st (by rw [if_neg (c := (w32 v_0) < 0) h_81]) J_1
theorem c_X12_putRow (hl : l.stackTraces = false) {σ : SG} {n_0 : Int} {σ' : SG}  (H : fR_putRow σ n_0 = some σ') : en_S l E M_X12_putRow 3 0 0 [vr 277, vi n_0] σ (pS (none) σ') := by
  unfold fR_putRow at H
  refine z_mk (lv := [some (vr 277), some (vi n_0), none]) m_X12_putRow rfl hl (Nat.le_of_ble_eq_true rfl) rfl ?_
  refine z_iconst (M := M_X12_putRow) dX12_putRow_0 ?_
  refine z_istore_n (M := M_X12_putRow) (lv' := [some (vr 277), some (vi n_0), some (vi 0)]) dX12_putRow_1 (Nat.le_of_ble_eq_true rfl) rfl rfl ?_
  obtain ⟨rl_6, hw_3, hk_4⟩ := bd_e H
  have J_48 : ∀ k_46 σ_47, rl_6 = (k_46, σ_47) → YY l E M_X12_putRow 3 0 0 (pS (none) σ') 75 [some (vr 277), some (vi n_0), some (vi k_46)] [] σ_47 0 0 := by
    intro k_46 σ_47 e
    have H := hk_4
    rw [e] at H
    cases H
    exact z_vret (M := M_X12_putRow) dX12_putRow_75 rfl (Nat.le_of_ble_eq_true rfl) (Nat.le_of_ble_eq_true rfl) ⟨rfl, rfl⟩
  refine whl_go hw_3 (fun (k_1, σ_2) => YY l E M_X12_putRow 3 0 0 (pS (none) σ') 2 [some (vr 277), some (vi n_0), some (vi k_1)] [] σ_2 0 0) ?_
  rintro ⟨k_1, σ_2⟩ o_7 H K_8 K_9
  refine z_iload_n (M := M_X12_putRow) dX12_putRow_2 rfl ?_
  refine z_iload_n (M := M_X12_putRow) dX12_putRow_3 rfl ?_
  rcases if_e H with ⟨h_10, H⟩ | ⟨h_10, H⟩
  · refine z_icmp_ge_f (M := M_X12_putRow) (tgt := 75) dX12_putRow_4 (by decide) rfl rfl h_10 ?_
    obtain ⟨v_14, he_11, hk_12⟩ := bd_e H
    have J_44 : ∀ σ_20, v_14 = σ_20 → YY l E M_X12_putRow 3 0 0 (pS (none) σ') 17 [some (vr 277), some (vi n_0), some (vi k_1)] [] σ_20 0 0 := by
      intro σ_20 e
      have H := hk_12
      rw [e] at H
      obtain ⟨v_24, he_21, hk_22⟩ := bd_e H
      have J_43 : ∀ σ_30, v_24 = σ_30 → YY l E M_X12_putRow 3 0 0 (pS (none) σ') 27 [some (vr 277), some (vi n_0), some (vi k_1)] [] σ_30 0 0 := by
        intro σ_30 e
        have H := hk_22
        rw [e] at H
        refine z_aload_n (M := M_X12_putRow) dX12_putRow_27 rfl ?_
        refine z_aload_n (M := M_X12_putRow) dX12_putRow_28 rfl ?_
        refine z_getR (M := M_X12_putRow) (ci := 15) (C := RX12) (T := TX12) (Nf := 135) (ty := tyX12) cl15 dX12_putRow_29 ly_277 12 (by decide) t_2403 rfl ?_
        refine z_aload_n (M := M_X12_putRow) dX12_putRow_32 rfl ?_
        refine z_getI (M := M_X12_putRow) (ci := 15) (C := RX12) (T := TX12) (Nf := 135) (ty := tyX12) cl15 dX12_putRow_33 ly_277 31 (by decide) t_2422 rfl rfl ?_
        obtain ⟨x_31, x_31_e, hi_32, H⟩ := rd_e H
        refine z_iald (M := M_X12_putRow) dX12_putRow_36 ly_283 rfl rfl rfl hi_32 x_31_e ?_
        obtain ⟨σ_34, hc_33, H⟩ := bd_e H
        refine z_callV (M := M_X12_putRow) (M' := M_X12_putNumber) (as := [vi x_31]) (rest := []) rfl rfl dX12_putRow_37 m_X12_putNumber t_3057 t_3059 s_203 (c_X12_putNumber hl  hc_33) rfl rfl ly_277 rfl (Nat.le_of_ble_eq_true rfl) (Nat.le_of_ble_eq_true rfl) (Nat.le_of_ble_eq_true rfl) (Nat.le_of_ble_eq_true rfl) ?_
        refine z_st (st' := []) rfl ?_
        refine z_aload_n (M := M_X12_putRow) dX12_putRow_40 rfl ?_
        refine z_bipush (M := M_X12_putRow) dX12_putRow_41 (by decide +kernel) ?_
        obtain ⟨σ_36, hc_35, H⟩ := bd_e H
        refine z_callV (M := M_X12_putRow) (M' := M_X12_put) (as := [vi 32]) (rest := []) rfl rfl dX12_putRow_43 m_X12_put t_3045 t_3047 s_200 (c_X12_put hl  hc_35) rfl rfl ly_277 rfl (Nat.le_of_ble_eq_true rfl) (Nat.le_of_ble_eq_true rfl) (Nat.le_of_ble_eq_true rfl) (Nat.le_of_ble_eq_true rfl) ?_
        refine z_st (st' := []) rfl ?_
        refine z_aload_n (M := M_X12_putRow) dX12_putRow_46 rfl ?_
        refine z_aload_n (M := M_X12_putRow) dX12_putRow_47 rfl ?_
        refine z_getR (M := M_X12_putRow) (ci := 15) (C := RX12) (T := TX12) (Nf := 135) (ty := tyX12) cl15 dX12_putRow_48 ly_277 13 (by decide) t_2404 rfl ?_
        refine z_aload_n (M := M_X12_putRow) dX12_putRow_51 rfl ?_
        refine z_getI (M := M_X12_putRow) (ci := 15) (C := RX12) (T := TX12) (Nf := 135) (ty := tyX12) cl15 dX12_putRow_52 ly_277 31 (by decide) t_2422 rfl rfl ?_
        obtain ⟨x_37, x_37_e, hi_38, H⟩ := rd_e H
        refine z_iald (M := M_X12_putRow) dX12_putRow_55 ly_284 rfl rfl rfl hi_38 x_37_e ?_
        obtain ⟨σ_40, hc_39, H⟩ := bd_e H
        refine z_callV (M := M_X12_putRow) (M' := M_X12_putNumber) (as := [vi x_37]) (rest := []) rfl rfl dX12_putRow_56 m_X12_putNumber t_3057 t_3059 s_203 (c_X12_putNumber hl  hc_39) rfl rfl ly_277 rfl (Nat.le_of_ble_eq_true rfl) (Nat.le_of_ble_eq_true rfl) (Nat.le_of_ble_eq_true rfl) (Nat.le_of_ble_eq_true rfl) ?_
        refine z_st (st' := []) rfl ?_
        refine z_aload_n (M := M_X12_putRow) dX12_putRow_59 rfl ?_
        refine z_dup (M := M_X12_putRow) dX12_putRow_60 rfl ?_
        refine z_getI (M := M_X12_putRow) (ci := 15) (C := RX12) (T := TX12) (Nf := 135) (ty := tyX12) cl15 dX12_putRow_61 ly_277 31 (by decide) t_2422 rfl rfl ?_
        refine z_iconst (M := M_X12_putRow) dX12_putRow_64 ?_
        refine z_iadd (M := M_X12_putRow) dX12_putRow_65 ?_
        obtain ⟨σ_41, σ_41_e, H⟩ := wf_e H
        refine z_putI (M := M_X12_putRow) (ci := 15) (C := RX12) (T := TX12) (Nf := 135) (ty := tyX12) cl15 dX12_putRow_66 ly_277 31 (by decide) t_2422 rfl rfl rfl rfl σ_41_e ?_
        refine z_iinc (M := M_X12_putRow) (lv' := [some (vr 277), some (vi n_0), some (vi (k_1 + 1))]) dX12_putRow_69 rfl (Nat.le_of_ble_eq_true rfl) rfl rfl ?_
        refine z_goto (M := M_X12_putRow) (tgt := 2) dX12_putRow_72 (by decide) ?_
        exact K_8 _ (Option.some.inj H).symm
      have H := he_21
      refine z_iload_n (M := M_X12_putRow) dX12_putRow_17 rfl ?_
      rcases if_e H with ⟨h_25, H⟩ | ⟨h_25, H⟩
      · refine z_if_le_f (M := M_X12_putRow) (tgt := 27) dX12_putRow_18 (by decide) rfl h_25 ?_
        refine z_aload_n (M := M_X12_putRow) dX12_putRow_21 rfl ?_
        refine z_bipush (M := M_X12_putRow) dX12_putRow_22 (by decide +kernel) ?_
        obtain ⟨σ_27, hc_26, H⟩ := bd_e H
        refine z_callV (M := M_X12_putRow) (M' := M_X12_put) (as := [vi 32]) (rest := []) rfl rfl dX12_putRow_24 m_X12_put t_3045 t_3047 s_200 (c_X12_put hl  hc_26) rfl rfl ly_277 rfl (Nat.le_of_ble_eq_true rfl) (Nat.le_of_ble_eq_true rfl) (Nat.le_of_ble_eq_true rfl) (Nat.le_of_ble_eq_true rfl) ?_
        refine z_st (st' := []) rfl ?_
        exact J_43 _ (Option.some.inj H).symm
      · refine z_if_le_t (M := M_X12_putRow) (tgt := 27) dX12_putRow_18 (by decide) rfl (Int.not_lt.mp h_25) ?_
        exact J_43 _ (Option.some.inj H).symm
    have H := he_11
    refine z_iload_n (M := M_X12_putRow) dX12_putRow_7 rfl ?_
    rcases if_e H with ⟨h_15, H⟩ | ⟨h_15, H⟩
    · refine z_if_le_f (M := M_X12_putRow) (tgt := 17) dX12_putRow_8 (by decide) rfl h_15 ?_
      refine z_aload_n (M := M_X12_putRow) dX12_putRow_11 rfl ?_
      refine z_bipush (M := M_X12_putRow) dX12_putRow_12 (by decide +kernel) ?_
      obtain ⟨σ_17, hc_16, H⟩ := bd_e H
      refine z_callV (M := M_X12_putRow) (M' := M_X12_put) (as := [vi 44]) (rest := []) rfl rfl dX12_putRow_14 m_X12_put t_3045 t_3047 s_200 (c_X12_put hl  hc_16) rfl rfl ly_277 rfl (Nat.le_of_ble_eq_true rfl) (Nat.le_of_ble_eq_true rfl) (Nat.le_of_ble_eq_true rfl) (Nat.le_of_ble_eq_true rfl) ?_
      refine z_st (st' := []) rfl ?_
      exact J_44 _ (Option.some.inj H).symm
    · refine z_if_le_t (M := M_X12_putRow) (tgt := 17) dX12_putRow_8 (by decide) rfl (Int.not_lt.mp h_15) ?_
      exact J_44 _ (Option.some.inj H).symm
  · refine z_icmp_ge_t (M := M_X12_putRow) (tgt := 75) dX12_putRow_4 (by decide) rfl rfl (Int.not_lt.mp h_10) ?_
    exact J_48 _ _ (K_9 _ (Option.some.inj H).symm).symm
theorem c_X12_putRings (hl : l.stackTraces = false) {σ : SG} {n_0 : Int} {σ' : SG}  (H : fR_putRings σ n_0 = some σ') : en_S l E M_X12_putRings 4 0 0 [vr 277, vi n_0] σ (pS (none) σ') := by
  unfold fR_putRings at H
  refine z_mk (lv := [some (vr 277), some (vi n_0), none]) m_X12_putRings rfl hl (Nat.le_of_ble_eq_true rfl) rfl ?_
  refine z_iconst (M := M_X12_putRings) dX12_putRings_0 ?_
  refine z_istore_n (M := M_X12_putRings) (lv' := [some (vr 277), some (vi n_0), some (vi 0)]) dX12_putRings_1 (Nat.le_of_ble_eq_true rfl) rfl rfl ?_
  obtain ⟨rl_6, hw_3, hk_4⟩ := bd_e H
  have J_46 : ∀ k_44 σ_45, rl_6 = (k_44, σ_45) → YY l E M_X12_putRings 4 0 0 (pS (none) σ') 53 [some (vr 277), some (vi n_0), some (vi k_44)] [] σ_45 0 0 := by
    intro k_44 σ_45 e
    have H := hk_4
    rw [e] at H
    cases H
    exact z_vret (M := M_X12_putRings) dX12_putRings_53 rfl (Nat.le_of_ble_eq_true rfl) (Nat.le_of_ble_eq_true rfl) ⟨rfl, rfl⟩
  refine whl_go hw_3 (fun (k_1, σ_2) => YY l E M_X12_putRings 4 0 0 (pS (none) σ') 2 [some (vr 277), some (vi n_0), some (vi k_1)] [] σ_2 0 0) ?_
  rintro ⟨k_1, σ_2⟩ o_7 H K_8 K_9
  refine z_iload_n (M := M_X12_putRings) dX12_putRings_2 rfl ?_
  refine z_iload_n (M := M_X12_putRings) dX12_putRings_3 rfl ?_
  rcases if_e H with ⟨h_10, H⟩ | ⟨h_10, H⟩
  · refine z_icmp_ge_f (M := M_X12_putRings) (tgt := 53) dX12_putRings_4 (by decide) rfl rfl h_10 ?_
    obtain ⟨v_14, he_11, hk_12⟩ := bd_e H
    have J_42 : ∀ σ_20, v_14 = σ_20 → YY l E M_X12_putRings 4 0 0 (pS (none) σ') 17 [some (vr 277), some (vi n_0), some (vi k_1)] [] σ_20 0 0 := by
      intro σ_20 e
      have H := hk_12
      rw [e] at H
      obtain ⟨v_24, he_21, hk_22⟩ := bd_e H
      have J_41 : ∀ σ_30, v_24 = σ_30 → YY l E M_X12_putRings 4 0 0 (pS (none) σ') 27 [some (vr 277), some (vi n_0), some (vi k_1)] [] σ_30 0 0 := by
        intro σ_30 e
        have H := hk_22
        rw [e] at H
        refine z_aload_n (M := M_X12_putRings) dX12_putRings_27 rfl ?_
        refine z_bipush (M := M_X12_putRings) dX12_putRings_28 (by decide +kernel) ?_
        obtain ⟨σ_32, hc_31, H⟩ := bd_e H
        refine z_callV (M := M_X12_putRings) (M' := M_X12_put) (as := [vi 40]) (rest := []) rfl rfl dX12_putRings_30 m_X12_put t_3045 t_3047 s_200 (c_X12_put hl  hc_31) rfl rfl ly_277 rfl (Nat.le_of_ble_eq_true rfl) (Nat.le_of_ble_eq_true rfl) (Nat.le_of_ble_eq_true rfl) (Nat.le_of_ble_eq_true rfl) ?_
        refine z_st (st' := []) rfl ?_
        refine z_aload_n (M := M_X12_putRings) dX12_putRings_33 rfl ?_
        refine z_aload_n (M := M_X12_putRings) dX12_putRings_34 rfl ?_
        obtain ⟨⟨x_35, σ_34⟩, hc_33, H⟩ := bd_e H
        refine z_callV (M := M_X12_putRings) (M' := M_X12_next) (as := []) (rest := [vr 277]) rfl rfl dX12_putRings_35 m_X12_next t_3037 t_3039 s_198 (c_X12_next hl  hc_33) rfl rfl ly_277 rfl (Nat.le_of_ble_eq_true rfl) (Nat.le_of_ble_eq_true rfl) (Nat.le_of_ble_eq_true rfl) (Nat.le_of_ble_eq_true rfl) ?_
        refine z_st (st' := [vi x_35, vr 277]) rfl ?_
        obtain ⟨σ_37, hc_36, H⟩ := bd_e H
        refine z_callV (M := M_X12_putRings) (M' := M_X12_putRow) (as := [vi x_35]) (rest := []) rfl rfl dX12_putRings_38 m_X12_putRow t_3053 t_3055 s_202 (c_X12_putRow hl  hc_36) rfl rfl ly_277 rfl (Nat.le_of_ble_eq_true rfl) (Nat.le_of_ble_eq_true rfl) (Nat.le_of_ble_eq_true rfl) (Nat.le_of_ble_eq_true rfl) ?_
        refine z_st (st' := []) rfl ?_
        refine z_aload_n (M := M_X12_putRings) dX12_putRings_41 rfl ?_
        refine z_bipush (M := M_X12_putRings) dX12_putRings_42 (by decide +kernel) ?_
        obtain ⟨σ_39, hc_38, H⟩ := bd_e H
        refine z_callV (M := M_X12_putRings) (M' := M_X12_put) (as := [vi 41]) (rest := []) rfl rfl dX12_putRings_44 m_X12_put t_3045 t_3047 s_200 (c_X12_put hl  hc_38) rfl rfl ly_277 rfl (Nat.le_of_ble_eq_true rfl) (Nat.le_of_ble_eq_true rfl) (Nat.le_of_ble_eq_true rfl) (Nat.le_of_ble_eq_true rfl) ?_
        refine z_st (st' := []) rfl ?_
        refine z_iinc (M := M_X12_putRings) (lv' := [some (vr 277), some (vi n_0), some (vi (k_1 + 1))]) dX12_putRings_47 rfl (Nat.le_of_ble_eq_true rfl) rfl rfl ?_
        refine z_goto (M := M_X12_putRings) (tgt := 2) dX12_putRings_50 (by decide) ?_
        exact K_8 _ (Option.some.inj H).symm
      have H := he_21
      refine z_iload_n (M := M_X12_putRings) dX12_putRings_17 rfl ?_
      rcases if_e H with ⟨h_25, H⟩ | ⟨h_25, H⟩
      · refine z_if_le_f (M := M_X12_putRings) (tgt := 27) dX12_putRings_18 (by decide) rfl h_25 ?_
        refine z_aload_n (M := M_X12_putRings) dX12_putRings_21 rfl ?_
        refine z_bipush (M := M_X12_putRings) dX12_putRings_22 (by decide +kernel) ?_
        obtain ⟨σ_27, hc_26, H⟩ := bd_e H
        refine z_callV (M := M_X12_putRings) (M' := M_X12_put) (as := [vi 32]) (rest := []) rfl rfl dX12_putRings_24 m_X12_put t_3045 t_3047 s_200 (c_X12_put hl  hc_26) rfl rfl ly_277 rfl (Nat.le_of_ble_eq_true rfl) (Nat.le_of_ble_eq_true rfl) (Nat.le_of_ble_eq_true rfl) (Nat.le_of_ble_eq_true rfl) ?_
        refine z_st (st' := []) rfl ?_
        exact J_41 _ (Option.some.inj H).symm
      · refine z_if_le_t (M := M_X12_putRings) (tgt := 27) dX12_putRings_18 (by decide) rfl (Int.not_lt.mp h_25) ?_
        exact J_41 _ (Option.some.inj H).symm
    have H := he_11
    refine z_iload_n (M := M_X12_putRings) dX12_putRings_7 rfl ?_
    rcases if_e H with ⟨h_15, H⟩ | ⟨h_15, H⟩
    · refine z_if_le_f (M := M_X12_putRings) (tgt := 17) dX12_putRings_8 (by decide) rfl h_15 ?_
      refine z_aload_n (M := M_X12_putRings) dX12_putRings_11 rfl ?_
      refine z_bipush (M := M_X12_putRings) dX12_putRings_12 (by decide +kernel) ?_
      obtain ⟨σ_17, hc_16, H⟩ := bd_e H
      refine z_callV (M := M_X12_putRings) (M' := M_X12_put) (as := [vi 44]) (rest := []) rfl rfl dX12_putRings_14 m_X12_put t_3045 t_3047 s_200 (c_X12_put hl  hc_16) rfl rfl ly_277 rfl (Nat.le_of_ble_eq_true rfl) (Nat.le_of_ble_eq_true rfl) (Nat.le_of_ble_eq_true rfl) (Nat.le_of_ble_eq_true rfl) ?_
      refine z_st (st' := []) rfl ?_
      exact J_42 _ (Option.some.inj H).symm
    · refine z_if_le_t (M := M_X12_putRings) (tgt := 17) dX12_putRings_8 (by decide) rfl (Int.not_lt.mp h_15) ?_
      exact J_42 _ (Option.some.inj H).symm
  · refine z_icmp_ge_t (M := M_X12_putRings) (tgt := 53) dX12_putRings_4 (by decide) rfl rfl (Int.not_lt.mp h_10) ?_
    exact J_46 _ _ (K_9 _ (Option.some.inj H).symm).symm
theorem c_X12_putBody (hl : l.stackTraces = false) {σ : SG} {kind_0 : Int} {n_0 : Int} {σ' : SG}  (H : fR_putBody σ kind_0 n_0 = some σ') : en_S l E M_X12_putBody 7 0 0 [vr 277, vi kind_0, vi n_0] σ (pS (none) σ') := by
  unfold fR_putBody at H
  refine z_mk (lv := [some (vr 277), some (vi kind_0), some (vi n_0)]) m_X12_putBody rfl hl (Nat.le_of_ble_eq_true rfl) rfl ?_
  refine z_iload_n (M := M_X12_putBody) dX12_putBody_0 rfl ?_
  rcases if_e H with ⟨h_1, H⟩ | ⟨h_1, H⟩
  · refine z_if_ne_f (M := M_X12_putBody) (tgt := 11) dX12_putBody_1 (by decide) rfl h_1 ?_
    refine z_aload_n (M := M_X12_putBody) dX12_putBody_4 rfl ?_
    refine z_bipush (M := M_X12_putBody) dX12_putBody_5 (by decide +kernel) ?_
    obtain ⟨σ_3, hc_2, H⟩ := bd_e H
    refine z_callV (M := M_X12_putBody) (M' := M_X12_putWord) (as := [vi 8]) (rest := []) rfl rfl dX12_putBody_7 m_X12_putWord t_3041 t_3043 s_199 (c_X12_putWord hl  hc_2) rfl rfl ly_277 rfl (Nat.le_of_ble_eq_true rfl) (Nat.le_of_ble_eq_true rfl) (Nat.le_of_ble_eq_true rfl) (Nat.le_of_ble_eq_true rfl) ?_
    refine z_st (st' := []) rfl ?_
    cases H
    exact z_vret (M := M_X12_putBody) dX12_putBody_10 rfl (Nat.le_of_ble_eq_true rfl) (Nat.le_of_ble_eq_true rfl) ⟨rfl, rfl⟩
  · refine z_if_ne_t (M := M_X12_putBody) (tgt := 11) dX12_putBody_1 (by decide) rfl h_1 ?_
    refine z_aload_n (M := M_X12_putBody) dX12_putBody_11 rfl ?_
    refine z_bipush (M := M_X12_putBody) dX12_putBody_12 (by decide +kernel) ?_
    obtain ⟨σ_5, hc_4, H⟩ := bd_e H
    refine z_callV (M := M_X12_putBody) (M' := M_X12_put) (as := [vi 40]) (rest := []) rfl rfl dX12_putBody_14 m_X12_put t_3045 t_3047 s_200 (c_X12_put hl  hc_4) rfl rfl ly_277 rfl (Nat.le_of_ble_eq_true rfl) (Nat.le_of_ble_eq_true rfl) (Nat.le_of_ble_eq_true rfl) (Nat.le_of_ble_eq_true rfl) ?_
    refine z_st (st' := []) rfl ?_
    obtain ⟨v_9, he_6, hk_7⟩ := bd_e H
    have J_20 : ∀ σ_17, v_9 = σ_17 → YY l E M_X12_putBody 7 0 0 (pS (none) σ') 35 [some (vr 277), some (vi kind_0), some (vi n_0)] [] σ_17 0 0 := by
      intro σ_17 e
      have H := hk_7
      rw [e] at H
      refine z_aload_n (M := M_X12_putBody) dX12_putBody_35 rfl ?_
      refine z_bipush (M := M_X12_putBody) dX12_putBody_36 (by decide +kernel) ?_
      obtain ⟨σ_19, hc_18, H⟩ := bd_e H
      refine z_callV (M := M_X12_putBody) (M' := M_X12_put) (as := [vi 41]) (rest := []) rfl rfl dX12_putBody_38 m_X12_put t_3045 t_3047 s_200 (c_X12_put hl  hc_18) rfl rfl ly_277 rfl (Nat.le_of_ble_eq_true rfl) (Nat.le_of_ble_eq_true rfl) (Nat.le_of_ble_eq_true rfl) (Nat.le_of_ble_eq_true rfl) ?_
      refine z_st (st' := []) rfl ?_
      cases H
      exact z_vret (M := M_X12_putBody) dX12_putBody_41 rfl (Nat.le_of_ble_eq_true rfl) (Nat.le_of_ble_eq_true rfl) ⟨rfl, rfl⟩
    have H := he_6
    refine z_iload_n (M := M_X12_putBody) dX12_putBody_17 rfl ?_
    refine z_iconst (M := M_X12_putBody) dX12_putBody_18 ?_
    rcases if_e H with ⟨h_10, H⟩ | ⟨h_10, H⟩
    · refine z_icmp_ge_f (M := M_X12_putBody) (tgt := 30) dX12_putBody_19 (by decide) rfl (by decide +kernel) h_10 ?_
      refine z_aload_n (M := M_X12_putBody) dX12_putBody_22 rfl ?_
      refine z_iload_n (M := M_X12_putBody) dX12_putBody_23 rfl ?_
      obtain ⟨σ_12, hc_11, H⟩ := bd_e H
      refine z_callV (M := M_X12_putBody) (M' := M_X12_putRow) (as := [vi n_0]) (rest := []) rfl rfl dX12_putBody_24 m_X12_putRow t_3053 t_3055 s_202 (c_X12_putRow hl  hc_11) rfl rfl ly_277 rfl (Nat.le_of_ble_eq_true rfl) (Nat.le_of_ble_eq_true rfl) (Nat.le_of_ble_eq_true rfl) (Nat.le_of_ble_eq_true rfl) ?_
      refine z_st (st' := []) rfl ?_
      refine z_goto (M := M_X12_putBody) (tgt := 35) dX12_putBody_27 (by decide) ?_
      exact J_20 _ (Option.some.inj H).symm
    · refine z_icmp_ge_t (M := M_X12_putBody) (tgt := 30) dX12_putBody_19 (by decide) rfl (by decide +kernel) (Int.not_lt.mp h_10) ?_
      refine z_aload_n (M := M_X12_putBody) dX12_putBody_30 rfl ?_
      refine z_iload_n (M := M_X12_putBody) dX12_putBody_31 rfl ?_
      obtain ⟨σ_15, hc_14, H⟩ := bd_e H
      refine z_callV (M := M_X12_putBody) (M' := M_X12_putRings) (as := [vi n_0]) (rest := []) rfl rfl dX12_putBody_32 m_X12_putRings t_3062 t_3064 s_204 (c_X12_putRings hl  hc_14) rfl rfl ly_277 rfl (Nat.le_of_ble_eq_true rfl) (Nat.le_of_ble_eq_true rfl) (Nat.le_of_ble_eq_true rfl) (Nat.le_of_ble_eq_true rfl) ?_
      refine z_st (st' := []) rfl ?_
      exact J_20 _ (Option.some.inj H).symm
theorem c_X12_putParts (hl : l.stackTraces = false) {σ : SG} {n_0 : Int} {σ' : SG}  (H : fR_putParts σ n_0 = some σ') : en_S l E M_X12_putParts 8 0 0 [vr 277, vi n_0] σ (pS (none) σ') := by
  unfold fR_putParts at H
  refine z_mk (lv := [some (vr 277), some (vi n_0), none, none]) m_X12_putParts rfl hl (Nat.le_of_ble_eq_true rfl) rfl ?_
  refine z_iload_n (M := M_X12_putParts) dX12_putParts_0 rfl ?_
  rcases if_e H with ⟨h_1, H⟩ | ⟨h_1, H⟩
  · refine z_if_ne_f (M := M_X12_putParts) (tgt := 11) dX12_putParts_1 (by decide) rfl h_1 ?_
    refine z_aload_n (M := M_X12_putParts) dX12_putParts_4 rfl ?_
    refine z_bipush (M := M_X12_putParts) dX12_putParts_5 (by decide +kernel) ?_
    obtain ⟨σ_3, hc_2, H⟩ := bd_e H
    refine z_callV (M := M_X12_putParts) (M' := M_X12_putWord) (as := [vi 8]) (rest := []) rfl rfl dX12_putParts_7 m_X12_putWord t_3041 t_3043 s_199 (c_X12_putWord hl  hc_2) rfl rfl ly_277 rfl (Nat.le_of_ble_eq_true rfl) (Nat.le_of_ble_eq_true rfl) (Nat.le_of_ble_eq_true rfl) (Nat.le_of_ble_eq_true rfl) ?_
    refine z_st (st' := []) rfl ?_
    cases H
    exact z_vret (M := M_X12_putParts) dX12_putParts_10 rfl (Nat.le_of_ble_eq_true rfl) (Nat.le_of_ble_eq_true rfl) ⟨rfl, rfl⟩
  · refine z_if_ne_t (M := M_X12_putParts) (tgt := 11) dX12_putParts_1 (by decide) rfl h_1 ?_
    refine z_aload_n (M := M_X12_putParts) dX12_putParts_11 rfl ?_
    refine z_bipush (M := M_X12_putParts) dX12_putParts_12 (by decide +kernel) ?_
    obtain ⟨σ_5, hc_4, H⟩ := bd_e H
    refine z_callV (M := M_X12_putParts) (M' := M_X12_put) (as := [vi 40]) (rest := []) rfl rfl dX12_putParts_14 m_X12_put t_3045 t_3047 s_200 (c_X12_put hl  hc_4) rfl rfl ly_277 rfl (Nat.le_of_ble_eq_true rfl) (Nat.le_of_ble_eq_true rfl) (Nat.le_of_ble_eq_true rfl) (Nat.le_of_ble_eq_true rfl) ?_
    refine z_st (st' := []) rfl ?_
    refine z_iconst (M := M_X12_putParts) dX12_putParts_17 ?_
    refine z_istore_n (M := M_X12_putParts) (lv' := [some (vr 277), some (vi n_0), some (vi 0), none]) dX12_putParts_18 (Nat.le_of_ble_eq_true rfl) rfl rfl ?_
    obtain ⟨rl_11, hw_8, hk_9⟩ := bd_e H
    have J_52 : ∀ k_48 σ_49, rl_11 = (k_48, σ_49) → YY l E M_X12_putParts 8 0 0 (pS (none) σ') 64 [some (vr 277), some (vi n_0), some (vi k_48), none] [] σ_49 0 0 := by
      intro k_48 σ_49 e
      have H := hk_9
      rw [e] at H
      refine z_aload_n (M := M_X12_putParts) dX12_putParts_64 rfl ?_
      refine z_bipush (M := M_X12_putParts) dX12_putParts_65 (by decide +kernel) ?_
      obtain ⟨σ_51, hc_50, H⟩ := bd_e H
      refine z_callV (M := M_X12_putParts) (M' := M_X12_put) (as := [vi 41]) (rest := []) rfl rfl dX12_putParts_67 m_X12_put t_3045 t_3047 s_200 (c_X12_put hl  hc_50) rfl rfl ly_277 rfl (Nat.le_of_ble_eq_true rfl) (Nat.le_of_ble_eq_true rfl) (Nat.le_of_ble_eq_true rfl) (Nat.le_of_ble_eq_true rfl) ?_
      refine z_st (st' := []) rfl ?_
      cases H
      exact z_vret (M := M_X12_putParts) dX12_putParts_70 rfl (Nat.le_of_ble_eq_true rfl) (Nat.le_of_ble_eq_true rfl) ⟨rfl, rfl⟩
    refine whl_go hw_8 (fun (k_6, σ_7) => YY l E M_X12_putParts 8 0 0 (pS (none) σ') 19 [some (vr 277), some (vi n_0), some (vi k_6), none] [] σ_7 0 0) ?_
    rintro ⟨k_6, σ_7⟩ o_12 H K_13 K_14
    refine z_iload_n (M := M_X12_putParts) dX12_putParts_19 rfl ?_
    refine z_iload_n (M := M_X12_putParts) dX12_putParts_20 rfl ?_
    rcases if_e H with ⟨h_15, H⟩ | ⟨h_15, H⟩
    · refine z_icmp_ge_f (M := M_X12_putParts) (tgt := 64) dX12_putParts_21 (by decide) rfl rfl h_15 ?_
      obtain ⟨v_19, he_16, hk_17⟩ := bd_e H
      have J_46 : ∀ σ_25, v_19 = σ_25 → YY l E M_X12_putParts 8 0 0 (pS (none) σ') 34 [some (vr 277), some (vi n_0), some (vi k_6), none] [] σ_25 0 0 := by
        intro σ_25 e
        have H := hk_17
        rw [e] at H
        obtain ⟨v_29, he_26, hk_27⟩ := bd_e H
        have J_45 : ∀ σ_35, v_29 = σ_35 → YY l E M_X12_putParts 8 0 0 (pS (none) σ') 44 [some (vr 277), some (vi n_0), some (vi k_6), none] [] σ_35 0 0 := by
          intro σ_35 e
          have H := hk_27
          rw [e] at H
          refine z_aload_n (M := M_X12_putParts) dX12_putParts_44 rfl ?_
          obtain ⟨⟨x_38, σ_37⟩, hc_36, H⟩ := bd_e H
          refine z_callV (M := M_X12_putParts) (M' := M_X12_next) (as := []) (rest := []) rfl rfl dX12_putParts_45 m_X12_next t_3037 t_3039 s_198 (c_X12_next hl  hc_36) rfl rfl ly_277 rfl (Nat.le_of_ble_eq_true rfl) (Nat.le_of_ble_eq_true rfl) (Nat.le_of_ble_eq_true rfl) (Nat.le_of_ble_eq_true rfl) ?_
          refine z_st (st' := [vi x_38]) rfl ?_
          refine z_istore_n (M := M_X12_putParts) (lv' := [some (vr 277), some (vi n_0), some (vi k_6), some (vi x_38)]) dX12_putParts_48 (Nat.le_of_ble_eq_true rfl) rfl rfl ?_
          refine z_aload_n (M := M_X12_putParts) dX12_putParts_49 rfl ?_
          refine z_iload_n (M := M_X12_putParts) dX12_putParts_50 rfl ?_
          refine z_aload_n (M := M_X12_putParts) dX12_putParts_51 rfl ?_
          obtain ⟨⟨x_41, σ_40⟩, hc_39, H⟩ := bd_e H
          refine z_callV (M := M_X12_putParts) (M' := M_X12_next) (as := []) (rest := [vi x_38, vr 277]) rfl rfl dX12_putParts_52 m_X12_next t_3037 t_3039 s_198 (c_X12_next hl  hc_39) rfl rfl ly_277 rfl (Nat.le_of_ble_eq_true rfl) (Nat.le_of_ble_eq_true rfl) (Nat.le_of_ble_eq_true rfl) (Nat.le_of_ble_eq_true rfl) ?_
          refine z_st (st' := [vi x_41, vi x_38, vr 277]) rfl ?_
          obtain ⟨σ_43, hc_42, H⟩ := bd_e H
          refine z_callV (M := M_X12_putParts) (M' := M_X12_putBody) (as := [vi x_38, vi x_41]) (rest := []) rfl rfl dX12_putParts_55 m_X12_putBody t_3049 t_3051 s_201 (c_X12_putBody hl  hc_42) rfl rfl ly_277 rfl (Nat.le_of_ble_eq_true rfl) (Nat.le_of_ble_eq_true rfl) (Nat.le_of_ble_eq_true rfl) (Nat.le_of_ble_eq_true rfl) ?_
          refine z_st (st' := []) rfl ?_
          refine z_iinc (M := M_X12_putParts) (lv' := [some (vr 277), some (vi n_0), some (vi (k_6 + 1)), some (vi x_38)]) dX12_putParts_58 rfl (Nat.le_of_ble_eq_true rfl) rfl rfl ?_
          refine z_goto (M := M_X12_putParts) (tgt := 19) dX12_putParts_61 (by decide) ?_
          refine z_le (lv' := [some (vr 277), some (vi n_0), some (vi (k_6 + 1)), none]) ⟨Or.inr rfl, Or.inr rfl, Or.inr rfl, Or.inl rfl, trivial⟩ ?_
          exact K_13 _ (Option.some.inj H).symm
        have H := he_26
        refine z_iload_n (M := M_X12_putParts) dX12_putParts_34 rfl ?_
        rcases if_e H with ⟨h_30, H⟩ | ⟨h_30, H⟩
        · refine z_if_le_f (M := M_X12_putParts) (tgt := 44) dX12_putParts_35 (by decide) rfl h_30 ?_
          refine z_aload_n (M := M_X12_putParts) dX12_putParts_38 rfl ?_
          refine z_bipush (M := M_X12_putParts) dX12_putParts_39 (by decide +kernel) ?_
          obtain ⟨σ_32, hc_31, H⟩ := bd_e H
          refine z_callV (M := M_X12_putParts) (M' := M_X12_put) (as := [vi 32]) (rest := []) rfl rfl dX12_putParts_41 m_X12_put t_3045 t_3047 s_200 (c_X12_put hl  hc_31) rfl rfl ly_277 rfl (Nat.le_of_ble_eq_true rfl) (Nat.le_of_ble_eq_true rfl) (Nat.le_of_ble_eq_true rfl) (Nat.le_of_ble_eq_true rfl) ?_
          refine z_st (st' := []) rfl ?_
          exact J_45 _ (Option.some.inj H).symm
        · refine z_if_le_t (M := M_X12_putParts) (tgt := 44) dX12_putParts_35 (by decide) rfl (Int.not_lt.mp h_30) ?_
          exact J_45 _ (Option.some.inj H).symm
      have H := he_16
      refine z_iload_n (M := M_X12_putParts) dX12_putParts_24 rfl ?_
      rcases if_e H with ⟨h_20, H⟩ | ⟨h_20, H⟩
      · refine z_if_le_f (M := M_X12_putParts) (tgt := 34) dX12_putParts_25 (by decide) rfl h_20 ?_
        refine z_aload_n (M := M_X12_putParts) dX12_putParts_28 rfl ?_
        refine z_bipush (M := M_X12_putParts) dX12_putParts_29 (by decide +kernel) ?_
        obtain ⟨σ_22, hc_21, H⟩ := bd_e H
        refine z_callV (M := M_X12_putParts) (M' := M_X12_put) (as := [vi 44]) (rest := []) rfl rfl dX12_putParts_31 m_X12_put t_3045 t_3047 s_200 (c_X12_put hl  hc_21) rfl rfl ly_277 rfl (Nat.le_of_ble_eq_true rfl) (Nat.le_of_ble_eq_true rfl) (Nat.le_of_ble_eq_true rfl) (Nat.le_of_ble_eq_true rfl) ?_
        refine z_st (st' := []) rfl ?_
        exact J_46 _ (Option.some.inj H).symm
      · refine z_if_le_t (M := M_X12_putParts) (tgt := 34) dX12_putParts_25 (by decide) rfl (Int.not_lt.mp h_20) ?_
        exact J_46 _ (Option.some.inj H).symm
    · refine z_icmp_ge_t (M := M_X12_putParts) (tgt := 64) dX12_putParts_21 (by decide) rfl rfl (Int.not_lt.mp h_15) ?_
      exact J_52 _ _ (K_14 _ (Option.some.inj H).symm).symm
theorem c_X12_leadsOn (hl : l.stackTraces = false) {σ : SG} {r : Bool} {σ' : SG}  (H : fR_leadsOn σ = some (r, σ')) : en_S l E M_X12_leadsOn 2 0 0 [vr 277] σ (pS (some (zv r)) σ') := by
  unfold fR_leadsOn at H
  refine z_mk (lv := [some (vr 277)]) m_X12_leadsOn rfl hl (Nat.le_of_ble_eq_true rfl) rfl ?_
  obtain ⟨rl_5, hw_2, hk_3, hk_4⟩ := bx_e H
  have J_27 : ∀ σ_26, rl_5 = (.inl σ_26) → YY l E M_X12_leadsOn 2 0 0 (pS (some (zv r)) σ') 71 [some (vr 277)] [] σ_26 0 0 := by
    intro σ_26 e
    have H := hk_3 _ e
    refine z_zconst (M := M_X12_leadsOn) (b := false) dX12_leadsOn_71 rfl ?_
    cases H
    exact z_zret (M := M_X12_leadsOn) dX12_leadsOn_72 rfl (Nat.le_of_ble_eq_true rfl) (Nat.le_of_ble_eq_true rfl) ⟨rfl, rfl⟩
  refine whl_go hw_2 (fun σ_1 => YY l E M_X12_leadsOn 2 0 0 (pS (some (zv r)) σ') 0 [some (vr 277)] [] σ_1 0 0) ?_
  rintro σ_1 o_6 H K_7 K_8
  refine z_aload_n (M := M_X12_leadsOn) dX12_leadsOn_0 rfl ?_
  refine z_getI (M := M_X12_leadsOn) (ci := 15) (C := RX12) (T := TX12) (Nf := 135) (ty := tyX12) cl15 dX12_leadsOn_1 ly_277 29 (by decide) t_2420 rfl rfl ?_
  rcases if_e H with ⟨h_9, H⟩ | ⟨h_9, H⟩
  · refine z_if_le_f (M := M_X12_leadsOn) (tgt := 71) dX12_leadsOn_4 (by decide) rfl h_9 ?_
    refine z_aload_n (M := M_X12_leadsOn) dX12_leadsOn_7 rfl ?_
    refine z_getR (M := M_X12_leadsOn) (ci := 15) (C := RX12) (T := TX12) (Nf := 135) (ty := tyX12) cl15 dX12_leadsOn_8 ly_277 27 (by decide) t_2418 rfl ?_
    refine z_aload_n (M := M_X12_leadsOn) dX12_leadsOn_11 rfl ?_
    refine z_getI (M := M_X12_leadsOn) (ci := 15) (C := RX12) (T := TX12) (Nf := 135) (ty := tyX12) cl15 dX12_leadsOn_12 ly_277 29 (by decide) t_2420 rfl rfl ?_
    refine z_iconst (M := M_X12_leadsOn) dX12_leadsOn_15 ?_
    refine z_isub (M := M_X12_leadsOn) dX12_leadsOn_16 ?_
    refine z_dup2 (M := M_X12_leadsOn) dX12_leadsOn_17 rfl rfl ?_
    obtain ⟨x_10, x_10_e, hi_11, H⟩ := rd_e H
    refine z_lald (M := M_X12_leadsOn) dX12_leadsOn_18 ly_288 rfl rfl rfl hi_11 x_10_e ?_
    refine z_lconst (M := M_X12_leadsOn) (m := 1) dX12_leadsOn_19 (by decide +kernel) ?_
    refine z_lsub (M := M_X12_leadsOn) dX12_leadsOn_20 ?_
    obtain ⟨σ_12, σ_12_e, hi_13, H⟩ := wa_e H
    refine z_last (M := M_X12_leadsOn) dX12_leadsOn_21 ly_288 rfl rfl rfl hi_13 σ_12_e ?_
    refine z_aload_n (M := M_X12_leadsOn) dX12_leadsOn_22 rfl ?_
    refine z_getR (M := M_X12_leadsOn) (ci := 15) (C := RX12) (T := TX12) (Nf := 135) (ty := tyX12) cl15 dX12_leadsOn_23 ly_277 27 (by decide) t_2418 rfl ?_
    refine z_aload_n (M := M_X12_leadsOn) dX12_leadsOn_26 rfl ?_
    refine z_getI (M := M_X12_leadsOn) (ci := 15) (C := RX12) (T := TX12) (Nf := 135) (ty := tyX12) cl15 dX12_leadsOn_27 ly_277 29 (by decide) t_2420 rfl rfl ?_
    refine z_iconst (M := M_X12_leadsOn) dX12_leadsOn_30 ?_
    refine z_isub (M := M_X12_leadsOn) dX12_leadsOn_31 ?_
    obtain ⟨x_14, x_14_e, hi_15, H⟩ := rd_e H
    refine z_lald (M := M_X12_leadsOn) dX12_leadsOn_32 ly_288 rfl rfl rfl hi_15 x_14_e ?_
    refine z_lconst (M := M_X12_leadsOn) (m := 0) dX12_leadsOn_33 (by decide +kernel) ?_
    refine z_lcmp (M := M_X12_leadsOn) dX12_leadsOn_34 ?_
    rcases if_e H with ⟨h_16, H⟩ | ⟨h_16, H⟩
    · refine z_lif_le_f (M := M_X12_leadsOn) (tgt := 52) dX12_leadsOn_35 (by decide) rfl (by decide +kernel) h_16 ?_
      refine z_aload_n (M := M_X12_leadsOn) dX12_leadsOn_38 rfl ?_
      refine z_bipush (M := M_X12_leadsOn) dX12_leadsOn_39 (by decide +kernel) ?_
      obtain ⟨σ_18, hc_17, H⟩ := bd_e H
      refine z_callV (M := M_X12_leadsOn) (M' := M_X12_put) (as := [vi 44]) (rest := []) rfl rfl dX12_leadsOn_41 m_X12_put t_3045 t_3047 s_200 (c_X12_put hl  hc_17) rfl rfl ly_277 rfl (Nat.le_of_ble_eq_true rfl) (Nat.le_of_ble_eq_true rfl) (Nat.le_of_ble_eq_true rfl) (Nat.le_of_ble_eq_true rfl) ?_
      refine z_st (st' := []) rfl ?_
      refine z_aload_n (M := M_X12_leadsOn) dX12_leadsOn_44 rfl ?_
      refine z_bipush (M := M_X12_leadsOn) dX12_leadsOn_45 (by decide +kernel) ?_
      obtain ⟨σ_20, hc_19, H⟩ := bd_e H
      refine z_callV (M := M_X12_leadsOn) (M' := M_X12_put) (as := [vi 32]) (rest := []) rfl rfl dX12_leadsOn_47 m_X12_put t_3045 t_3047 s_200 (c_X12_put hl  hc_19) rfl rfl ly_277 rfl (Nat.le_of_ble_eq_true rfl) (Nat.le_of_ble_eq_true rfl) (Nat.le_of_ble_eq_true rfl) (Nat.le_of_ble_eq_true rfl) ?_
      refine z_st (st' := []) rfl ?_
      refine z_zconst (M := M_X12_leadsOn) (b := true) dX12_leadsOn_50 rfl ?_
      have H := congrArg some (hk_4 _ ((K_8 _ (Option.some.inj H).symm).symm))
      cases H
      exact z_zret (M := M_X12_leadsOn) dX12_leadsOn_51 rfl (Nat.le_of_ble_eq_true rfl) (Nat.le_of_ble_eq_true rfl) ⟨rfl, rfl⟩
    · refine z_lif_le_t (M := M_X12_leadsOn) (tgt := 52) dX12_leadsOn_35 (by decide) rfl (by decide +kernel) (Int.not_lt.mp h_16) ?_
      refine z_aload_n (M := M_X12_leadsOn) dX12_leadsOn_52 rfl ?_
      refine z_bipush (M := M_X12_leadsOn) dX12_leadsOn_53 (by decide +kernel) ?_
      obtain ⟨σ_22, hc_21, H⟩ := bd_e H
      refine z_callV (M := M_X12_leadsOn) (M' := M_X12_put) (as := [vi 41]) (rest := []) rfl rfl dX12_leadsOn_55 m_X12_put t_3045 t_3047 s_200 (c_X12_put hl  hc_21) rfl rfl ly_277 rfl (Nat.le_of_ble_eq_true rfl) (Nat.le_of_ble_eq_true rfl) (Nat.le_of_ble_eq_true rfl) (Nat.le_of_ble_eq_true rfl) ?_
      refine z_st (st' := []) rfl ?_
      refine z_aload_n (M := M_X12_leadsOn) dX12_leadsOn_58 rfl ?_
      refine z_dup (M := M_X12_leadsOn) dX12_leadsOn_59 rfl ?_
      refine z_getI (M := M_X12_leadsOn) (ci := 15) (C := RX12) (T := TX12) (Nf := 135) (ty := tyX12) cl15 dX12_leadsOn_60 ly_277 29 (by decide) t_2420 rfl rfl ?_
      refine z_iconst (M := M_X12_leadsOn) dX12_leadsOn_63 ?_
      refine z_isub (M := M_X12_leadsOn) dX12_leadsOn_64 ?_
      obtain ⟨σ_23, σ_23_e, H⟩ := wf_e H
      refine z_putI (M := M_X12_leadsOn) (ci := 15) (C := RX12) (T := TX12) (Nf := 135) (ty := tyX12) cl15 dX12_leadsOn_65 ly_277 29 (by decide) t_2420 rfl rfl rfl rfl σ_23_e ?_
      refine z_goto (M := M_X12_leadsOn) (tgt := 0) dX12_leadsOn_68 (by decide) ?_
      exact K_7 _ (Option.some.inj H).symm
  · refine z_if_le_t (M := M_X12_leadsOn) (tgt := 71) dX12_leadsOn_4 (by decide) rfl (Int.not_lt.mp h_9) ?_
    exact J_27 _ (K_8 _ (Option.some.inj H).symm).symm
theorem c_X12_writeWords (hl : l.stackTraces = false) {σ : SG} {slot_0 : Int} {r : Int} {σ' : SG}  (H : fR_writeWords σ slot_0 = some (r, σ')) : en_S l E M_X12_writeWords 9 0 0 [vr 277, vi slot_0] σ (pS (some (vi r)) σ') := by
  unfold fR_writeWords at H
  refine z_mk (lv := [some (vr 277), some (vi slot_0), none, none, none]) m_X12_writeWords rfl hl (Nat.le_of_ble_eq_true rfl) rfl ?_
  refine z_aload_n (M := M_X12_writeWords) dX12_writeWords_0 rfl ?_
  refine z_iconst (M := M_X12_writeWords) dX12_writeWords_1 ?_
  obtain ⟨σ_1, σ_1_e, H⟩ := wf_e H
  refine z_putI (M := M_X12_writeWords) (ci := 15) (C := RX12) (T := TX12) (Nf := 135) (ty := tyX12) cl15 dX12_writeWords_2 ly_277 0 (by decide) t_2391 rfl rfl rfl rfl σ_1_e ?_
  refine z_aload_n (M := M_X12_writeWords) dX12_writeWords_5 rfl ?_
  have J_25 : YY l E M_X12_writeWords 9 0 0 (pS (some (vi r)) σ') 18 [some (vr 277), some (vi slot_0), none, none, none] [zv (decide (¬ ((fR_isSlot slot_0) = true))), vr 277] σ_1 0 0 := by
    refine z_iconst (M := M_X12_writeWords) dX12_writeWords_18 ?_
    obtain ⟨⟨x_28, σ_27⟩, hc_26, H⟩ := bd_e H
    refine z_callV (M := M_X12_writeWords) (M' := M_X12_fails) (as := [zv (decide (¬ ((fR_isSlot slot_0) = true))), vi 1]) (rest := []) rfl rfl dX12_writeWords_19 m_X12_fails t_2805 t_2807 s_157 (c_X12_fails hl  hc_26) rfl rfl ly_277 rfl (Nat.le_of_ble_eq_true rfl) (Nat.le_of_ble_eq_true rfl) (Nat.le_of_ble_eq_true rfl) (Nat.le_of_ble_eq_true rfl) ?_
    refine z_st (st' := [zv x_28]) rfl ?_
    rcases if_e H with ⟨h_29, H⟩ | ⟨h_29, H⟩
    · refine z_zne_t (M := M_X12_writeWords) (tgt := 46) dX12_writeWords_22 (by decide) h_29 ?_
      refine z_iconst (M := M_X12_writeWords) dX12_writeWords_46 ?_
      cases H
      exact z_iret (M := M_X12_writeWords) dX12_writeWords_47 rfl (Nat.le_of_ble_eq_true rfl) (Nat.le_of_ble_eq_true rfl) ⟨rfl, rfl⟩
    · refine z_zne_f (M := M_X12_writeWords) (tgt := 46) dX12_writeWords_22 (by decide) h_29 ?_
      refine z_aload_n (M := M_X12_writeWords) dX12_writeWords_25 rfl ?_
      obtain ⟨v_98, he_99, hk_100⟩ := bd_e H
      have J_101 : ∀ x_35, v_98 = x_35 → YY l E M_X12_writeWords 9 0 0 (pS (some (vi r)) σ') 39 [some (vr 277), some (vi slot_0), none, none, none] [zv x_35, vr 277] σ_27 0 0 := by
        intro x_35 e
        have H := hk_100
        rw [e] at H
        refine z_iconst (M := M_X12_writeWords) dX12_writeWords_39 ?_
        obtain ⟨⟨x_38, σ_37⟩, hc_36, H⟩ := bd_e H
        refine z_callV (M := M_X12_writeWords) (M' := M_X12_fails) (as := [zv x_35, vi 2]) (rest := []) rfl rfl dX12_writeWords_40 m_X12_fails t_2805 t_2807 s_157 (c_X12_fails hl  hc_36) rfl rfl ly_277 rfl (Nat.le_of_ble_eq_true rfl) (Nat.le_of_ble_eq_true rfl) (Nat.le_of_ble_eq_true rfl) (Nat.le_of_ble_eq_true rfl) ?_
        refine z_st (st' := [zv x_38]) rfl ?_
        rcases if_e H with ⟨h_39, H⟩ | ⟨h_39, H⟩
        · refine z_zeq_f (M := M_X12_writeWords) (tgt := 48) dX12_writeWords_43 (by decide) h_39 ?_
          refine z_iconst (M := M_X12_writeWords) dX12_writeWords_46 ?_
          cases H
          exact z_iret (M := M_X12_writeWords) dX12_writeWords_47 rfl (Nat.le_of_ble_eq_true rfl) (Nat.le_of_ble_eq_true rfl) ⟨rfl, rfl⟩
        · refine z_zeq_t (M := M_X12_writeWords) (tgt := 48) dX12_writeWords_43 (by decide) h_39 ?_
          refine z_aload_n (M := M_X12_writeWords) dX12_writeWords_48 rfl ?_
          refine z_iconst (M := M_X12_writeWords) dX12_writeWords_49 ?_
          obtain ⟨σ_40, σ_40_e, H⟩ := wf_e H
          refine z_putI (M := M_X12_writeWords) (ci := 15) (C := RX12) (T := TX12) (Nf := 135) (ty := tyX12) cl15 dX12_writeWords_50 ly_277 6 (by decide) t_2397 rfl rfl rfl rfl σ_40_e ?_
          refine z_aload_n (M := M_X12_writeWords) dX12_writeWords_53 rfl ?_
          refine z_sipush (M := M_X12_writeWords) dX12_writeWords_54 (by decide +kernel) ?_
          refine z_iload_n (M := M_X12_writeWords) dX12_writeWords_57 rfl ?_
          refine z_imul (M := M_X12_writeWords) dX12_writeWords_58 ?_
          obtain ⟨σ_41, σ_41_e, H⟩ := wf_e H
          refine z_putI (M := M_X12_writeWords) (ci := 15) (C := RX12) (T := TX12) (Nf := 135) (ty := tyX12) cl15 dX12_writeWords_59 ly_277 30 (by decide) t_2421 rfl rfl rfl rfl σ_41_e ?_
          refine z_aload_n (M := M_X12_writeWords) dX12_writeWords_62 rfl ?_
          refine z_sipush (M := M_X12_writeWords) dX12_writeWords_63 (by decide +kernel) ?_
          refine z_iload_n (M := M_X12_writeWords) dX12_writeWords_66 rfl ?_
          refine z_imul (M := M_X12_writeWords) dX12_writeWords_67 ?_
          obtain ⟨σ_42, σ_42_e, H⟩ := wf_e H
          refine z_putI (M := M_X12_writeWords) (ci := 15) (C := RX12) (T := TX12) (Nf := 135) (ty := tyX12) cl15 dX12_writeWords_68 ly_277 31 (by decide) t_2422 rfl rfl rfl rfl σ_42_e ?_
          refine z_aload_n (M := M_X12_writeWords) dX12_writeWords_71 rfl ?_
          refine z_iconst (M := M_X12_writeWords) dX12_writeWords_72 ?_
          obtain ⟨σ_43, σ_43_e, H⟩ := wf_e H
          refine z_putI (M := M_X12_writeWords) (ci := 15) (C := RX12) (T := TX12) (Nf := 135) (ty := tyX12) cl15 dX12_writeWords_73 ly_277 29 (by decide) t_2420 rfl rfl rfl rfl σ_43_e ?_
          refine z_zconst (M := M_X12_writeWords) (b := true) dX12_writeWords_76 rfl ?_
          refine z_zstore_n (M := M_X12_writeWords) (lv' := [some (vr 277), some (vi slot_0), some (zv true), none, none]) dX12_writeWords_77 (Nat.le_of_ble_eq_true rfl) rfl rfl ?_
          obtain ⟨rl_49, hw_46, hk_47⟩ := bd_e H
          have J_97 : ∀ more_95 σ_96, rl_49 = (more_95, σ_96) → YY l E M_X12_writeWords 9 0 0 (pS (some (vi r)) σ') 175 [some (vr 277), some (vi slot_0), some (zv more_95), none, none] [] σ_96 0 0 := by
            intro more_95 σ_96 e
            have H := hk_47
            rw [e] at H
            refine z_aload_n (M := M_X12_writeWords) dX12_writeWords_175 rfl ?_
            refine z_getI (M := M_X12_writeWords) (ci := 15) (C := RX12) (T := TX12) (Nf := 135) (ty := tyX12) cl15 dX12_writeWords_176 ly_277 6 (by decide) t_2397 rfl rfl ?_
            cases H
            exact z_iret (M := M_X12_writeWords) dX12_writeWords_179 rfl (Nat.le_of_ble_eq_true rfl) (Nat.le_of_ble_eq_true rfl) ⟨rfl, rfl⟩
          refine whl_go hw_46 (fun (more_44, σ_45) => YY l E M_X12_writeWords 9 0 0 (pS (some (vi r)) σ') 78 [some (vr 277), some (vi slot_0), some (zv more_44), none, none] [] σ_45 0 0) ?_
          rintro ⟨more_44, σ_45⟩ o_50 H K_51 K_52
          refine z_zload_n (M := M_X12_writeWords) dX12_writeWords_78 rfl ?_
          rcases if_e H with ⟨h_53, H⟩ | ⟨h_53, H⟩
          · refine z_zeq_f (M := M_X12_writeWords) (tgt := 175) dX12_writeWords_79 (by decide) h_53 ?_
            refine z_aload_n (M := M_X12_writeWords) dX12_writeWords_82 rfl ?_
            obtain ⟨⟨x_56, σ_55⟩, hc_54, H⟩ := bd_e H
            refine z_callV (M := M_X12_writeWords) (M' := M_X12_next) (as := []) (rest := []) rfl rfl dX12_writeWords_83 m_X12_next t_3037 t_3039 s_198 (c_X12_next hl  hc_54) rfl rfl ly_277 rfl (Nat.le_of_ble_eq_true rfl) (Nat.le_of_ble_eq_true rfl) (Nat.le_of_ble_eq_true rfl) (Nat.le_of_ble_eq_true rfl) ?_
            refine z_st (st' := [vi x_56]) rfl ?_
            refine z_istore_n (M := M_X12_writeWords) (lv' := [some (vr 277), some (vi slot_0), some (zv more_44), some (vi x_56), none]) dX12_writeWords_86 (Nat.le_of_ble_eq_true rfl) rfl rfl ?_
            refine z_aload_n (M := M_X12_writeWords) dX12_writeWords_87 rfl ?_
            obtain ⟨⟨x_59, σ_58⟩, hc_57, H⟩ := bd_e H
            refine z_callV (M := M_X12_writeWords) (M' := M_X12_next) (as := []) (rest := []) rfl rfl dX12_writeWords_88 m_X12_next t_3037 t_3039 s_198 (c_X12_next hl  hc_57) rfl rfl ly_277 rfl (Nat.le_of_ble_eq_true rfl) (Nat.le_of_ble_eq_true rfl) (Nat.le_of_ble_eq_true rfl) (Nat.le_of_ble_eq_true rfl) ?_
            refine z_st (st' := [vi x_59]) rfl ?_
            refine z_istore (M := M_X12_writeWords) (lv' := [some (vr 277), some (vi slot_0), some (zv more_44), some (vi x_56), some (vi x_59)]) dX12_writeWords_91 (Nat.le_of_ble_eq_true rfl) rfl rfl ?_
            refine z_aload_n (M := M_X12_writeWords) dX12_writeWords_93 rfl ?_
            refine z_iload_n (M := M_X12_writeWords) dX12_writeWords_94 rfl ?_
            obtain ⟨σ_61, hc_60, H⟩ := bd_e H
            refine z_callV (M := M_X12_writeWords) (M' := M_X12_putWord) (as := [vi x_56]) (rest := []) rfl rfl dX12_writeWords_95 m_X12_putWord t_3041 t_3043 s_199 (c_X12_putWord hl  hc_60) rfl rfl ly_277 rfl (Nat.le_of_ble_eq_true rfl) (Nat.le_of_ble_eq_true rfl) (Nat.le_of_ble_eq_true rfl) (Nat.le_of_ble_eq_true rfl) ?_
            refine z_st (st' := []) rfl ?_
            refine z_aload_n (M := M_X12_writeWords) dX12_writeWords_98 rfl ?_
            refine z_bipush (M := M_X12_writeWords) dX12_writeWords_99 (by decide +kernel) ?_
            obtain ⟨σ_63, hc_62, H⟩ := bd_e H
            refine z_callV (M := M_X12_writeWords) (M' := M_X12_put) (as := [vi 32]) (rest := []) rfl rfl dX12_writeWords_101 m_X12_put t_3045 t_3047 s_200 (c_X12_put hl  hc_62) rfl rfl ly_277 rfl (Nat.le_of_ble_eq_true rfl) (Nat.le_of_ble_eq_true rfl) (Nat.le_of_ble_eq_true rfl) (Nat.le_of_ble_eq_true rfl) ?_
            refine z_st (st' := []) rfl ?_
            rcases if_e H with ⟨h_87, H⟩ | ⟨h_87, H⟩
            · have J_88 : YY l E M_X12_writeWords 9 0 0 (pS (some (vi r)) σ') 115 [some (vr 277), some (vi slot_0), some (zv more_44), some (vi x_56), some (vi x_59)] [] σ_63 0 0 := by
                refine z_aload_n (M := M_X12_writeWords) dX12_writeWords_115 rfl ?_
                refine z_bipush (M := M_X12_writeWords) dX12_writeWords_116 (by decide +kernel) ?_
                obtain ⟨σ_65, hc_64, H⟩ := bd_e H
                refine z_callV (M := M_X12_writeWords) (M' := M_X12_put) (as := [vi 40]) (rest := []) rfl rfl dX12_writeWords_118 m_X12_put t_3045 t_3047 s_200 (c_X12_put hl  hc_64) rfl rfl ly_277 rfl (Nat.le_of_ble_eq_true rfl) (Nat.le_of_ble_eq_true rfl) (Nat.le_of_ble_eq_true rfl) (Nat.le_of_ble_eq_true rfl) ?_
                refine z_st (st' := []) rfl ?_
                refine z_aload_n (M := M_X12_writeWords) dX12_writeWords_121 rfl ?_
                refine z_getR (M := M_X12_writeWords) (ci := 15) (C := RX12) (T := TX12) (Nf := 135) (ty := tyX12) cl15 dX12_writeWords_122 ly_277 27 (by decide) t_2418 rfl ?_
                refine z_aload_n (M := M_X12_writeWords) dX12_writeWords_125 rfl ?_
                refine z_getI (M := M_X12_writeWords) (ci := 15) (C := RX12) (T := TX12) (Nf := 135) (ty := tyX12) cl15 dX12_writeWords_126 ly_277 29 (by decide) t_2420 rfl rfl ?_
                refine z_iload (M := M_X12_writeWords) dX12_writeWords_129 rfl ?_
                refine z_i2l (M := M_X12_writeWords) dX12_writeWords_131 ?_
                obtain ⟨σ_66, σ_66_e, hi_67, H⟩ := wa_e H
                refine z_last (M := M_X12_writeWords) dX12_writeWords_132 ly_288 rfl rfl rfl hi_67 σ_66_e ?_
                refine z_aload_n (M := M_X12_writeWords) dX12_writeWords_133 rfl ?_
                refine z_dup (M := M_X12_writeWords) dX12_writeWords_134 rfl ?_
                refine z_getI (M := M_X12_writeWords) (ci := 15) (C := RX12) (T := TX12) (Nf := 135) (ty := tyX12) cl15 dX12_writeWords_135 ly_277 29 (by decide) t_2420 rfl rfl ?_
                refine z_iconst (M := M_X12_writeWords) dX12_writeWords_138 ?_
                refine z_iadd (M := M_X12_writeWords) dX12_writeWords_139 ?_
                obtain ⟨σ_68, σ_68_e, H⟩ := wf_e H
                refine z_putI (M := M_X12_writeWords) (ci := 15) (C := RX12) (T := TX12) (Nf := 135) (ty := tyX12) cl15 dX12_writeWords_140 ly_277 29 (by decide) t_2420 rfl rfl rfl rfl σ_68_e ?_
                refine z_goto (M := M_X12_writeWords) (tgt := 78) dX12_writeWords_143 (by decide) ?_
                refine z_le (lv' := [some (vr 277), some (vi slot_0), some (zv more_44), none, none]) ⟨Or.inr rfl, Or.inr rfl, Or.inr rfl, Or.inl rfl, Or.inl rfl, trivial⟩ ?_
                exact K_51 _ (Option.some.inj H).symm
              refine z_iload_n (M := M_X12_writeWords) dX12_writeWords_104 rfl ?_
              refine z_bipush (M := M_X12_writeWords) dX12_writeWords_105 (by decide +kernel) ?_
              by_cases h_90 : (w32 x_56) = 7
              · refine z_icmp_ne_f (M := M_X12_writeWords) (tgt := 146) dX12_writeWords_107 (by decide) rfl (by decide +kernel) h_90 ?_
                refine z_iload (M := M_X12_writeWords) dX12_writeWords_110 rfl ?_
                by_cases h_91 : 0 < (w32 x_59)
                · refine z_if_le_f (M := M_X12_writeWords) (tgt := 146) dX12_writeWords_112 (by decide) rfl h_91 ?_
                  exact J_88
                · refine z_if_le_t (M := M_X12_writeWords) (tgt := 146) dX12_writeWords_112 (by decide) rfl (Int.not_lt.mp h_91) ?_
                  exact absurd h_87 (fun q => h_91 q.2)
              · refine z_icmp_ne_t (M := M_X12_writeWords) (tgt := 146) dX12_writeWords_107 (by decide) rfl (by decide +kernel) h_90 ?_
                exact absurd h_87 (fun q => h_90 q.1)
            · have J_89 : YY l E M_X12_writeWords 9 0 0 (pS (some (vi r)) σ') 146 [some (vr 277), some (vi slot_0), some (zv more_44), some (vi x_56), some (vi x_59)] [] σ_63 0 0 := by
                obtain ⟨v_73, he_70, hk_71⟩ := bd_e H
                have J_86 : ∀ σ_81, v_73 = σ_81 → YY l E M_X12_writeWords 9 0 0 (pS (some (vi r)) σ') 167 [some (vr 277), some (vi slot_0), some (zv more_44), some (vi x_56), some (vi x_59)] [] σ_81 0 0 := by
                  intro σ_81 e
                  have H := hk_71
                  rw [e] at H
                  refine z_aload_n (M := M_X12_writeWords) dX12_writeWords_167 rfl ?_
                  obtain ⟨⟨x_84, σ_83⟩, hc_82, H⟩ := bd_e H
                  refine z_callV (M := M_X12_writeWords) (M' := M_X12_leadsOn) (as := []) (rest := []) rfl rfl dX12_writeWords_168 m_X12_leadsOn t_3070 t_3072 s_206 (c_X12_leadsOn hl  hc_82) rfl rfl ly_277 rfl (Nat.le_of_ble_eq_true rfl) (Nat.le_of_ble_eq_true rfl) (Nat.le_of_ble_eq_true rfl) (Nat.le_of_ble_eq_true rfl) ?_
                  refine z_st (st' := [zv x_84]) rfl ?_
                  refine z_zstore_n (M := M_X12_writeWords) (lv' := [some (vr 277), some (vi slot_0), some (zv x_84), some (vi x_56), some (vi x_59)]) dX12_writeWords_171 (Nat.le_of_ble_eq_true rfl) rfl rfl ?_
                  refine z_goto (M := M_X12_writeWords) (tgt := 78) dX12_writeWords_172 (by decide) ?_
                  refine z_le (lv' := [some (vr 277), some (vi slot_0), some (zv x_84), none, none]) ⟨Or.inr rfl, Or.inr rfl, Or.inr rfl, Or.inl rfl, Or.inl rfl, trivial⟩ ?_
                  exact K_51 _ (Option.some.inj H).symm
                have H := he_70
                refine z_iload_n (M := M_X12_writeWords) dX12_writeWords_146 rfl ?_
                refine z_iconst (M := M_X12_writeWords) dX12_writeWords_147 ?_
                rcases if_e H with ⟨h_74, H⟩ | ⟨h_74, H⟩
                · refine z_icmp_ge_f (M := M_X12_writeWords) (tgt := 161) dX12_writeWords_148 (by decide) rfl (by decide +kernel) h_74 ?_
                  refine z_aload_n (M := M_X12_writeWords) dX12_writeWords_151 rfl ?_
                  refine z_iload_n (M := M_X12_writeWords) dX12_writeWords_152 rfl ?_
                  refine z_iload (M := M_X12_writeWords) dX12_writeWords_153 rfl ?_
                  obtain ⟨σ_76, hc_75, H⟩ := bd_e H
                  refine z_callV (M := M_X12_writeWords) (M' := M_X12_putBody) (as := [vi x_56, vi x_59]) (rest := []) rfl rfl dX12_writeWords_155 m_X12_putBody t_3049 t_3051 s_201 (c_X12_putBody hl  hc_75) rfl rfl ly_277 rfl (Nat.le_of_ble_eq_true rfl) (Nat.le_of_ble_eq_true rfl) (Nat.le_of_ble_eq_true rfl) (Nat.le_of_ble_eq_true rfl) ?_
                  refine z_st (st' := []) rfl ?_
                  refine z_goto (M := M_X12_writeWords) (tgt := 167) dX12_writeWords_158 (by decide) ?_
                  exact J_86 _ (Option.some.inj H).symm
                · refine z_icmp_ge_t (M := M_X12_writeWords) (tgt := 161) dX12_writeWords_148 (by decide) rfl (by decide +kernel) (Int.not_lt.mp h_74) ?_
                  refine z_aload_n (M := M_X12_writeWords) dX12_writeWords_161 rfl ?_
                  refine z_iload (M := M_X12_writeWords) dX12_writeWords_162 rfl ?_
                  obtain ⟨σ_79, hc_78, H⟩ := bd_e H
                  refine z_callV (M := M_X12_writeWords) (M' := M_X12_putParts) (as := [vi x_59]) (rest := []) rfl rfl dX12_writeWords_164 m_X12_putParts t_3066 t_3068 s_205 (c_X12_putParts hl  hc_78) rfl rfl ly_277 rfl (Nat.le_of_ble_eq_true rfl) (Nat.le_of_ble_eq_true rfl) (Nat.le_of_ble_eq_true rfl) (Nat.le_of_ble_eq_true rfl) ?_
                  refine z_st (st' := []) rfl ?_
                  exact J_86 _ (Option.some.inj H).symm
              refine z_iload_n (M := M_X12_writeWords) dX12_writeWords_104 rfl ?_
              refine z_bipush (M := M_X12_writeWords) dX12_writeWords_105 (by decide +kernel) ?_
              by_cases h_92 : (w32 x_56) = 7
              · refine z_icmp_ne_f (M := M_X12_writeWords) (tgt := 146) dX12_writeWords_107 (by decide) rfl (by decide +kernel) h_92 ?_
                refine z_iload (M := M_X12_writeWords) dX12_writeWords_110 rfl ?_
                by_cases h_93 : 0 < (w32 x_59)
                · refine z_if_le_f (M := M_X12_writeWords) (tgt := 146) dX12_writeWords_112 (by decide) rfl h_93 ?_
                  exact absurd ⟨h_92, h_93⟩ h_87
                · refine z_if_le_t (M := M_X12_writeWords) (tgt := 146) dX12_writeWords_112 (by decide) rfl (Int.not_lt.mp h_93) ?_
                  exact J_89
              · refine z_icmp_ne_t (M := M_X12_writeWords) (tgt := 146) dX12_writeWords_107 (by decide) rfl (by decide +kernel) h_92 ?_
                exact J_89
          · refine z_zeq_t (M := M_X12_writeWords) (tgt := 175) dX12_writeWords_79 (by decide) h_53 ?_
            exact J_97 _ _ (K_52 _ (Option.some.inj H).symm).symm
      have H := he_99
      refine z_aload_n (M := M_X12_writeWords) dX12_writeWords_26 rfl ?_
      refine z_iload_n (M := M_X12_writeWords) dX12_writeWords_27 rfl ?_
      obtain ⟨x_31, hc_30, H⟩ := bd_e H
      refine z_callV (M := M_X12_writeWords) (M' := M_X12_has) (as := [vi slot_0]) (rest := [vr 277]) rfl rfl dX12_writeWords_28 m_X12_has t_3033 t_3035 s_197 (c_X12_has hl  hc_30) rfl rfl ly_277 rfl (Nat.le_of_ble_eq_true rfl) (Nat.le_of_ble_eq_true rfl) (Nat.le_of_ble_eq_true rfl) (Nat.le_of_ble_eq_true rfl) ?_
      refine z_st (st' := [zv x_31, vr 277]) rfl ?_
      rcases if_e H with ⟨h_32, H⟩ | ⟨h_32, H⟩
      · refine z_zne_t (M := M_X12_writeWords) (tgt := 38) dX12_writeWords_31 (by decide) h_32 ?_
        refine z_zconst (M := M_X12_writeWords) (b := false) dX12_writeWords_38 rfl ?_
        exact J_101 _ (Option.some.inj H).symm
      · refine z_zne_f (M := M_X12_writeWords) (tgt := 38) dX12_writeWords_31 (by decide) h_32 ?_
        refine z_zconst (M := M_X12_writeWords) (b := true) dX12_writeWords_34 rfl ?_
        refine z_goto (M := M_X12_writeWords) (tgt := 39) dX12_writeWords_35 (by decide) ?_
        exact J_101 _ (Option.some.inj H).symm
  refine z_iload_n (M := M_X12_writeWords) dX12_writeWords_6 rfl ?_
  refine z_callS (M := M_X12_writeWords) (M' := M_X12_isSlot) (as := [vi slot_0]) (rest := [vr 277]) rfl rfl dX12_writeWords_7 m_X12_isSlot t_2841 t_2842 (c_X12_isSlot hl  rfl) rfl rfl (Nat.le_of_ble_eq_true rfl) (Nat.le_of_ble_eq_true rfl) (Nat.le_of_ble_eq_true rfl) (Nat.le_of_ble_eq_true rfl) ?_
  refine z_st (st' := [zv (fR_isSlot slot_0), vr 277]) rfl ?_
  by_cases h_102 : (fR_isSlot slot_0) = true
  · refine z_zne_t (M := M_X12_writeWords) (tgt := 17) dX12_writeWords_10 (by decide) h_102 ?_
    refine z_iconst (M := M_X12_writeWords) dX12_writeWords_17 ?_
    exact z_st (by rw [zv_f (p := ¬ ((fR_isSlot slot_0) = true)) (not_not_intro h_102)]) J_25
  · refine z_zne_f (M := M_X12_writeWords) (tgt := 17) dX12_writeWords_10 (by decide) h_102 ?_
    refine z_iconst (M := M_X12_writeWords) dX12_writeWords_13 ?_
    refine z_goto (M := M_X12_writeWords) (tgt := 18) dX12_writeWords_14 (by decide) ?_
    exact z_st (by rw [zv_t (p := ¬ ((fR_isSlot slot_0) = true)) h_102]) J_25
theorem c_X12_putBytes (hl : l.stackTraces = false) {σ : SG} {v_0 : Int} {n_0 : Int} {order_0 : Int} {σ' : SG}  (H : fR_putBytes σ v_0 n_0 order_0 = some σ') : en_S l E M_X12_putBytes 2 0 0 [vr 277, vl v_0, vi n_0, vi order_0] σ (pS (none) σ') := by
  unfold fR_putBytes at H
  refine z_mk (lv := [some (vr 277), some (vl v_0), none, some (vi n_0), some (vi order_0), none, none]) m_X12_putBytes rfl hl (Nat.le_of_ble_eq_true rfl) rfl ?_
  refine z_iconst (M := M_X12_putBytes) dX12_putBytes_0 ?_
  refine z_istore (M := M_X12_putBytes) (lv' := [some (vr 277), some (vl v_0), none, some (vi n_0), some (vi order_0), some (vi 0), none]) dX12_putBytes_1 (Nat.le_of_ble_eq_true rfl) rfl rfl ?_
  obtain ⟨rl_6, hw_3, hk_4⟩ := bd_e H
  have J_19 : ∀ k_17 σ_18, rl_6 = (k_17, σ_18) → YY l E M_X12_putBytes 2 0 0 (pS (none) σ') 45 [some (vr 277), some (vl v_0), none, some (vi n_0), some (vi order_0), some (vi k_17), none] [] σ_18 0 0 := by
    intro k_17 σ_18 e
    have H := hk_4
    rw [e] at H
    cases H
    exact z_vret (M := M_X12_putBytes) dX12_putBytes_45 rfl (Nat.le_of_ble_eq_true rfl) (Nat.le_of_ble_eq_true rfl) ⟨rfl, rfl⟩
  refine whl_go hw_3 (fun (k_1, σ_2) => YY l E M_X12_putBytes 2 0 0 (pS (none) σ') 3 [some (vr 277), some (vl v_0), none, some (vi n_0), some (vi order_0), some (vi k_1), none] [] σ_2 0 0) ?_
  rintro ⟨k_1, σ_2⟩ o_7 H K_8 K_9
  refine z_iload (M := M_X12_putBytes) dX12_putBytes_3 rfl ?_
  refine z_iload_n (M := M_X12_putBytes) dX12_putBytes_5 rfl ?_
  rcases if_e H with ⟨h_10, H⟩ | ⟨h_10, H⟩
  · refine z_icmp_ge_f (M := M_X12_putBytes) (tgt := 45) dX12_putBytes_6 (by decide) rfl rfl h_10 ?_
    have J_11 : YY l E M_X12_putBytes 2 0 0 (pS (none) σ') 25 [some (vr 277), some (vl v_0), none, some (vi n_0), some (vi order_0), some (vi k_1), none] [vi (if (w32 order_0) = 0 then ((n_0 - 1) - k_1) else k_1)] σ_2 0 0 := by
      refine z_istore (M := M_X12_putBytes) (lv' := [some (vr 277), some (vl v_0), none, some (vi n_0), some (vi order_0), some (vi k_1), some (vi (if (w32 order_0) = 0 then ((n_0 - 1) - k_1) else k_1))]) dX12_putBytes_25 (Nat.le_of_ble_eq_true rfl) rfl rfl ?_
      refine z_aload_n (M := M_X12_putBytes) dX12_putBytes_27 rfl ?_
      refine z_lload_n (M := M_X12_putBytes) dX12_putBytes_28 rfl ?_
      refine z_bipush (M := M_X12_putBytes) dX12_putBytes_29 (by decide +kernel) ?_
      refine z_iload (M := M_X12_putBytes) dX12_putBytes_31 rfl ?_
      refine z_imul (M := M_X12_putBytes) dX12_putBytes_33 ?_
      refine z_lshr (M := M_X12_putBytes) dX12_putBytes_34 ?_
      refine z_l2i (M := M_X12_putBytes) dX12_putBytes_35 ?_
      obtain ⟨σ_13, hc_12, H⟩ := bd_e H
      refine z_callV (M := M_X12_putBytes) (M' := M_X12_put) (as := [vi (q_lsr v_0 (8 * (if (w32 order_0) = 0 then ((n_0 - 1) - k_1) else k_1)))]) (rest := []) rfl rfl dX12_putBytes_36 m_X12_put t_3045 t_3047 s_200 (c_X12_put hl  hc_12) rfl rfl ly_277 rfl (Nat.le_of_ble_eq_true rfl) (Nat.le_of_ble_eq_true rfl) (Nat.le_of_ble_eq_true rfl) (Nat.le_of_ble_eq_true rfl) ?_
      refine z_st (st' := []) rfl ?_
      refine z_iinc (M := M_X12_putBytes) (lv' := [some (vr 277), some (vl v_0), none, some (vi n_0), some (vi order_0), some (vi (k_1 + 1)), some (vi (if (w32 order_0) = 0 then ((n_0 - 1) - k_1) else k_1))]) dX12_putBytes_39 rfl (Nat.le_of_ble_eq_true rfl) rfl rfl ?_
      refine z_goto (M := M_X12_putBytes) (tgt := 3) dX12_putBytes_42 (by decide) ?_
      refine z_le (lv' := [some (vr 277), some (vl v_0), none, some (vi n_0), some (vi order_0), some (vi (k_1 + 1)), none]) ⟨Or.inr rfl, Or.inr rfl, Or.inl rfl, Or.inr rfl, Or.inr rfl, Or.inr rfl, Or.inl rfl, trivial⟩ ?_
      exact K_8 _ (Option.some.inj H).symm
    refine z_iload (M := M_X12_putBytes) dX12_putBytes_9 rfl ?_
    by_cases h_15 : (w32 order_0) = 0
    · refine z_if_ne_f (M := M_X12_putBytes) (tgt := 23) dX12_putBytes_11 (by decide) rfl h_15 ?_
      refine z_iload_n (M := M_X12_putBytes) dX12_putBytes_14 rfl ?_
      refine z_iconst (M := M_X12_putBytes) dX12_putBytes_15 ?_
      refine z_isub (M := M_X12_putBytes) dX12_putBytes_16 ?_
      refine z_iload (M := M_X12_putBytes) dX12_putBytes_17 rfl ?_
      refine z_isub (M := M_X12_putBytes) dX12_putBytes_19 ?_
      refine z_goto (M := M_X12_putBytes) (tgt := 25) dX12_putBytes_20 (by decide) ?_
      exact z_st (by rw [if_pos (c := (w32 order_0) = 0) h_15]) J_11
    · refine z_if_ne_t (M := M_X12_putBytes) (tgt := 23) dX12_putBytes_11 (by decide) rfl h_15 ?_
      refine z_iload (M := M_X12_putBytes) dX12_putBytes_23 rfl ?_
      exact z_st (by rw [if_neg (c := (w32 order_0) = 0) h_15]) J_11
  · refine z_icmp_ge_t (M := M_X12_putBytes) (tgt := 45) dX12_putBytes_6 (by decide) rfl rfl (Int.not_lt.mp h_10) ?_
    exact J_19 _ _ (K_9 _ (Option.some.inj H).symm).symm
theorem c_X12_fraction (hl : l.stackTraces = false) {σ : SG} {v_0 : Int} {r : Int}  (H : fR_fraction σ v_0 = some r) : en_S l E M_X12_fraction 1 0 0 [vr 277, vi v_0] σ (pS (some (vl r)) σ) := by
  unfold fR_fraction at H
  refine z_mk (lv := [some (vr 277), some (vi v_0), none, none, none, none, none, none, none, none, none]) m_X12_fraction rfl hl (Nat.le_of_ble_eq_true rfl) rfl ?_
  refine z_iload_n (M := M_X12_fraction) dX12_fraction_0 rfl ?_
  rcases if_e H with ⟨h_1, H⟩ | ⟨h_1, H⟩
  · refine z_if_ne_f (M := M_X12_fraction) (tgt := 6) dX12_fraction_1 (by decide) rfl h_1 ?_
    refine z_lconst (M := M_X12_fraction) (m := 0) dX12_fraction_4 (by decide +kernel) ?_
    cases H
    exact z_lret (M := M_X12_fraction) dX12_fraction_5 rfl (Nat.le_of_ble_eq_true rfl) (Nat.le_of_ble_eq_true rfl) ⟨rfl, rfl⟩
  · refine z_if_ne_t (M := M_X12_fraction) (tgt := 6) dX12_fraction_1 (by decide) rfl h_1 ?_
    have J_2 : YY l E M_X12_fraction 1 0 0 (pS (some (vl r)) σ) 18 [some (vr 277), some (vi v_0), none, none, none, none, none, none, none, none, none] [vl (if (w32 v_0) < 0 then (-(w32 v_0)) else (w32 v_0))] σ 0 0 := by
      refine z_lstore_n (M := M_X12_fraction) (lv' := [some (vr 277), some (vi v_0), some (vl (if (w32 v_0) < 0 then (-(w32 v_0)) else (w32 v_0))), none, none, none, none, none, none, none, none]) dX12_fraction_18 (Nat.le_of_ble_eq_true rfl) rfl rfl ?_
      refine z_aload_n (M := M_X12_fraction) dX12_fraction_19 rfl ?_
      refine z_getL (M := M_X12_fraction) (ci := 15) (C := RX12) (T := TX12) (Nf := 135) (ty := tyX12) cl15 dX12_fraction_20 ly_277 2 (by decide) t_2393 rfl rfl ?_
      refine z_lstore (M := M_X12_fraction) (lv' := [some (vr 277), some (vi v_0), some (vl (if (w32 v_0) < 0 then (-(w32 v_0)) else (w32 v_0))), none, some (vl (σ kR_unit 0)), none, none, none, none, none, none]) dX12_fraction_23 (Nat.le_of_ble_eq_true rfl) rfl rfl ?_
      refine z_iconst (M := M_X12_fraction) dX12_fraction_25 ?_
      refine z_istore (M := M_X12_fraction) (lv' := [some (vr 277), some (vi v_0), some (vl (if (w32 v_0) < 0 then (-(w32 v_0)) else (w32 v_0))), none, some (vl (σ kR_unit 0)), none, some (vi 0), none, none, none, none]) dX12_fraction_26 (Nat.le_of_ble_eq_true rfl) rfl rfl ?_
      obtain ⟨rl_8, hw_5, hk_6⟩ := bd_e H
      have J_89 : ∀ b_15 e_16, rl_8 = (b_15, e_16) → YY l E M_X12_fraction 1 0 0 (pS (some (vl r)) σ) 53 [some (vr 277), some (vi v_0), some (vl (if (w32 v_0) < 0 then (-(w32 v_0)) else (w32 v_0))), none, some (vl b_15), none, some (vi e_16), none, none, none, none] [] σ 0 0 := by
        intro b_15 e_16 e
        have H := hk_6
        rw [e] at H
        obtain ⟨rl_22, hw_19, hk_20⟩ := bd_e H
        have J_88 : ∀ a_29 e_30, rl_22 = (a_29, e_30) → YY l E M_X12_fraction 1 0 0 (pS (some (vl r)) σ) 72 [some (vr 277), some (vi v_0), some (vl a_29), none, some (vl b_15), none, some (vi e_30), none, none, none, none] [] σ 0 0 := by
          intro a_29 e_30 e
          have H := hk_20
          rw [e] at H
          refine z_lconst (M := M_X12_fraction) (m := 0) dX12_fraction_72 (by decide +kernel) ?_
          refine z_lstore (M := M_X12_fraction) (lv' := [some (vr 277), some (vi v_0), some (vl a_29), none, some (vl b_15), none, some (vi e_30), some (vl 0), none, none, none]) dX12_fraction_73 (Nat.le_of_ble_eq_true rfl) rfl rfl ?_
          refine z_iconst (M := M_X12_fraction) dX12_fraction_75 ?_
          refine z_istore (M := M_X12_fraction) (lv' := [some (vr 277), some (vi v_0), some (vl a_29), none, some (vl b_15), none, some (vi e_30), some (vl 0), none, some (vi 0), none]) dX12_fraction_76 (Nat.le_of_ble_eq_true rfl) rfl rfl ?_
          obtain ⟨rl_37, hw_34, hk_35⟩ := bd_e H
          have J_87 : ∀ a_54 m_55 k_56, rl_37 = (a_54, m_55, k_56) → YY l E M_X12_fraction 1 0 0 (pS (some (vl r)) σ) 123 [some (vr 277), some (vi v_0), some (vl a_54), none, some (vl b_15), none, some (vi e_30), some (vl m_55), none, some (vi k_56), none] [] σ 0 0 := by
            intro a_54 m_55 k_56 e
            have H := hk_35
            rw [e] at H
            obtain ⟨v_60, he_57, hk_58⟩ := bd_e H
            have J_86 : ∀ m_72, v_60 = m_72 → YY l E M_X12_fraction 1 0 0 (pS (some (vl r)) σ) 152 [some (vr 277), some (vi v_0), some (vl a_54), none, some (vl b_15), none, some (vi e_30), some (vl m_72), none, none, none] [] σ 0 0 := by
              intro m_72 e
              have H := hk_58
              rw [e] at H
              obtain ⟨v_76, he_73, hk_74⟩ := bd_e H
              have J_85 : ∀ e_80 m_81, v_76 = (e_80, m_81) → YY l E M_X12_fraction 1 0 0 (pS (some (vl r)) σ) 169 [some (vr 277), some (vi v_0), some (vl a_54), none, some (vl b_15), none, some (vi e_80), some (vl m_81), none, none, none] [] σ 0 0 := by
                intro e_80 m_81 e
                have H := hk_74
                rw [e] at H
                refine z_iload (M := M_X12_fraction) dX12_fraction_169 rfl ?_
                refine z_sipush (M := M_X12_fraction) dX12_fraction_171 (by decide +kernel) ?_
                refine z_iadd (M := M_X12_fraction) dX12_fraction_174 ?_
                refine z_i2l (M := M_X12_fraction) dX12_fraction_175 ?_
                refine z_bipush (M := M_X12_fraction) dX12_fraction_176 (by decide +kernel) ?_
                refine z_lshl (M := M_X12_fraction) dX12_fraction_178 ?_
                refine z_lload (M := M_X12_fraction) dX12_fraction_179 rfl ?_
                refine z_ldc2 (M := M_X12_fraction) (n := 4503599627370495) dX12_fraction_181 t_2995 (by decide +kernel) ?_
                refine z_land (M := M_X12_fraction) dX12_fraction_184 ?_
                refine z_lor (M := M_X12_fraction) dX12_fraction_185 ?_
                obtain ⟨x_82, x_82_e, H⟩ := lt_e H
                refine z_st (congrArg (fun z => vl z :: []) x_82_e) ?_
                refine z_lstore (M := M_X12_fraction) (lv' := [some (vr 277), some (vi v_0), some (vl a_54), none, some (vl b_15), none, some (vi e_80), some (vl m_81), none, some (vl x_82), none]) dX12_fraction_186 (Nat.le_of_ble_eq_true rfl) rfl rfl ?_
                have J_83 : YY l E M_X12_fraction 1 0 0 (pS (some (vl r)) σ) 203 [some (vr 277), some (vi v_0), some (vl a_54), none, some (vl b_15), none, some (vi e_80), some (vl m_81), none, some (vl x_82), none] [vl (if (w32 v_0) < 0 then (q_lor x_82 (-9223372036854775808)) else x_82)] σ 0 0 := by
                  cases H
                  exact z_lret (M := M_X12_fraction) dX12_fraction_203 rfl (Nat.le_of_ble_eq_true rfl) (Nat.le_of_ble_eq_true rfl) ⟨rfl, rfl⟩
                refine z_iload_n (M := M_X12_fraction) dX12_fraction_188 rfl ?_
                by_cases h_84 : (w32 v_0) < 0
                · refine z_if_ge_f (M := M_X12_fraction) (tgt := 201) dX12_fraction_189 (by decide) rfl h_84 ?_
                  refine z_lload (M := M_X12_fraction) dX12_fraction_192 rfl ?_
                  refine z_ldc2 (M := M_X12_fraction) (n := (-9223372036854775808)) dX12_fraction_194 t_3093 (by decide +kernel) ?_
                  refine z_lor (M := M_X12_fraction) dX12_fraction_197 ?_
                  refine z_goto (M := M_X12_fraction) (tgt := 203) dX12_fraction_198 (by decide) ?_
                  exact z_st (by rw [if_pos (c := (w32 v_0) < 0) h_84]) J_83
                · refine z_if_ge_t (M := M_X12_fraction) (tgt := 201) dX12_fraction_189 (by decide) rfl (Int.not_lt.mp h_84) ?_
                  refine z_lload (M := M_X12_fraction) dX12_fraction_201 rfl ?_
                  exact z_st (by rw [if_neg (c := (w32 v_0) < 0) h_84]) J_83
              have H := he_73
              refine z_lload (M := M_X12_fraction) dX12_fraction_152 rfl ?_
              refine z_ldc2 (M := M_X12_fraction) (n := 9007199254740992) dX12_fraction_154 t_3092 (by decide +kernel) ?_
              refine z_lcmp (M := M_X12_fraction) dX12_fraction_157 ?_
              rcases if_e H with ⟨h_77, H⟩ | ⟨h_77, H⟩
              · refine z_lif_ne_f (M := M_X12_fraction) (tgt := 169) dX12_fraction_158 (by decide) rfl (by decide +kernel) h_77 ?_
                refine z_ldc2 (M := M_X12_fraction) (n := 4503599627370496) dX12_fraction_161 t_3008 (by decide +kernel) ?_
                refine z_lstore (M := M_X12_fraction) (lv' := [some (vr 277), some (vi v_0), some (vl a_54), none, some (vl b_15), none, some (vi e_30), some (vl 4503599627370496), none, none, none]) dX12_fraction_164 (Nat.le_of_ble_eq_true rfl) rfl rfl ?_
                refine z_iinc (M := M_X12_fraction) (lv' := [some (vr 277), some (vi v_0), some (vl a_54), none, some (vl b_15), none, some (vi (e_30 + 1)), some (vl 4503599627370496), none, none, none]) dX12_fraction_166 rfl (Nat.le_of_ble_eq_true rfl) rfl rfl ?_
                exact J_85 _ _ (Option.some.inj H).symm
              · refine z_lif_ne_t (M := M_X12_fraction) (tgt := 169) dX12_fraction_158 (by decide) rfl (by decide +kernel) h_77 ?_
                exact J_85 _ _ (Option.some.inj H).symm
            have H := he_57
            rcases if_e H with ⟨h_63, H⟩ | ⟨h_63, H⟩
            · have J_64 : YY l E M_X12_fraction 1 0 0 (pS (some (vl r)) σ) 146 [some (vr 277), some (vi v_0), some (vl a_54), none, some (vl b_15), none, some (vi e_30), some (vl m_55), none, some (vi k_56), none] [] σ 0 0 := by
                refine z_lload (M := M_X12_fraction) dX12_fraction_146 rfl ?_
                refine z_lconst (M := M_X12_fraction) (m := 1) dX12_fraction_148 (by decide +kernel) ?_
                refine z_ladd (M := M_X12_fraction) dX12_fraction_149 ?_
                refine z_lstore (M := M_X12_fraction) (lv' := [some (vr 277), some (vi v_0), some (vl a_54), none, some (vl b_15), none, some (vi e_30), some (vl (m_55 + 1)), none, some (vi k_56), none]) dX12_fraction_150 (Nat.le_of_ble_eq_true rfl) rfl rfl ?_
                refine z_le (lv' := [some (vr 277), some (vi v_0), some (vl a_54), none, some (vl b_15), none, some (vi e_30), some (vl (m_55 + 1)), none, none, none]) ⟨Or.inr rfl, Or.inr rfl, Or.inr rfl, Or.inl rfl, Or.inr rfl, Or.inl rfl, Or.inr rfl, Or.inr rfl, Or.inl rfl, Or.inl rfl, Or.inl rfl, trivial⟩ ?_
                exact J_86 _ (Option.some.inj H).symm
              refine z_lload_n (M := M_X12_fraction) dX12_fraction_123 rfl ?_
              refine z_lload (M := M_X12_fraction) dX12_fraction_124 rfl ?_
              refine z_lcmp (M := M_X12_fraction) dX12_fraction_126 ?_
              by_cases h_66 : (w64 b_15) < (w64 a_54)
              · refine z_lif_gt_t (M := M_X12_fraction) (tgt := 146) dX12_fraction_127 (by decide) rfl rfl h_66 ?_
                exact J_64
              · refine z_lif_gt_f (M := M_X12_fraction) (tgt := 146) dX12_fraction_127 (by decide) rfl rfl (Int.not_lt.mp h_66) ?_
                refine z_lload_n (M := M_X12_fraction) dX12_fraction_130 rfl ?_
                refine z_lload (M := M_X12_fraction) dX12_fraction_131 rfl ?_
                refine z_lcmp (M := M_X12_fraction) dX12_fraction_133 ?_
                by_cases h_67 : (w64 a_54) = (w64 b_15)
                · refine z_lif_ne_f (M := M_X12_fraction) (tgt := 152) dX12_fraction_134 (by decide) rfl rfl h_67 ?_
                  refine z_lload (M := M_X12_fraction) dX12_fraction_137 rfl ?_
                  refine z_lconst (M := M_X12_fraction) (m := 1) dX12_fraction_139 (by decide +kernel) ?_
                  refine z_land (M := M_X12_fraction) dX12_fraction_140 ?_
                  refine z_lconst (M := M_X12_fraction) (m := 1) dX12_fraction_141 (by decide +kernel) ?_
                  refine z_lcmp (M := M_X12_fraction) dX12_fraction_142 ?_
                  by_cases h_68 : (w64 (q_lan m_55 1)) = 1
                  · refine z_lif_ne_f (M := M_X12_fraction) (tgt := 152) dX12_fraction_143 (by decide) rfl (by decide +kernel) h_68 ?_
                    exact J_64
                  · refine z_lif_ne_t (M := M_X12_fraction) (tgt := 152) dX12_fraction_143 (by decide) rfl (by decide +kernel) h_68 ?_
                    exact absurd h_63 (fun q => q.elim h_66 (fun q => h_68 q.2))
                · refine z_lif_ne_t (M := M_X12_fraction) (tgt := 152) dX12_fraction_134 (by decide) rfl rfl h_67 ?_
                  exact absurd h_63 (fun q => q.elim h_66 (fun q => h_67 q.1))
            · have J_65 : YY l E M_X12_fraction 1 0 0 (pS (some (vl r)) σ) 152 [some (vr 277), some (vi v_0), some (vl a_54), none, some (vl b_15), none, some (vi e_30), some (vl m_55), none, some (vi k_56), none] [] σ 0 0 := by
                refine z_le (lv' := [some (vr 277), some (vi v_0), some (vl a_54), none, some (vl b_15), none, some (vi e_30), some (vl m_55), none, none, none]) ⟨Or.inr rfl, Or.inr rfl, Or.inr rfl, Or.inl rfl, Or.inr rfl, Or.inl rfl, Or.inr rfl, Or.inr rfl, Or.inl rfl, Or.inl rfl, Or.inl rfl, trivial⟩ ?_
                exact J_86 _ (Option.some.inj H).symm
              refine z_lload_n (M := M_X12_fraction) dX12_fraction_123 rfl ?_
              refine z_lload (M := M_X12_fraction) dX12_fraction_124 rfl ?_
              refine z_lcmp (M := M_X12_fraction) dX12_fraction_126 ?_
              by_cases h_69 : (w64 b_15) < (w64 a_54)
              · refine z_lif_gt_t (M := M_X12_fraction) (tgt := 146) dX12_fraction_127 (by decide) rfl rfl h_69 ?_
                exact absurd (Or.inl h_69) h_63
              · refine z_lif_gt_f (M := M_X12_fraction) (tgt := 146) dX12_fraction_127 (by decide) rfl rfl (Int.not_lt.mp h_69) ?_
                refine z_lload_n (M := M_X12_fraction) dX12_fraction_130 rfl ?_
                refine z_lload (M := M_X12_fraction) dX12_fraction_131 rfl ?_
                refine z_lcmp (M := M_X12_fraction) dX12_fraction_133 ?_
                by_cases h_70 : (w64 a_54) = (w64 b_15)
                · refine z_lif_ne_f (M := M_X12_fraction) (tgt := 152) dX12_fraction_134 (by decide) rfl rfl h_70 ?_
                  refine z_lload (M := M_X12_fraction) dX12_fraction_137 rfl ?_
                  refine z_lconst (M := M_X12_fraction) (m := 1) dX12_fraction_139 (by decide +kernel) ?_
                  refine z_land (M := M_X12_fraction) dX12_fraction_140 ?_
                  refine z_lconst (M := M_X12_fraction) (m := 1) dX12_fraction_141 (by decide +kernel) ?_
                  refine z_lcmp (M := M_X12_fraction) dX12_fraction_142 ?_
                  by_cases h_71 : (w64 (q_lan m_55 1)) = 1
                  · refine z_lif_ne_f (M := M_X12_fraction) (tgt := 152) dX12_fraction_143 (by decide) rfl (by decide +kernel) h_71 ?_
                    exact absurd (Or.inr ⟨h_70, h_71⟩) h_63
                  · refine z_lif_ne_t (M := M_X12_fraction) (tgt := 152) dX12_fraction_143 (by decide) rfl (by decide +kernel) h_71 ?_
                    exact J_65
                · refine z_lif_ne_t (M := M_X12_fraction) (tgt := 152) dX12_fraction_134 (by decide) rfl rfl h_70 ?_
                  exact J_65
          refine whl_go hw_34 (fun (a_31, m_32, k_33) => YY l E M_X12_fraction 1 0 0 (pS (some (vl r)) σ) 78 [some (vr 277), some (vi v_0), some (vl a_31), none, some (vl b_15), none, some (vi e_30), some (vl m_32), none, some (vi k_33), none] [] σ 0 0) ?_
          rintro ⟨a_31, m_32, k_33⟩ o_38 H K_39 K_40
          refine z_iload (M := M_X12_fraction) dX12_fraction_78 rfl ?_
          refine z_bipush (M := M_X12_fraction) dX12_fraction_80 (by decide +kernel) ?_
          rcases if_e H with ⟨h_41, H⟩ | ⟨h_41, H⟩
          · refine z_icmp_ge_f (M := M_X12_fraction) (tgt := 123) dX12_fraction_82 (by decide) rfl (by decide +kernel) h_41 ?_
            refine z_ldc2 (M := M_X12_fraction) (n := 2) dX12_fraction_85 t_3091 (by decide +kernel) ?_
            refine z_lload (M := M_X12_fraction) dX12_fraction_88 rfl ?_
            refine z_lmul (M := M_X12_fraction) dX12_fraction_90 ?_
            refine z_lstore (M := M_X12_fraction) (lv' := [some (vr 277), some (vi v_0), some (vl a_31), none, some (vl b_15), none, some (vi e_30), some (vl (2 * m_32)), none, some (vi k_33), none]) dX12_fraction_91 (Nat.le_of_ble_eq_true rfl) rfl rfl ?_
            obtain ⟨v_45, he_42, hk_43⟩ := bd_e H
            have J_52 : ∀ a_49 m_50, v_45 = (a_49, m_50) → YY l E M_X12_fraction 1 0 0 (pS (some (vl r)) σ) 111 [some (vr 277), some (vi v_0), some (vl a_49), none, some (vl b_15), none, some (vi e_30), some (vl m_50), none, some (vi k_33), none] [] σ 0 0 := by
              intro a_49 m_50 e
              have H := hk_43
              rw [e] at H
              refine z_ldc2 (M := M_X12_fraction) (n := 2) dX12_fraction_111 t_3091 (by decide +kernel) ?_
              refine z_lload_n (M := M_X12_fraction) dX12_fraction_114 rfl ?_
              refine z_lmul (M := M_X12_fraction) dX12_fraction_115 ?_
              refine z_lstore_n (M := M_X12_fraction) (lv' := [some (vr 277), some (vi v_0), some (vl (2 * a_49)), none, some (vl b_15), none, some (vi e_30), some (vl m_50), none, some (vi k_33), none]) dX12_fraction_116 (Nat.le_of_ble_eq_true rfl) rfl rfl ?_
              refine z_iinc (M := M_X12_fraction) (lv' := [some (vr 277), some (vi v_0), some (vl (2 * a_49)), none, some (vl b_15), none, some (vi e_30), some (vl m_50), none, some (vi (k_33 + 1)), none]) dX12_fraction_117 rfl (Nat.le_of_ble_eq_true rfl) rfl rfl ?_
              refine z_goto (M := M_X12_fraction) (tgt := 78) dX12_fraction_120 (by decide) ?_
              exact K_39 _ (Option.some.inj H).symm
            have H := he_42
            refine z_lload_n (M := M_X12_fraction) dX12_fraction_93 rfl ?_
            refine z_lload (M := M_X12_fraction) dX12_fraction_94 rfl ?_
            refine z_lcmp (M := M_X12_fraction) dX12_fraction_96 ?_
            rcases if_e H with ⟨h_46, H⟩ | ⟨h_46, H⟩
            · refine z_lif_lt_f (M := M_X12_fraction) (tgt := 111) dX12_fraction_97 (by decide) rfl rfl h_46 ?_
              refine z_lload (M := M_X12_fraction) dX12_fraction_100 rfl ?_
              refine z_lconst (M := M_X12_fraction) (m := 1) dX12_fraction_102 (by decide +kernel) ?_
              refine z_ladd (M := M_X12_fraction) dX12_fraction_103 ?_
              refine z_lstore (M := M_X12_fraction) (lv' := [some (vr 277), some (vi v_0), some (vl a_31), none, some (vl b_15), none, some (vi e_30), some (vl ((2 * m_32) + 1)), none, some (vi k_33), none]) dX12_fraction_104 (Nat.le_of_ble_eq_true rfl) rfl rfl ?_
              refine z_lload_n (M := M_X12_fraction) dX12_fraction_106 rfl ?_
              refine z_lload (M := M_X12_fraction) dX12_fraction_107 rfl ?_
              refine z_lsub (M := M_X12_fraction) dX12_fraction_109 ?_
              refine z_lstore_n (M := M_X12_fraction) (lv' := [some (vr 277), some (vi v_0), some (vl (a_31 - b_15)), none, some (vl b_15), none, some (vi e_30), some (vl ((2 * m_32) + 1)), none, some (vi k_33), none]) dX12_fraction_110 (Nat.le_of_ble_eq_true rfl) rfl rfl ?_
              exact J_52 _ _ (Option.some.inj H).symm
            · refine z_lif_lt_t (M := M_X12_fraction) (tgt := 111) dX12_fraction_97 (by decide) rfl rfl (Int.not_le.mp h_46) ?_
              exact J_52 _ _ (Option.some.inj H).symm
          · refine z_icmp_ge_t (M := M_X12_fraction) (tgt := 123) dX12_fraction_82 (by decide) rfl (by decide +kernel) (Int.not_lt.mp h_41) ?_
            exact J_87 _ _ _ (K_40 _ (Option.some.inj H).symm).symm
        refine whl_go hw_19 (fun (a_17, e_18) => YY l E M_X12_fraction 1 0 0 (pS (some (vl r)) σ) 53 [some (vr 277), some (vi v_0), some (vl a_17), none, some (vl b_15), none, some (vi e_18), none, none, none, none] [] σ 0 0) ?_
        rintro ⟨a_17, e_18⟩ o_23 H K_24 K_25
        refine z_lload_n (M := M_X12_fraction) dX12_fraction_53 rfl ?_
        refine z_lload (M := M_X12_fraction) dX12_fraction_54 rfl ?_
        refine z_lcmp (M := M_X12_fraction) dX12_fraction_56 ?_
        rcases if_e H with ⟨h_26, H⟩ | ⟨h_26, H⟩
        · refine z_lif_ge_f (M := M_X12_fraction) (tgt := 72) dX12_fraction_57 (by decide) rfl rfl h_26 ?_
          refine z_ldc2 (M := M_X12_fraction) (n := 2) dX12_fraction_60 t_3091 (by decide +kernel) ?_
          refine z_lload_n (M := M_X12_fraction) dX12_fraction_63 rfl ?_
          refine z_lmul (M := M_X12_fraction) dX12_fraction_64 ?_
          refine z_lstore_n (M := M_X12_fraction) (lv' := [some (vr 277), some (vi v_0), some (vl (2 * a_17)), none, some (vl b_15), none, some (vi e_18), none, none, none, none]) dX12_fraction_65 (Nat.le_of_ble_eq_true rfl) rfl rfl ?_
          refine z_iinc (M := M_X12_fraction) (lv' := [some (vr 277), some (vi v_0), some (vl (2 * a_17)), none, some (vl b_15), none, some (vi (e_18 + (-1))), none, none, none, none]) dX12_fraction_66 rfl (Nat.le_of_ble_eq_true rfl) rfl rfl ?_
          refine z_goto (M := M_X12_fraction) (tgt := 53) dX12_fraction_69 (by decide) ?_
          exact K_24 _ (Option.some.inj H).symm
        · refine z_lif_ge_t (M := M_X12_fraction) (tgt := 72) dX12_fraction_57 (by decide) rfl rfl (Int.not_lt.mp h_26) ?_
          exact J_88 _ _ (K_25 _ (Option.some.inj H).symm).symm
      refine whl_go hw_5 (fun (b_3, e_4) => YY l E M_X12_fraction 1 0 0 (pS (some (vl r)) σ) 28 [some (vr 277), some (vi v_0), some (vl (if (w32 v_0) < 0 then (-(w32 v_0)) else (w32 v_0))), none, some (vl b_3), none, some (vi e_4), none, none, none, none] [] σ 0 0) ?_
      rintro ⟨b_3, e_4⟩ o_9 H K_10 K_11
      refine z_lload_n (M := M_X12_fraction) dX12_fraction_28 rfl ?_
      refine z_ldc2 (M := M_X12_fraction) (n := 2) dX12_fraction_29 t_3091 (by decide +kernel) ?_
      refine z_lload (M := M_X12_fraction) dX12_fraction_32 rfl ?_
      refine z_lmul (M := M_X12_fraction) dX12_fraction_34 ?_
      refine z_lcmp (M := M_X12_fraction) dX12_fraction_35 ?_
      rcases if_e H with ⟨h_12, H⟩ | ⟨h_12, H⟩
      · refine z_lif_lt_f (M := M_X12_fraction) (tgt := 53) dX12_fraction_36 (by decide) rfl rfl h_12 ?_
        refine z_ldc2 (M := M_X12_fraction) (n := 2) dX12_fraction_39 t_3091 (by decide +kernel) ?_
        refine z_lload (M := M_X12_fraction) dX12_fraction_42 rfl ?_
        refine z_lmul (M := M_X12_fraction) dX12_fraction_44 ?_
        refine z_lstore (M := M_X12_fraction) (lv' := [some (vr 277), some (vi v_0), some (vl (if (w32 v_0) < 0 then (-(w32 v_0)) else (w32 v_0))), none, some (vl (2 * b_3)), none, some (vi e_4), none, none, none, none]) dX12_fraction_45 (Nat.le_of_ble_eq_true rfl) rfl rfl ?_
        refine z_iinc (M := M_X12_fraction) (lv' := [some (vr 277), some (vi v_0), some (vl (if (w32 v_0) < 0 then (-(w32 v_0)) else (w32 v_0))), none, some (vl (2 * b_3)), none, some (vi (e_4 + 1)), none, none, none, none]) dX12_fraction_47 rfl (Nat.le_of_ble_eq_true rfl) rfl rfl ?_
        refine z_goto (M := M_X12_fraction) (tgt := 28) dX12_fraction_50 (by decide) ?_
        exact K_10 _ (Option.some.inj H).symm
      · refine z_lif_lt_t (M := M_X12_fraction) (tgt := 53) dX12_fraction_36 (by decide) rfl rfl (Int.not_le.mp h_12) ?_
        exact J_89 _ _ (K_11 _ (Option.some.inj H).symm).symm
    refine z_iload_n (M := M_X12_fraction) dX12_fraction_6 rfl ?_
    by_cases h_90 : (w32 v_0) < 0
    · refine z_if_ge_f (M := M_X12_fraction) (tgt := 16) dX12_fraction_7 (by decide) rfl h_90 ?_
      refine z_iload_n (M := M_X12_fraction) dX12_fraction_10 rfl ?_
      refine z_i2l (M := M_X12_fraction) dX12_fraction_11 ?_
      refine z_lneg (M := M_X12_fraction) dX12_fraction_12 ?_
      refine z_goto (M := M_X12_fraction) (tgt := 18) dX12_fraction_13 (by decide) ?_
      exact z_st (by rw [if_pos (c := (w32 v_0) < 0) h_90]) J_2
    · refine z_if_ge_t (M := M_X12_fraction) (tgt := 16) dX12_fraction_7 (by decide) rfl (Int.not_lt.mp h_90) ?_
      refine z_iload_n (M := M_X12_fraction) dX12_fraction_16 rfl ?_
      refine z_i2l (M := M_X12_fraction) dX12_fraction_17 ?_
      exact z_st (by rw [if_neg (c := (w32 v_0) < 0) h_90]) J_2
theorem c_X12_putPoints (hl : l.stackTraces = false) {σ : SG} {n_0 : Int} {order_0 : Int} {σ' : SG}  (H : fR_putPoints σ n_0 order_0 = some σ') : en_S l E M_X12_putPoints 3 0 0 [vr 277, vi n_0, vi order_0] σ (pS (none) σ') := by
  unfold fR_putPoints at H
  refine z_mk (lv := [some (vr 277), some (vi n_0), some (vi order_0), none]) m_X12_putPoints rfl hl (Nat.le_of_ble_eq_true rfl) rfl ?_
  refine z_iconst (M := M_X12_putPoints) dX12_putPoints_0 ?_
  refine z_istore_n (M := M_X12_putPoints) (lv' := [some (vr 277), some (vi n_0), some (vi order_0), some (vi 0)]) dX12_putPoints_1 (Nat.le_of_ble_eq_true rfl) rfl rfl ?_
  obtain ⟨rl_6, hw_3, hk_4⟩ := bd_e H
  have J_28 : ∀ k_26 σ_27, rl_6 = (k_26, σ_27) → YY l E M_X12_putPoints 3 0 0 (pS (none) σ') 63 [some (vr 277), some (vi n_0), some (vi order_0), some (vi k_26)] [] σ_27 0 0 := by
    intro k_26 σ_27 e
    have H := hk_4
    rw [e] at H
    cases H
    exact z_vret (M := M_X12_putPoints) dX12_putPoints_63 rfl (Nat.le_of_ble_eq_true rfl) (Nat.le_of_ble_eq_true rfl) ⟨rfl, rfl⟩
  refine whl_go hw_3 (fun (k_1, σ_2) => YY l E M_X12_putPoints 3 0 0 (pS (none) σ') 2 [some (vr 277), some (vi n_0), some (vi order_0), some (vi k_1)] [] σ_2 0 0) ?_
  rintro ⟨k_1, σ_2⟩ o_7 H K_8 K_9
  refine z_iload_n (M := M_X12_putPoints) dX12_putPoints_2 rfl ?_
  refine z_iload_n (M := M_X12_putPoints) dX12_putPoints_3 rfl ?_
  rcases if_e H with ⟨h_10, H⟩ | ⟨h_10, H⟩
  · refine z_icmp_ge_f (M := M_X12_putPoints) (tgt := 63) dX12_putPoints_4 (by decide) rfl rfl h_10 ?_
    refine z_aload_n (M := M_X12_putPoints) dX12_putPoints_7 rfl ?_
    refine z_aload_n (M := M_X12_putPoints) dX12_putPoints_8 rfl ?_
    refine z_aload_n (M := M_X12_putPoints) dX12_putPoints_9 rfl ?_
    refine z_getR (M := M_X12_putPoints) (ci := 15) (C := RX12) (T := TX12) (Nf := 135) (ty := tyX12) cl15 dX12_putPoints_10 ly_277 12 (by decide) t_2403 rfl ?_
    refine z_aload_n (M := M_X12_putPoints) dX12_putPoints_13 rfl ?_
    refine z_getI (M := M_X12_putPoints) (ci := 15) (C := RX12) (T := TX12) (Nf := 135) (ty := tyX12) cl15 dX12_putPoints_14 ly_277 31 (by decide) t_2422 rfl rfl ?_
    obtain ⟨x_11, x_11_e, hi_12, H⟩ := rd_e H
    refine z_iald (M := M_X12_putPoints) dX12_putPoints_17 ly_283 rfl rfl rfl hi_12 x_11_e ?_
    obtain ⟨x_14, hc_13, H⟩ := bd_e H
    refine z_callV (M := M_X12_putPoints) (M' := M_X12_fraction) (as := [vi x_11]) (rest := [vr 277]) rfl rfl dX12_putPoints_18 m_X12_fraction t_3087 t_3089 s_209 (c_X12_fraction hl  hc_13) rfl rfl ly_277 rfl (Nat.le_of_ble_eq_true rfl) (Nat.le_of_ble_eq_true rfl) (Nat.le_of_ble_eq_true rfl) (Nat.le_of_ble_eq_true rfl) ?_
    refine z_st (st' := [vl x_14, vr 277]) rfl ?_
    refine z_bipush (M := M_X12_putPoints) dX12_putPoints_21 (by decide +kernel) ?_
    refine z_iload_n (M := M_X12_putPoints) dX12_putPoints_23 rfl ?_
    obtain ⟨σ_16, hc_15, H⟩ := bd_e H
    refine z_callV (M := M_X12_putPoints) (M' := M_X12_putBytes) (as := [vl x_14, vi 8, vi order_0]) (rest := []) rfl rfl dX12_putPoints_24 m_X12_putBytes t_3078 t_3080 s_207 (c_X12_putBytes hl  hc_15) rfl rfl ly_277 rfl (Nat.le_of_ble_eq_true rfl) (Nat.le_of_ble_eq_true rfl) (Nat.le_of_ble_eq_true rfl) (Nat.le_of_ble_eq_true rfl) ?_
    refine z_st (st' := []) rfl ?_
    refine z_aload_n (M := M_X12_putPoints) dX12_putPoints_27 rfl ?_
    refine z_aload_n (M := M_X12_putPoints) dX12_putPoints_28 rfl ?_
    refine z_aload_n (M := M_X12_putPoints) dX12_putPoints_29 rfl ?_
    refine z_getR (M := M_X12_putPoints) (ci := 15) (C := RX12) (T := TX12) (Nf := 135) (ty := tyX12) cl15 dX12_putPoints_30 ly_277 13 (by decide) t_2404 rfl ?_
    refine z_aload_n (M := M_X12_putPoints) dX12_putPoints_33 rfl ?_
    refine z_getI (M := M_X12_putPoints) (ci := 15) (C := RX12) (T := TX12) (Nf := 135) (ty := tyX12) cl15 dX12_putPoints_34 ly_277 31 (by decide) t_2422 rfl rfl ?_
    obtain ⟨x_17, x_17_e, hi_18, H⟩ := rd_e H
    refine z_iald (M := M_X12_putPoints) dX12_putPoints_37 ly_284 rfl rfl rfl hi_18 x_17_e ?_
    obtain ⟨x_20, hc_19, H⟩ := bd_e H
    refine z_callV (M := M_X12_putPoints) (M' := M_X12_fraction) (as := [vi x_17]) (rest := [vr 277]) rfl rfl dX12_putPoints_38 m_X12_fraction t_3087 t_3089 s_209 (c_X12_fraction hl  hc_19) rfl rfl ly_277 rfl (Nat.le_of_ble_eq_true rfl) (Nat.le_of_ble_eq_true rfl) (Nat.le_of_ble_eq_true rfl) (Nat.le_of_ble_eq_true rfl) ?_
    refine z_st (st' := [vl x_20, vr 277]) rfl ?_
    refine z_bipush (M := M_X12_putPoints) dX12_putPoints_41 (by decide +kernel) ?_
    refine z_iload_n (M := M_X12_putPoints) dX12_putPoints_43 rfl ?_
    obtain ⟨σ_22, hc_21, H⟩ := bd_e H
    refine z_callV (M := M_X12_putPoints) (M' := M_X12_putBytes) (as := [vl x_20, vi 8, vi order_0]) (rest := []) rfl rfl dX12_putPoints_44 m_X12_putBytes t_3078 t_3080 s_207 (c_X12_putBytes hl  hc_21) rfl rfl ly_277 rfl (Nat.le_of_ble_eq_true rfl) (Nat.le_of_ble_eq_true rfl) (Nat.le_of_ble_eq_true rfl) (Nat.le_of_ble_eq_true rfl) ?_
    refine z_st (st' := []) rfl ?_
    refine z_aload_n (M := M_X12_putPoints) dX12_putPoints_47 rfl ?_
    refine z_dup (M := M_X12_putPoints) dX12_putPoints_48 rfl ?_
    refine z_getI (M := M_X12_putPoints) (ci := 15) (C := RX12) (T := TX12) (Nf := 135) (ty := tyX12) cl15 dX12_putPoints_49 ly_277 31 (by decide) t_2422 rfl rfl ?_
    refine z_iconst (M := M_X12_putPoints) dX12_putPoints_52 ?_
    refine z_iadd (M := M_X12_putPoints) dX12_putPoints_53 ?_
    obtain ⟨σ_23, σ_23_e, H⟩ := wf_e H
    refine z_putI (M := M_X12_putPoints) (ci := 15) (C := RX12) (T := TX12) (Nf := 135) (ty := tyX12) cl15 dX12_putPoints_54 ly_277 31 (by decide) t_2422 rfl rfl rfl rfl σ_23_e ?_
    refine z_iinc (M := M_X12_putPoints) (lv' := [some (vr 277), some (vi n_0), some (vi order_0), some (vi (k_1 + 1))]) dX12_putPoints_57 rfl (Nat.le_of_ble_eq_true rfl) rfl rfl ?_
    refine z_goto (M := M_X12_putPoints) (tgt := 2) dX12_putPoints_60 (by decide) ?_
    exact K_8 _ (Option.some.inj H).symm
  · refine z_icmp_ge_t (M := M_X12_putPoints) (tgt := 63) dX12_putPoints_4 (by decide) rfl rfl (Int.not_lt.mp h_10) ?_
    exact J_28 _ _ (K_9 _ (Option.some.inj H).symm).symm
theorem c_X12_writeBytes (hl : l.stackTraces = false) {σ : SG} {slot_0 : Int} {order_0 : Int} {r : Int} {σ' : SG}  (H : fR_writeBytes σ slot_0 order_0 = some (r, σ')) : en_S l E M_X12_writeBytes 4 0 0 [vr 277, vi slot_0, vi order_0] σ (pS (some (vi r)) σ') := by
  unfold fR_writeBytes at H
  refine z_mk (lv := [some (vr 277), some (vi slot_0), some (vi order_0), none, none, none, none, none]) m_X12_writeBytes rfl hl (Nat.le_of_ble_eq_true rfl) rfl ?_
  refine z_aload_n (M := M_X12_writeBytes) dX12_writeBytes_0 rfl ?_
  refine z_iconst (M := M_X12_writeBytes) dX12_writeBytes_1 ?_
  obtain ⟨σ_1, σ_1_e, H⟩ := wf_e H
  refine z_putI (M := M_X12_writeBytes) (ci := 15) (C := RX12) (T := TX12) (Nf := 135) (ty := tyX12) cl15 dX12_writeBytes_2 ly_277 0 (by decide) t_2391 rfl rfl rfl rfl σ_1_e ?_
  refine z_aload_n (M := M_X12_writeBytes) dX12_writeBytes_5 rfl ?_
  have J_32 : YY l E M_X12_writeBytes 4 0 0 (pS (some (vi r)) σ') 18 [some (vr 277), some (vi slot_0), some (vi order_0), none, none, none, none, none] [zv (decide (¬ ((fR_isSlot slot_0) = true))), vr 277] σ_1 0 0 := by
    refine z_iconst (M := M_X12_writeBytes) dX12_writeBytes_18 ?_
    obtain ⟨⟨x_35, σ_34⟩, hc_33, H⟩ := bd_e H
    refine z_callV (M := M_X12_writeBytes) (M' := M_X12_fails) (as := [zv (decide (¬ ((fR_isSlot slot_0) = true))), vi 1]) (rest := []) rfl rfl dX12_writeBytes_19 m_X12_fails t_2805 t_2807 s_157 (c_X12_fails hl  hc_33) rfl rfl ly_277 rfl (Nat.le_of_ble_eq_true rfl) (Nat.le_of_ble_eq_true rfl) (Nat.le_of_ble_eq_true rfl) (Nat.le_of_ble_eq_true rfl) ?_
    refine z_st (st' := [zv x_35]) rfl ?_
    rcases if_e H with ⟨h_36, H⟩ | ⟨h_36, H⟩
    · refine z_zne_t (M := M_X12_writeBytes) (tgt := 69) dX12_writeBytes_22 (by decide) h_36 ?_
      refine z_iconst (M := M_X12_writeBytes) dX12_writeBytes_69 ?_
      cases H
      exact z_iret (M := M_X12_writeBytes) dX12_writeBytes_70 rfl (Nat.le_of_ble_eq_true rfl) (Nat.le_of_ble_eq_true rfl) ⟨rfl, rfl⟩
    · refine z_zne_f (M := M_X12_writeBytes) (tgt := 69) dX12_writeBytes_22 (by decide) h_36 ?_
      refine z_aload_n (M := M_X12_writeBytes) dX12_writeBytes_25 rfl ?_
      obtain ⟨v_143, he_144, hk_145⟩ := bd_e H
      have J_146 : ∀ x_42, v_143 = x_42 → YY l E M_X12_writeBytes 4 0 0 (pS (some (vi r)) σ') 39 [some (vr 277), some (vi slot_0), some (vi order_0), none, none, none, none, none] [zv x_42, vr 277] σ_34 0 0 := by
        intro x_42 e
        have H := hk_145
        rw [e] at H
        refine z_iconst (M := M_X12_writeBytes) dX12_writeBytes_39 ?_
        obtain ⟨⟨x_45, σ_44⟩, hc_43, H⟩ := bd_e H
        refine z_callV (M := M_X12_writeBytes) (M' := M_X12_fails) (as := [zv x_42, vi 2]) (rest := []) rfl rfl dX12_writeBytes_40 m_X12_fails t_2805 t_2807 s_157 (c_X12_fails hl  hc_43) rfl rfl ly_277 rfl (Nat.le_of_ble_eq_true rfl) (Nat.le_of_ble_eq_true rfl) (Nat.le_of_ble_eq_true rfl) (Nat.le_of_ble_eq_true rfl) ?_
        refine z_st (st' := [zv x_45]) rfl ?_
        rcases if_e H with ⟨h_46, H⟩ | ⟨h_46, H⟩
        · refine z_zne_t (M := M_X12_writeBytes) (tgt := 69) dX12_writeBytes_43 (by decide) h_46 ?_
          refine z_iconst (M := M_X12_writeBytes) dX12_writeBytes_69 ?_
          cases H
          exact z_iret (M := M_X12_writeBytes) dX12_writeBytes_70 rfl (Nat.le_of_ble_eq_true rfl) (Nat.le_of_ble_eq_true rfl) ⟨rfl, rfl⟩
        · refine z_zne_f (M := M_X12_writeBytes) (tgt := 69) dX12_writeBytes_43 (by decide) h_46 ?_
          refine z_aload_n (M := M_X12_writeBytes) dX12_writeBytes_46 rfl ?_
          have J_47 : YY l E M_X12_writeBytes 4 0 0 (pS (some (vi r)) σ') 62 [some (vr 277), some (vi slot_0), some (vi order_0), none, none, none, none, none] [zv (decide (¬ ((fR_in (w32 order_0) 0 1) = true))), vr 277] σ_44 0 0 := by
            refine z_iconst (M := M_X12_writeBytes) dX12_writeBytes_62 ?_
            obtain ⟨⟨x_50, σ_49⟩, hc_48, H⟩ := bd_e H
            refine z_callV (M := M_X12_writeBytes) (M' := M_X12_fails) (as := [zv (decide (¬ ((fR_in (w32 order_0) 0 1) = true))), vi 3]) (rest := []) rfl rfl dX12_writeBytes_63 m_X12_fails t_2805 t_2807 s_157 (c_X12_fails hl  hc_48) rfl rfl ly_277 rfl (Nat.le_of_ble_eq_true rfl) (Nat.le_of_ble_eq_true rfl) (Nat.le_of_ble_eq_true rfl) (Nat.le_of_ble_eq_true rfl) ?_
            refine z_st (st' := [zv x_50]) rfl ?_
            rcases if_e H with ⟨h_51, H⟩ | ⟨h_51, H⟩
            · refine z_zeq_f (M := M_X12_writeBytes) (tgt := 71) dX12_writeBytes_66 (by decide) h_51 ?_
              refine z_iconst (M := M_X12_writeBytes) dX12_writeBytes_69 ?_
              cases H
              exact z_iret (M := M_X12_writeBytes) dX12_writeBytes_70 rfl (Nat.le_of_ble_eq_true rfl) (Nat.le_of_ble_eq_true rfl) ⟨rfl, rfl⟩
            · refine z_zeq_t (M := M_X12_writeBytes) (tgt := 71) dX12_writeBytes_66 (by decide) h_51 ?_
              refine z_aload_n (M := M_X12_writeBytes) dX12_writeBytes_71 rfl ?_
              refine z_iconst (M := M_X12_writeBytes) dX12_writeBytes_72 ?_
              obtain ⟨σ_52, σ_52_e, H⟩ := wf_e H
              refine z_putI (M := M_X12_writeBytes) (ci := 15) (C := RX12) (T := TX12) (Nf := 135) (ty := tyX12) cl15 dX12_writeBytes_73 ly_277 6 (by decide) t_2397 rfl rfl rfl rfl σ_52_e ?_
              refine z_aload_n (M := M_X12_writeBytes) dX12_writeBytes_76 rfl ?_
              refine z_sipush (M := M_X12_writeBytes) dX12_writeBytes_77 (by decide +kernel) ?_
              refine z_iload_n (M := M_X12_writeBytes) dX12_writeBytes_80 rfl ?_
              refine z_imul (M := M_X12_writeBytes) dX12_writeBytes_81 ?_
              obtain ⟨σ_53, σ_53_e, H⟩ := wf_e H
              refine z_putI (M := M_X12_writeBytes) (ci := 15) (C := RX12) (T := TX12) (Nf := 135) (ty := tyX12) cl15 dX12_writeBytes_82 ly_277 30 (by decide) t_2421 rfl rfl rfl rfl σ_53_e ?_
              refine z_aload_n (M := M_X12_writeBytes) dX12_writeBytes_85 rfl ?_
              refine z_sipush (M := M_X12_writeBytes) dX12_writeBytes_86 (by decide +kernel) ?_
              refine z_iload_n (M := M_X12_writeBytes) dX12_writeBytes_89 rfl ?_
              refine z_imul (M := M_X12_writeBytes) dX12_writeBytes_90 ?_
              obtain ⟨σ_54, σ_54_e, H⟩ := wf_e H
              refine z_putI (M := M_X12_writeBytes) (ci := 15) (C := RX12) (T := TX12) (Nf := 135) (ty := tyX12) cl15 dX12_writeBytes_91 ly_277 31 (by decide) t_2422 rfl rfl rfl rfl σ_54_e ?_
              refine z_aload_n (M := M_X12_writeBytes) dX12_writeBytes_94 rfl ?_
              refine z_getI (M := M_X12_writeBytes) (ci := 15) (C := RX12) (T := TX12) (Nf := 135) (ty := tyX12) cl15 dX12_writeBytes_95 ly_277 30 (by decide) t_2421 rfl rfl ?_
              refine z_aload_n (M := M_X12_writeBytes) dX12_writeBytes_98 rfl ?_
              refine z_getR (M := M_X12_writeBytes) (ci := 15) (C := RX12) (T := TX12) (Nf := 135) (ty := tyX12) cl15 dX12_writeBytes_99 ly_277 9 (by decide) t_2400 rfl ?_
              refine z_iload_n (M := M_X12_writeBytes) dX12_writeBytes_102 rfl ?_
              obtain ⟨x_55, x_55_e, hi_56, H⟩ := rd_e H
              refine z_iald (M := M_X12_writeBytes) dX12_writeBytes_103 ly_280 rfl rfl rfl hi_56 x_55_e ?_
              refine z_iadd (M := M_X12_writeBytes) dX12_writeBytes_104 ?_
              refine z_istore_n (M := M_X12_writeBytes) (lv' := [some (vr 277), some (vi slot_0), some (vi order_0), some (vi ((σ_54 kR_planAt 0) + x_55)), none, none, none, none]) dX12_writeBytes_105 (Nat.le_of_ble_eq_true rfl) rfl rfl ?_
              obtain ⟨rl_61, hw_58, hk_59⟩ := bd_e H
              have J_141 : ∀ σ_140, rl_61 = σ_140 → YY l E M_X12_writeBytes 4 0 0 (pS (some (vi r)) σ') 249 [some (vr 277), some (vi slot_0), some (vi order_0), some (vi ((σ_54 kR_planAt 0) + x_55)), none, none, none, none] [] σ_140 0 0 := by
                intro σ_140 e
                have H := hk_59
                rw [e] at H
                refine z_aload_n (M := M_X12_writeBytes) dX12_writeBytes_249 rfl ?_
                refine z_getI (M := M_X12_writeBytes) (ci := 15) (C := RX12) (T := TX12) (Nf := 135) (ty := tyX12) cl15 dX12_writeBytes_250 ly_277 6 (by decide) t_2397 rfl rfl ?_
                cases H
                exact z_iret (M := M_X12_writeBytes) dX12_writeBytes_253 rfl (Nat.le_of_ble_eq_true rfl) (Nat.le_of_ble_eq_true rfl) ⟨rfl, rfl⟩
              refine whl_go hw_58 (fun σ_57 => YY l E M_X12_writeBytes 4 0 0 (pS (some (vi r)) σ') 106 [some (vr 277), some (vi slot_0), some (vi order_0), some (vi ((σ_54 kR_planAt 0) + x_55)), none, none, none, none] [] σ_57 0 0) ?_
              rintro σ_57 o_62 H K_63 K_64
              refine z_aload_n (M := M_X12_writeBytes) dX12_writeBytes_106 rfl ?_
              refine z_getI (M := M_X12_writeBytes) (ci := 15) (C := RX12) (T := TX12) (Nf := 135) (ty := tyX12) cl15 dX12_writeBytes_107 ly_277 30 (by decide) t_2421 rfl rfl ?_
              refine z_iload_n (M := M_X12_writeBytes) dX12_writeBytes_110 rfl ?_
              rcases if_e H with ⟨h_65, H⟩ | ⟨h_65, H⟩
              · refine z_icmp_ge_f (M := M_X12_writeBytes) (tgt := 249) dX12_writeBytes_111 (by decide) rfl rfl h_65 ?_
                refine z_aload_n (M := M_X12_writeBytes) dX12_writeBytes_114 rfl ?_
                obtain ⟨⟨x_68, σ_67⟩, hc_66, H⟩ := bd_e H
                refine z_callV (M := M_X12_writeBytes) (M' := M_X12_next) (as := []) (rest := []) rfl rfl dX12_writeBytes_115 m_X12_next t_3037 t_3039 s_198 (c_X12_next hl  hc_66) rfl rfl ly_277 rfl (Nat.le_of_ble_eq_true rfl) (Nat.le_of_ble_eq_true rfl) (Nat.le_of_ble_eq_true rfl) (Nat.le_of_ble_eq_true rfl) ?_
                refine z_st (st' := [vi x_68]) rfl ?_
                refine z_istore (M := M_X12_writeBytes) (lv' := [some (vr 277), some (vi slot_0), some (vi order_0), some (vi ((σ_54 kR_planAt 0) + x_55)), some (vi x_68), none, none, none]) dX12_writeBytes_118 (Nat.le_of_ble_eq_true rfl) rfl rfl ?_
                refine z_aload_n (M := M_X12_writeBytes) dX12_writeBytes_120 rfl ?_
                obtain ⟨⟨x_71, σ_70⟩, hc_69, H⟩ := bd_e H
                refine z_callV (M := M_X12_writeBytes) (M' := M_X12_next) (as := []) (rest := []) rfl rfl dX12_writeBytes_121 m_X12_next t_3037 t_3039 s_198 (c_X12_next hl  hc_69) rfl rfl ly_277 rfl (Nat.le_of_ble_eq_true rfl) (Nat.le_of_ble_eq_true rfl) (Nat.le_of_ble_eq_true rfl) (Nat.le_of_ble_eq_true rfl) ?_
                refine z_st (st' := [vi x_71]) rfl ?_
                refine z_istore (M := M_X12_writeBytes) (lv' := [some (vr 277), some (vi slot_0), some (vi order_0), some (vi ((σ_54 kR_planAt 0) + x_55)), some (vi x_68), some (vi x_71), none, none]) dX12_writeBytes_124 (Nat.le_of_ble_eq_true rfl) rfl rfl ?_
                refine z_aload_n (M := M_X12_writeBytes) dX12_writeBytes_126 rfl ?_
                refine z_iload_n (M := M_X12_writeBytes) dX12_writeBytes_127 rfl ?_
                obtain ⟨σ_73, hc_72, H⟩ := bd_e H
                refine z_callV (M := M_X12_writeBytes) (M' := M_X12_put) (as := [vi order_0]) (rest := []) rfl rfl dX12_writeBytes_128 m_X12_put t_3045 t_3047 s_200 (c_X12_put hl  hc_72) rfl rfl ly_277 rfl (Nat.le_of_ble_eq_true rfl) (Nat.le_of_ble_eq_true rfl) (Nat.le_of_ble_eq_true rfl) (Nat.le_of_ble_eq_true rfl) ?_
                refine z_st (st' := []) rfl ?_
                refine z_aload_n (M := M_X12_writeBytes) dX12_writeBytes_131 rfl ?_
                refine z_iload (M := M_X12_writeBytes) dX12_writeBytes_132 rfl ?_
                refine z_i2l (M := M_X12_writeBytes) dX12_writeBytes_134 ?_
                refine z_iconst (M := M_X12_writeBytes) dX12_writeBytes_135 ?_
                refine z_iload_n (M := M_X12_writeBytes) dX12_writeBytes_136 rfl ?_
                obtain ⟨σ_75, hc_74, H⟩ := bd_e H
                refine z_callV (M := M_X12_writeBytes) (M' := M_X12_putBytes) (as := [vl (w32 x_68), vi 4, vi order_0]) (rest := []) rfl rfl dX12_writeBytes_137 m_X12_putBytes t_3078 t_3080 s_207 (c_X12_putBytes hl  hc_74) rfl rfl ly_277 rfl (Nat.le_of_ble_eq_true rfl) (Nat.le_of_ble_eq_true rfl) (Nat.le_of_ble_eq_true rfl) (Nat.le_of_ble_eq_true rfl) ?_
                refine z_st (st' := []) rfl ?_
                rcases if_e H with ⟨h_132, H⟩ | ⟨h_132, H⟩
                · have J_133 : YY l E M_X12_writeBytes 4 0 0 (pS (some (vi r)) σ') 151 [some (vr 277), some (vi slot_0), some (vi order_0), some (vi ((σ_54 kR_planAt 0) + x_55)), some (vi x_68), some (vi x_71), none, none] [] σ_75 0 0 := by
                    refine z_aload_n (M := M_X12_writeBytes) dX12_writeBytes_151 rfl ?_
                    refine z_ldc2 (M := M_X12_writeBytes) (n := 9221120237041090560) dX12_writeBytes_152 t_3082 (by decide +kernel) ?_
                    refine z_bipush (M := M_X12_writeBytes) dX12_writeBytes_155 (by decide +kernel) ?_
                    refine z_iload_n (M := M_X12_writeBytes) dX12_writeBytes_157 rfl ?_
                    obtain ⟨σ_77, hc_76, H⟩ := bd_e H
                    refine z_callV (M := M_X12_writeBytes) (M' := M_X12_putBytes) (as := [vl 9221120237041090560, vi 8, vi order_0]) (rest := []) rfl rfl dX12_writeBytes_158 m_X12_putBytes t_3078 t_3080 s_207 (c_X12_putBytes hl  hc_76) rfl rfl ly_277 rfl (Nat.le_of_ble_eq_true rfl) (Nat.le_of_ble_eq_true rfl) (Nat.le_of_ble_eq_true rfl) (Nat.le_of_ble_eq_true rfl) ?_
                    refine z_st (st' := []) rfl ?_
                    refine z_aload_n (M := M_X12_writeBytes) dX12_writeBytes_161 rfl ?_
                    refine z_ldc2 (M := M_X12_writeBytes) (n := 9221120237041090560) dX12_writeBytes_162 t_3082 (by decide +kernel) ?_
                    refine z_bipush (M := M_X12_writeBytes) dX12_writeBytes_165 (by decide +kernel) ?_
                    refine z_iload_n (M := M_X12_writeBytes) dX12_writeBytes_167 rfl ?_
                    obtain ⟨σ_79, hc_78, H⟩ := bd_e H
                    refine z_callV (M := M_X12_writeBytes) (M' := M_X12_putBytes) (as := [vl 9221120237041090560, vi 8, vi order_0]) (rest := []) rfl rfl dX12_writeBytes_168 m_X12_putBytes t_3078 t_3080 s_207 (c_X12_putBytes hl  hc_78) rfl rfl ly_277 rfl (Nat.le_of_ble_eq_true rfl) (Nat.le_of_ble_eq_true rfl) (Nat.le_of_ble_eq_true rfl) (Nat.le_of_ble_eq_true rfl) ?_
                    refine z_st (st' := []) rfl ?_
                    refine z_goto (M := M_X12_writeBytes) (tgt := 106) dX12_writeBytes_171 (by decide) ?_
                    refine z_le (lv' := [some (vr 277), some (vi slot_0), some (vi order_0), some (vi ((σ_54 kR_planAt 0) + x_55)), none, none, none, none]) ⟨Or.inr rfl, Or.inr rfl, Or.inr rfl, Or.inr rfl, Or.inl rfl, Or.inl rfl, Or.inl rfl, Or.inl rfl, trivial⟩ ?_
                    exact K_63 _ (Option.some.inj H).symm
                  refine z_iload (M := M_X12_writeBytes) dX12_writeBytes_140 rfl ?_
                  refine z_iconst (M := M_X12_writeBytes) dX12_writeBytes_142 ?_
                  by_cases h_135 : (w32 x_68) = 1
                  · refine z_icmp_ne_f (M := M_X12_writeBytes) (tgt := 174) dX12_writeBytes_143 (by decide) rfl (by decide +kernel) h_135 ?_
                    refine z_iload (M := M_X12_writeBytes) dX12_writeBytes_146 rfl ?_
                    by_cases h_136 : (w32 x_71) = 0
                    · refine z_if_ne_f (M := M_X12_writeBytes) (tgt := 174) dX12_writeBytes_148 (by decide) rfl h_136 ?_
                      exact J_133
                    · refine z_if_ne_t (M := M_X12_writeBytes) (tgt := 174) dX12_writeBytes_148 (by decide) rfl h_136 ?_
                      exact absurd h_132 (fun q => h_136 q.2)
                  · refine z_icmp_ne_t (M := M_X12_writeBytes) (tgt := 174) dX12_writeBytes_143 (by decide) rfl (by decide +kernel) h_135 ?_
                    exact absurd h_132 (fun q => h_135 q.1)
                · have J_134 : YY l E M_X12_writeBytes 4 0 0 (pS (some (vi r)) σ') 174 [some (vr 277), some (vi slot_0), some (vi order_0), some (vi ((σ_54 kR_planAt 0) + x_55)), some (vi x_68), some (vi x_71), none, none] [] σ_75 0 0 := by
                    obtain ⟨v_84, he_81, hk_82⟩ := bd_e H
                    have J_131 : ∀ σ_90, v_84 = σ_90 → YY l E M_X12_writeBytes 4 0 0 (pS (some (vi r)) σ') 189 [some (vr 277), some (vi slot_0), some (vi order_0), some (vi ((σ_54 kR_planAt 0) + x_55)), some (vi x_68), some (vi x_71), none, none] [] σ_90 0 0 := by
                      intro σ_90 e
                      have H := hk_82
                      rw [e] at H
                      obtain ⟨v_94, he_91, hk_92⟩ := bd_e H
                      have J_130 : ∀ σ_100, v_94 = σ_100 → YY l E M_X12_writeBytes 4 0 0 (pS (some (vi r)) σ') 202 [some (vr 277), some (vi slot_0), some (vi order_0), some (vi ((σ_54 kR_planAt 0) + x_55)), some (vi x_68), some (vi x_71), none, none] [] σ_100 0 0 := by
                        intro σ_100 e
                        have H := hk_92
                        rw [e] at H
                        refine z_iconst (M := M_X12_writeBytes) dX12_writeBytes_202 ?_
                        refine z_istore (M := M_X12_writeBytes) (lv' := [some (vr 277), some (vi slot_0), some (vi order_0), some (vi ((σ_54 kR_planAt 0) + x_55)), some (vi x_68), some (vi x_71), some (vi 0), none]) dX12_writeBytes_203 (Nat.le_of_ble_eq_true rfl) rfl rfl ?_
                        obtain ⟨rl_106, hw_103, hk_104⟩ := bd_e H
                        have J_129 : ∀ k_126 σ_127, rl_106 = (k_126, σ_127) → YY l E M_X12_writeBytes 4 0 0 (pS (some (vi r)) σ') 246 [some (vr 277), some (vi slot_0), some (vi order_0), some (vi ((σ_54 kR_planAt 0) + x_55)), some (vi x_68), some (vi x_71), some (vi k_126), none] [] σ_127 0 0 := by
                          intro k_126 σ_127 e
                          have H := hk_104
                          rw [e] at H
                          refine z_goto (M := M_X12_writeBytes) (tgt := 106) dX12_writeBytes_246 (by decide) ?_
                          refine z_le (lv' := [some (vr 277), some (vi slot_0), some (vi order_0), some (vi ((σ_54 kR_planAt 0) + x_55)), none, none, none, none]) ⟨Or.inr rfl, Or.inr rfl, Or.inr rfl, Or.inr rfl, Or.inl rfl, Or.inl rfl, Or.inl rfl, Or.inl rfl, trivial⟩ ?_
                          exact K_63 _ (Option.some.inj H).symm
                        refine whl_go hw_103 (fun (k_101, σ_102) => YY l E M_X12_writeBytes 4 0 0 (pS (some (vi r)) σ') 205 [some (vr 277), some (vi slot_0), some (vi order_0), some (vi ((σ_54 kR_planAt 0) + x_55)), some (vi x_68), some (vi x_71), some (vi k_101), none] [] σ_102 0 0) ?_
                        rintro ⟨k_101, σ_102⟩ o_107 H K_108 K_109
                        rcases if_e H with ⟨h_119, H⟩ | ⟨h_119, H⟩
                        · have J_120 : YY l E M_X12_writeBytes 4 0 0 (pS (some (vi r)) σ') 218 [some (vr 277), some (vi slot_0), some (vi order_0), some (vi ((σ_54 kR_planAt 0) + x_55)), some (vi x_68), some (vi x_71), some (vi k_101), none] [] σ_102 0 0 := by
                            refine z_aload_n (M := M_X12_writeBytes) dX12_writeBytes_218 rfl ?_
                            obtain ⟨⟨x_112, σ_111⟩, hc_110, H⟩ := bd_e H
                            refine z_callV (M := M_X12_writeBytes) (M' := M_X12_next) (as := []) (rest := []) rfl rfl dX12_writeBytes_219 m_X12_next t_3037 t_3039 s_198 (c_X12_next hl  hc_110) rfl rfl ly_277 rfl (Nat.le_of_ble_eq_true rfl) (Nat.le_of_ble_eq_true rfl) (Nat.le_of_ble_eq_true rfl) (Nat.le_of_ble_eq_true rfl) ?_
                            refine z_st (st' := [vi x_112]) rfl ?_
                            refine z_istore (M := M_X12_writeBytes) (lv' := [some (vr 277), some (vi slot_0), some (vi order_0), some (vi ((σ_54 kR_planAt 0) + x_55)), some (vi x_68), some (vi x_71), some (vi k_101), some (vi x_112)]) dX12_writeBytes_222 (Nat.le_of_ble_eq_true rfl) rfl rfl ?_
                            refine z_aload_n (M := M_X12_writeBytes) dX12_writeBytes_224 rfl ?_
                            refine z_iload (M := M_X12_writeBytes) dX12_writeBytes_225 rfl ?_
                            refine z_i2l (M := M_X12_writeBytes) dX12_writeBytes_227 ?_
                            refine z_iconst (M := M_X12_writeBytes) dX12_writeBytes_228 ?_
                            refine z_iload_n (M := M_X12_writeBytes) dX12_writeBytes_229 rfl ?_
                            obtain ⟨σ_114, hc_113, H⟩ := bd_e H
                            refine z_callV (M := M_X12_writeBytes) (M' := M_X12_putBytes) (as := [vl (w32 x_112), vi 4, vi order_0]) (rest := []) rfl rfl dX12_writeBytes_230 m_X12_putBytes t_3078 t_3080 s_207 (c_X12_putBytes hl  hc_113) rfl rfl ly_277 rfl (Nat.le_of_ble_eq_true rfl) (Nat.le_of_ble_eq_true rfl) (Nat.le_of_ble_eq_true rfl) (Nat.le_of_ble_eq_true rfl) ?_
                            refine z_st (st' := []) rfl ?_
                            refine z_aload_n (M := M_X12_writeBytes) dX12_writeBytes_233 rfl ?_
                            refine z_iload (M := M_X12_writeBytes) dX12_writeBytes_234 rfl ?_
                            refine z_iload_n (M := M_X12_writeBytes) dX12_writeBytes_236 rfl ?_
                            obtain ⟨σ_116, hc_115, H⟩ := bd_e H
                            refine z_callV (M := M_X12_writeBytes) (M' := M_X12_putPoints) (as := [vi x_112, vi order_0]) (rest := []) rfl rfl dX12_writeBytes_237 m_X12_putPoints t_3083 t_3085 s_208 (c_X12_putPoints hl  hc_115) rfl rfl ly_277 rfl (Nat.le_of_ble_eq_true rfl) (Nat.le_of_ble_eq_true rfl) (Nat.le_of_ble_eq_true rfl) (Nat.le_of_ble_eq_true rfl) ?_
                            refine z_st (st' := []) rfl ?_
                            refine z_iinc (M := M_X12_writeBytes) (lv' := [some (vr 277), some (vi slot_0), some (vi order_0), some (vi ((σ_54 kR_planAt 0) + x_55)), some (vi x_68), some (vi x_71), some (vi (k_101 + 1)), some (vi x_112)]) dX12_writeBytes_240 rfl (Nat.le_of_ble_eq_true rfl) rfl rfl ?_
                            refine z_goto (M := M_X12_writeBytes) (tgt := 205) dX12_writeBytes_243 (by decide) ?_
                            refine z_le (lv' := [some (vr 277), some (vi slot_0), some (vi order_0), some (vi ((σ_54 kR_planAt 0) + x_55)), some (vi x_68), some (vi x_71), some (vi (k_101 + 1)), none]) ⟨Or.inr rfl, Or.inr rfl, Or.inr rfl, Or.inr rfl, Or.inr rfl, Or.inr rfl, Or.inr rfl, Or.inl rfl, trivial⟩ ?_
                            exact K_108 _ (Option.some.inj H).symm
                          refine z_iload (M := M_X12_writeBytes) dX12_writeBytes_205 rfl ?_
                          refine z_iconst (M := M_X12_writeBytes) dX12_writeBytes_207 ?_
                          by_cases h_122 : (w32 x_68) = 3
                          · refine z_icmp_ne_f (M := M_X12_writeBytes) (tgt := 246) dX12_writeBytes_208 (by decide) rfl (by decide +kernel) h_122 ?_
                            refine z_iload (M := M_X12_writeBytes) dX12_writeBytes_211 rfl ?_
                            refine z_iload (M := M_X12_writeBytes) dX12_writeBytes_213 rfl ?_
                            by_cases h_123 : (w32 k_101) < (w32 x_71)
                            · refine z_icmp_ge_f (M := M_X12_writeBytes) (tgt := 246) dX12_writeBytes_215 (by decide) rfl rfl h_123 ?_
                              exact J_120
                            · refine z_icmp_ge_t (M := M_X12_writeBytes) (tgt := 246) dX12_writeBytes_215 (by decide) rfl rfl (Int.not_lt.mp h_123) ?_
                              exact absurd h_119 (fun q => h_123 q.2)
                          · refine z_icmp_ne_t (M := M_X12_writeBytes) (tgt := 246) dX12_writeBytes_208 (by decide) rfl (by decide +kernel) h_122 ?_
                            exact absurd h_119 (fun q => h_122 q.1)
                        · have J_121 : YY l E M_X12_writeBytes 4 0 0 (pS (some (vi r)) σ') 246 [some (vr 277), some (vi slot_0), some (vi order_0), some (vi ((σ_54 kR_planAt 0) + x_55)), some (vi x_68), some (vi x_71), some (vi k_101), none] [] σ_102 0 0 := by
                            exact J_129 _ _ (K_109 _ (Option.some.inj H).symm).symm
                          refine z_iload (M := M_X12_writeBytes) dX12_writeBytes_205 rfl ?_
                          refine z_iconst (M := M_X12_writeBytes) dX12_writeBytes_207 ?_
                          by_cases h_124 : (w32 x_68) = 3
                          · refine z_icmp_ne_f (M := M_X12_writeBytes) (tgt := 246) dX12_writeBytes_208 (by decide) rfl (by decide +kernel) h_124 ?_
                            refine z_iload (M := M_X12_writeBytes) dX12_writeBytes_211 rfl ?_
                            refine z_iload (M := M_X12_writeBytes) dX12_writeBytes_213 rfl ?_
                            by_cases h_125 : (w32 k_101) < (w32 x_71)
                            · refine z_icmp_ge_f (M := M_X12_writeBytes) (tgt := 246) dX12_writeBytes_215 (by decide) rfl rfl h_125 ?_
                              exact absurd ⟨h_124, h_125⟩ h_119
                            · refine z_icmp_ge_t (M := M_X12_writeBytes) (tgt := 246) dX12_writeBytes_215 (by decide) rfl rfl (Int.not_lt.mp h_125) ?_
                              exact J_121
                          · refine z_icmp_ne_t (M := M_X12_writeBytes) (tgt := 246) dX12_writeBytes_208 (by decide) rfl (by decide +kernel) h_124 ?_
                            exact J_121
                      have H := he_91
                      refine z_iload (M := M_X12_writeBytes) dX12_writeBytes_189 rfl ?_
                      refine z_iconst (M := M_X12_writeBytes) dX12_writeBytes_191 ?_
                      rcases if_e H with ⟨h_95, H⟩ | ⟨h_95, H⟩
                      · refine z_icmp_ge_f (M := M_X12_writeBytes) (tgt := 202) dX12_writeBytes_192 (by decide) rfl (by decide +kernel) h_95 ?_
                        refine z_aload_n (M := M_X12_writeBytes) dX12_writeBytes_195 rfl ?_
                        refine z_iload (M := M_X12_writeBytes) dX12_writeBytes_196 rfl ?_
                        refine z_iload_n (M := M_X12_writeBytes) dX12_writeBytes_198 rfl ?_
                        obtain ⟨σ_97, hc_96, H⟩ := bd_e H
                        refine z_callV (M := M_X12_writeBytes) (M' := M_X12_putPoints) (as := [vi x_71, vi order_0]) (rest := []) rfl rfl dX12_writeBytes_199 m_X12_putPoints t_3083 t_3085 s_208 (c_X12_putPoints hl  hc_96) rfl rfl ly_277 rfl (Nat.le_of_ble_eq_true rfl) (Nat.le_of_ble_eq_true rfl) (Nat.le_of_ble_eq_true rfl) (Nat.le_of_ble_eq_true rfl) ?_
                        refine z_st (st' := []) rfl ?_
                        exact J_130 _ (Option.some.inj H).symm
                      · refine z_icmp_ge_t (M := M_X12_writeBytes) (tgt := 202) dX12_writeBytes_192 (by decide) rfl (by decide +kernel) (Int.not_lt.mp h_95) ?_
                        exact J_130 _ (Option.some.inj H).symm
                    have H := he_81
                    refine z_iload (M := M_X12_writeBytes) dX12_writeBytes_174 rfl ?_
                    refine z_iconst (M := M_X12_writeBytes) dX12_writeBytes_176 ?_
                    rcases if_e H with ⟨h_85, H⟩ | ⟨h_85, H⟩
                    · refine z_icmp_le_f (M := M_X12_writeBytes) (tgt := 189) dX12_writeBytes_177 (by decide) rfl (by decide +kernel) h_85 ?_
                      refine z_aload_n (M := M_X12_writeBytes) dX12_writeBytes_180 rfl ?_
                      refine z_iload (M := M_X12_writeBytes) dX12_writeBytes_181 rfl ?_
                      refine z_i2l (M := M_X12_writeBytes) dX12_writeBytes_183 ?_
                      refine z_iconst (M := M_X12_writeBytes) dX12_writeBytes_184 ?_
                      refine z_iload_n (M := M_X12_writeBytes) dX12_writeBytes_185 rfl ?_
                      obtain ⟨σ_87, hc_86, H⟩ := bd_e H
                      refine z_callV (M := M_X12_writeBytes) (M' := M_X12_putBytes) (as := [vl (w32 x_71), vi 4, vi order_0]) (rest := []) rfl rfl dX12_writeBytes_186 m_X12_putBytes t_3078 t_3080 s_207 (c_X12_putBytes hl  hc_86) rfl rfl ly_277 rfl (Nat.le_of_ble_eq_true rfl) (Nat.le_of_ble_eq_true rfl) (Nat.le_of_ble_eq_true rfl) (Nat.le_of_ble_eq_true rfl) ?_
                      refine z_st (st' := []) rfl ?_
                      exact J_131 _ (Option.some.inj H).symm
                    · refine z_icmp_le_t (M := M_X12_writeBytes) (tgt := 189) dX12_writeBytes_177 (by decide) rfl (by decide +kernel) (Int.not_lt.mp h_85) ?_
                      exact J_131 _ (Option.some.inj H).symm
                  refine z_iload (M := M_X12_writeBytes) dX12_writeBytes_140 rfl ?_
                  refine z_iconst (M := M_X12_writeBytes) dX12_writeBytes_142 ?_
                  by_cases h_137 : (w32 x_68) = 1
                  · refine z_icmp_ne_f (M := M_X12_writeBytes) (tgt := 174) dX12_writeBytes_143 (by decide) rfl (by decide +kernel) h_137 ?_
                    refine z_iload (M := M_X12_writeBytes) dX12_writeBytes_146 rfl ?_
                    by_cases h_138 : (w32 x_71) = 0
                    · refine z_if_ne_f (M := M_X12_writeBytes) (tgt := 174) dX12_writeBytes_148 (by decide) rfl h_138 ?_
                      exact absurd ⟨h_137, h_138⟩ h_132
                    · refine z_if_ne_t (M := M_X12_writeBytes) (tgt := 174) dX12_writeBytes_148 (by decide) rfl h_138 ?_
                      exact J_134
                  · refine z_icmp_ne_t (M := M_X12_writeBytes) (tgt := 174) dX12_writeBytes_143 (by decide) rfl (by decide +kernel) h_137 ?_
                    exact J_134
              · refine z_icmp_ge_t (M := M_X12_writeBytes) (tgt := 249) dX12_writeBytes_111 (by decide) rfl rfl (Int.not_lt.mp h_65) ?_
                exact J_141 _ (K_64 _ (Option.some.inj H).symm).symm
          refine z_iload_n (M := M_X12_writeBytes) dX12_writeBytes_47 rfl ?_
          refine z_i2l (M := M_X12_writeBytes) dX12_writeBytes_48 ?_
          refine z_lconst (M := M_X12_writeBytes) (m := 0) dX12_writeBytes_49 (by decide +kernel) ?_
          refine z_lconst (M := M_X12_writeBytes) (m := 1) dX12_writeBytes_50 (by decide +kernel) ?_
          refine z_callS (M := M_X12_writeBytes) (M' := M_X12_in) (as := [vl (w32 order_0), vl 0, vl 1]) (rest := [vr 277]) rfl rfl dX12_writeBytes_51 m_X12_in t_2818 t_2819 (c_X12_in hl  rfl) rfl rfl (Nat.le_of_ble_eq_true rfl) (Nat.le_of_ble_eq_true rfl) (Nat.le_of_ble_eq_true rfl) (Nat.le_of_ble_eq_true rfl) ?_
          refine z_st (st' := [zv (fR_in (w32 order_0) 0 1), vr 277]) rfl ?_
          by_cases h_142 : (fR_in (w32 order_0) 0 1) = true
          · refine z_zne_t (M := M_X12_writeBytes) (tgt := 61) dX12_writeBytes_54 (by decide) h_142 ?_
            refine z_iconst (M := M_X12_writeBytes) dX12_writeBytes_61 ?_
            exact z_st (by rw [zv_f (p := ¬ ((fR_in (w32 order_0) 0 1) = true)) (not_not_intro h_142)]) J_47
          · refine z_zne_f (M := M_X12_writeBytes) (tgt := 61) dX12_writeBytes_54 (by decide) h_142 ?_
            refine z_iconst (M := M_X12_writeBytes) dX12_writeBytes_57 ?_
            refine z_goto (M := M_X12_writeBytes) (tgt := 62) dX12_writeBytes_58 (by decide) ?_
            exact z_st (by rw [zv_t (p := ¬ ((fR_in (w32 order_0) 0 1) = true)) h_142]) J_47
      have H := he_144
      refine z_aload_n (M := M_X12_writeBytes) dX12_writeBytes_26 rfl ?_
      refine z_iload_n (M := M_X12_writeBytes) dX12_writeBytes_27 rfl ?_
      obtain ⟨x_38, hc_37, H⟩ := bd_e H
      refine z_callV (M := M_X12_writeBytes) (M' := M_X12_has) (as := [vi slot_0]) (rest := [vr 277]) rfl rfl dX12_writeBytes_28 m_X12_has t_3033 t_3035 s_197 (c_X12_has hl  hc_37) rfl rfl ly_277 rfl (Nat.le_of_ble_eq_true rfl) (Nat.le_of_ble_eq_true rfl) (Nat.le_of_ble_eq_true rfl) (Nat.le_of_ble_eq_true rfl) ?_
      refine z_st (st' := [zv x_38, vr 277]) rfl ?_
      rcases if_e H with ⟨h_39, H⟩ | ⟨h_39, H⟩
      · refine z_zne_t (M := M_X12_writeBytes) (tgt := 38) dX12_writeBytes_31 (by decide) h_39 ?_
        refine z_zconst (M := M_X12_writeBytes) (b := false) dX12_writeBytes_38 rfl ?_
        exact J_146 _ (Option.some.inj H).symm
      · refine z_zne_f (M := M_X12_writeBytes) (tgt := 38) dX12_writeBytes_31 (by decide) h_39 ?_
        refine z_zconst (M := M_X12_writeBytes) (b := true) dX12_writeBytes_34 rfl ?_
        refine z_goto (M := M_X12_writeBytes) (tgt := 39) dX12_writeBytes_35 (by decide) ?_
        exact J_146 _ (Option.some.inj H).symm
  refine z_iload_n (M := M_X12_writeBytes) dX12_writeBytes_6 rfl ?_
  refine z_callS (M := M_X12_writeBytes) (M' := M_X12_isSlot) (as := [vi slot_0]) (rest := [vr 277]) rfl rfl dX12_writeBytes_7 m_X12_isSlot t_2841 t_2842 (c_X12_isSlot hl  rfl) rfl rfl (Nat.le_of_ble_eq_true rfl) (Nat.le_of_ble_eq_true rfl) (Nat.le_of_ble_eq_true rfl) (Nat.le_of_ble_eq_true rfl) ?_
  refine z_st (st' := [zv (fR_isSlot slot_0), vr 277]) rfl ?_
  by_cases h_147 : (fR_isSlot slot_0) = true
  · refine z_zne_t (M := M_X12_writeBytes) (tgt := 17) dX12_writeBytes_10 (by decide) h_147 ?_
    refine z_iconst (M := M_X12_writeBytes) dX12_writeBytes_17 ?_
    exact z_st (by rw [zv_f (p := ¬ ((fR_isSlot slot_0) = true)) (not_not_intro h_147)]) J_32
  · refine z_zne_f (M := M_X12_writeBytes) (tgt := 17) dX12_writeBytes_10 (by decide) h_147 ?_
    refine z_iconst (M := M_X12_writeBytes) dX12_writeBytes_13 ?_
    refine z_goto (M := M_X12_writeBytes) (tgt := 18) dX12_writeBytes_14 (by decide) ?_
    exact z_st (by rw [zv_t (p := ¬ ((fR_isSlot slot_0) = true)) h_147]) J_32
theorem c_X12_copy (hl : l.stackTraces = false) {σ : SG} {from_0 : Int} {to_0 : Int} {r : Int} {σ' : SG}  (H : fR_copy σ from_0 to_0 = some (r, σ')) : en_S l E M_X12_copy 2 0 0 [vr 277, vi from_0, vi to_0] σ (pS (some (vi r)) σ') := by
  unfold fR_copy at H
  refine z_mk (lv := [some (vr 277), some (vi from_0), some (vi to_0)]) m_X12_copy rfl hl (Nat.le_of_ble_eq_true rfl) rfl ?_
  refine z_aload_n (M := M_X12_copy) dX12_copy_0 rfl ?_
  refine z_iconst (M := M_X12_copy) dX12_copy_1 ?_
  obtain ⟨σ_1, σ_1_e, H⟩ := wf_e H
  refine z_putI (M := M_X12_copy) (ci := 15) (C := RX12) (T := TX12) (Nf := 135) (ty := tyX12) cl15 dX12_copy_2 ly_277 0 (by decide) t_2391 rfl rfl rfl rfl σ_1_e ?_
  refine z_aload_n (M := M_X12_copy) dX12_copy_5 rfl ?_
  have J_26 : YY l E M_X12_copy 2 0 0 (pS (some (vi r)) σ') 25 [some (vr 277), some (vi from_0), some (vi to_0)] [zv (decide ((¬ ((fR_isSlot from_0) = true)) ∨ (¬ ((fR_isSlot to_0) = true)))), vr 277] σ_1 0 0 := by
    refine z_iconst (M := M_X12_copy) dX12_copy_25 ?_
    obtain ⟨⟨x_29, σ_28⟩, hc_27, H⟩ := bd_e H
    refine z_callV (M := M_X12_copy) (M' := M_X12_fails) (as := [zv (decide ((¬ ((fR_isSlot from_0) = true)) ∨ (¬ ((fR_isSlot to_0) = true)))), vi 1]) (rest := []) rfl rfl dX12_copy_26 m_X12_fails t_2805 t_2807 s_157 (c_X12_fails hl  hc_27) rfl rfl ly_277 rfl (Nat.le_of_ble_eq_true rfl) (Nat.le_of_ble_eq_true rfl) (Nat.le_of_ble_eq_true rfl) (Nat.le_of_ble_eq_true rfl) ?_
    refine z_st (st' := [zv x_29]) rfl ?_
    rcases if_e H with ⟨h_30, H⟩ | ⟨h_30, H⟩
    · refine z_zne_t (M := M_X12_copy) (tgt := 53) dX12_copy_29 (by decide) h_30 ?_
      refine z_iconst (M := M_X12_copy) dX12_copy_53 ?_
      cases H
      exact z_iret (M := M_X12_copy) dX12_copy_54 rfl (Nat.le_of_ble_eq_true rfl) (Nat.le_of_ble_eq_true rfl) ⟨rfl, rfl⟩
    · refine z_zne_f (M := M_X12_copy) (tgt := 53) dX12_copy_29 (by decide) h_30 ?_
      refine z_aload_n (M := M_X12_copy) dX12_copy_32 rfl ?_
      obtain ⟨v_54, he_55, hk_56⟩ := bd_e H
      have J_57 : ∀ x_36, v_54 = x_36 → YY l E M_X12_copy 2 0 0 (pS (some (vi r)) σ') 46 [some (vr 277), some (vi from_0), some (vi to_0)] [zv x_36, vr 277] σ_28 0 0 := by
        intro x_36 e
        have H := hk_56
        rw [e] at H
        refine z_iconst (M := M_X12_copy) dX12_copy_46 ?_
        obtain ⟨⟨x_39, σ_38⟩, hc_37, H⟩ := bd_e H
        refine z_callV (M := M_X12_copy) (M' := M_X12_fails) (as := [zv x_36, vi 2]) (rest := []) rfl rfl dX12_copy_47 m_X12_fails t_2805 t_2807 s_157 (c_X12_fails hl  hc_37) rfl rfl ly_277 rfl (Nat.le_of_ble_eq_true rfl) (Nat.le_of_ble_eq_true rfl) (Nat.le_of_ble_eq_true rfl) (Nat.le_of_ble_eq_true rfl) ?_
        refine z_st (st' := [zv x_39]) rfl ?_
        rcases if_e H with ⟨h_40, H⟩ | ⟨h_40, H⟩
        · refine z_zeq_f (M := M_X12_copy) (tgt := 55) dX12_copy_50 (by decide) h_40 ?_
          refine z_iconst (M := M_X12_copy) dX12_copy_53 ?_
          cases H
          exact z_iret (M := M_X12_copy) dX12_copy_54 rfl (Nat.le_of_ble_eq_true rfl) (Nat.le_of_ble_eq_true rfl) ⟨rfl, rfl⟩
        · refine z_zeq_t (M := M_X12_copy) (tgt := 55) dX12_copy_50 (by decide) h_40 ?_
          obtain ⟨v_44, he_41, hk_42⟩ := bd_e H
          have J_53 : ∀ σ_50, v_44 = σ_50 → YY l E M_X12_copy 2 0 0 (pS (some (vi r)) σ') 66 [some (vr 277), some (vi from_0), some (vi to_0)] [] σ_50 0 0 := by
            intro σ_50 e
            have H := hk_42
            rw [e] at H
            refine z_aload_n (M := M_X12_copy) dX12_copy_66 rfl ?_
            refine z_getR (M := M_X12_copy) (ci := 15) (C := RX12) (T := TX12) (Nf := 135) (ty := tyX12) cl15 dX12_copy_67 ly_277 10 (by decide) t_2401 rfl ?_
            refine z_sipush (M := M_X12_copy) dX12_copy_70 (by decide +kernel) ?_
            refine z_iload_n (M := M_X12_copy) dX12_copy_73 rfl ?_
            refine z_imul (M := M_X12_copy) dX12_copy_74 ?_
            obtain ⟨x_51, x_51_e, hi_52, H⟩ := rd_e H
            refine z_iald (M := M_X12_copy) dX12_copy_75 ly_281 rfl rfl rfl hi_52 x_51_e ?_
            cases H
            exact z_iret (M := M_X12_copy) dX12_copy_76 rfl (Nat.le_of_ble_eq_true rfl) (Nat.le_of_ble_eq_true rfl) ⟨rfl, rfl⟩
          have H := he_41
          refine z_iload_n (M := M_X12_copy) dX12_copy_55 rfl ?_
          refine z_iload_n (M := M_X12_copy) dX12_copy_56 rfl ?_
          rcases if_e H with ⟨h_45, H⟩ | ⟨h_45, H⟩
          · refine z_icmp_eq_f (M := M_X12_copy) (tgt := 66) dX12_copy_57 (by decide) rfl rfl h_45 ?_
            refine z_aload_n (M := M_X12_copy) dX12_copy_60 rfl ?_
            refine z_iload_n (M := M_X12_copy) dX12_copy_61 rfl ?_
            refine z_iload_n (M := M_X12_copy) dX12_copy_62 rfl ?_
            obtain ⟨σ_47, hc_46, H⟩ := bd_e H
            refine z_callV (M := M_X12_copy) (M' := M_X12_move) (as := [vi from_0, vi to_0]) (rest := []) rfl rfl dX12_copy_63 m_X12_move t_3021 t_3023 s_196 (c_X12_move hl  hc_46) rfl rfl ly_277 rfl (Nat.le_of_ble_eq_true rfl) (Nat.le_of_ble_eq_true rfl) (Nat.le_of_ble_eq_true rfl) (Nat.le_of_ble_eq_true rfl) ?_
            refine z_st (st' := []) rfl ?_
            exact J_53 _ (Option.some.inj H).symm
          · refine z_icmp_eq_t (M := M_X12_copy) (tgt := 66) dX12_copy_57 (by decide) rfl rfl (Decidable.not_not.mp h_45) ?_
            exact J_53 _ (Option.some.inj H).symm
      have H := he_55
      refine z_aload_n (M := M_X12_copy) dX12_copy_33 rfl ?_
      refine z_iload_n (M := M_X12_copy) dX12_copy_34 rfl ?_
      obtain ⟨x_32, hc_31, H⟩ := bd_e H
      refine z_callV (M := M_X12_copy) (M' := M_X12_has) (as := [vi from_0]) (rest := [vr 277]) rfl rfl dX12_copy_35 m_X12_has t_3033 t_3035 s_197 (c_X12_has hl  hc_31) rfl rfl ly_277 rfl (Nat.le_of_ble_eq_true rfl) (Nat.le_of_ble_eq_true rfl) (Nat.le_of_ble_eq_true rfl) (Nat.le_of_ble_eq_true rfl) ?_
      refine z_st (st' := [zv x_32, vr 277]) rfl ?_
      rcases if_e H with ⟨h_33, H⟩ | ⟨h_33, H⟩
      · refine z_zne_t (M := M_X12_copy) (tgt := 45) dX12_copy_38 (by decide) h_33 ?_
        refine z_zconst (M := M_X12_copy) (b := false) dX12_copy_45 rfl ?_
        exact J_57 _ (Option.some.inj H).symm
      · refine z_zne_f (M := M_X12_copy) (tgt := 45) dX12_copy_38 (by decide) h_33 ?_
        refine z_zconst (M := M_X12_copy) (b := true) dX12_copy_41 rfl ?_
        refine z_goto (M := M_X12_copy) (tgt := 46) dX12_copy_42 (by decide) ?_
        exact J_57 _ (Option.some.inj H).symm
  refine z_iload_n (M := M_X12_copy) dX12_copy_6 rfl ?_
  refine z_callS (M := M_X12_copy) (M' := M_X12_isSlot) (as := [vi from_0]) (rest := [vr 277]) rfl rfl dX12_copy_7 m_X12_isSlot t_2841 t_2842 (c_X12_isSlot hl  rfl) rfl rfl (Nat.le_of_ble_eq_true rfl) (Nat.le_of_ble_eq_true rfl) (Nat.le_of_ble_eq_true rfl) (Nat.le_of_ble_eq_true rfl) ?_
  refine z_st (st' := [zv (fR_isSlot from_0), vr 277]) rfl ?_
  by_cases h_58 : (fR_isSlot from_0) = true
  · refine z_zeq_f (M := M_X12_copy) (tgt := 20) dX12_copy_10 (by decide) h_58 ?_
    refine z_iload_n (M := M_X12_copy) dX12_copy_13 rfl ?_
    refine z_callS (M := M_X12_copy) (M' := M_X12_isSlot) (as := [vi to_0]) (rest := [vr 277]) rfl rfl dX12_copy_14 m_X12_isSlot t_2841 t_2842 (c_X12_isSlot hl  rfl) rfl rfl (Nat.le_of_ble_eq_true rfl) (Nat.le_of_ble_eq_true rfl) (Nat.le_of_ble_eq_true rfl) (Nat.le_of_ble_eq_true rfl) ?_
    refine z_st (st' := [zv (fR_isSlot to_0), vr 277]) rfl ?_
    by_cases h_59 : (fR_isSlot to_0) = true
    · refine z_zne_t (M := M_X12_copy) (tgt := 24) dX12_copy_17 (by decide) h_59 ?_
      refine z_iconst (M := M_X12_copy) dX12_copy_24 ?_
      exact z_st (by rw [zv_f (p := (¬ ((fR_isSlot from_0) = true)) ∨ (¬ ((fR_isSlot to_0) = true))) (fun q => q.elim (not_not_intro h_58) (not_not_intro h_59))]) J_26
    · refine z_zne_f (M := M_X12_copy) (tgt := 24) dX12_copy_17 (by decide) h_59 ?_
      refine z_iconst (M := M_X12_copy) dX12_copy_20 ?_
      refine z_goto (M := M_X12_copy) (tgt := 25) dX12_copy_21 (by decide) ?_
      exact z_st (by rw [zv_t (p := (¬ ((fR_isSlot from_0) = true)) ∨ (¬ ((fR_isSlot to_0) = true))) (Or.inr h_59)]) J_26
  · refine z_zeq_t (M := M_X12_copy) (tgt := 20) dX12_copy_10 (by decide) h_58 ?_
    refine z_iconst (M := M_X12_copy) dX12_copy_20 ?_
    refine z_goto (M := M_X12_copy) (tgt := 25) dX12_copy_21 (by decide) ?_
    exact z_st (by rw [zv_t (p := (¬ ((fR_isSlot from_0) = true)) ∨ (¬ ((fR_isSlot to_0) = true))) (Or.inl h_58)]) J_26
theorem c_X12_drop (hl : l.stackTraces = false) {σ : SG} {slot_0 : Int} {r : Bool} {σ' : SG}  (H : fR_drop σ slot_0 = some (r, σ')) : en_S l E M_X12_drop 2 0 0 [vr 277, vi slot_0] σ (pS (some (zv r)) σ') := by
  unfold fR_drop at H
  refine z_mk (lv := [some (vr 277), some (vi slot_0), none]) m_X12_drop rfl hl (Nat.le_of_ble_eq_true rfl) rfl ?_
  refine z_aload_n (M := M_X12_drop) dX12_drop_0 rfl ?_
  refine z_iconst (M := M_X12_drop) dX12_drop_1 ?_
  obtain ⟨σ_1, σ_1_e, H⟩ := wf_e H
  refine z_putI (M := M_X12_drop) (ci := 15) (C := RX12) (T := TX12) (Nf := 135) (ty := tyX12) cl15 dX12_drop_2 ly_277 0 (by decide) t_2391 rfl rfl rfl rfl σ_1_e ?_
  refine z_aload_n (M := M_X12_drop) dX12_drop_5 rfl ?_
  have J_2 : YY l E M_X12_drop 2 0 0 (pS (some (zv r)) σ') 18 [some (vr 277), some (vi slot_0), none] [zv (decide (¬ ((fR_isSlot slot_0) = true))), vr 277] σ_1 0 0 := by
    refine z_iconst (M := M_X12_drop) dX12_drop_18 ?_
    obtain ⟨⟨x_5, σ_4⟩, hc_3, H⟩ := bd_e H
    refine z_callV (M := M_X12_drop) (M' := M_X12_fails) (as := [zv (decide (¬ ((fR_isSlot slot_0) = true))), vi 1]) (rest := []) rfl rfl dX12_drop_19 m_X12_fails t_2805 t_2807 s_157 (c_X12_fails hl  hc_3) rfl rfl ly_277 rfl (Nat.le_of_ble_eq_true rfl) (Nat.le_of_ble_eq_true rfl) (Nat.le_of_ble_eq_true rfl) (Nat.le_of_ble_eq_true rfl) ?_
    refine z_st (st' := [zv x_5]) rfl ?_
    rcases if_e H with ⟨h_6, H⟩ | ⟨h_6, H⟩
    · refine z_zeq_f (M := M_X12_drop) (tgt := 27) dX12_drop_22 (by decide) h_6 ?_
      refine z_zconst (M := M_X12_drop) (b := false) dX12_drop_25 rfl ?_
      cases H
      exact z_zret (M := M_X12_drop) dX12_drop_26 rfl (Nat.le_of_ble_eq_true rfl) (Nat.le_of_ble_eq_true rfl) ⟨rfl, rfl⟩
    · refine z_zeq_t (M := M_X12_drop) (tgt := 27) dX12_drop_22 (by decide) h_6 ?_
      refine z_aload_n (M := M_X12_drop) dX12_drop_27 rfl ?_
      refine z_iload_n (M := M_X12_drop) dX12_drop_28 rfl ?_
      obtain ⟨x_8, hc_7, H⟩ := bd_e H
      refine z_callV (M := M_X12_drop) (M' := M_X12_has) (as := [vi slot_0]) (rest := []) rfl rfl dX12_drop_29 m_X12_has t_3033 t_3035 s_197 (c_X12_has hl  hc_7) rfl rfl ly_277 rfl (Nat.le_of_ble_eq_true rfl) (Nat.le_of_ble_eq_true rfl) (Nat.le_of_ble_eq_true rfl) (Nat.le_of_ble_eq_true rfl) ?_
      refine z_st (st' := [zv x_8]) rfl ?_
      refine z_zstore_n (M := M_X12_drop) (lv' := [some (vr 277), some (vi slot_0), some (zv x_8)]) dX12_drop_32 (Nat.le_of_ble_eq_true rfl) rfl rfl ?_
      refine z_aload_n (M := M_X12_drop) dX12_drop_33 rfl ?_
      refine z_iload_n (M := M_X12_drop) dX12_drop_34 rfl ?_
      obtain ⟨σ_10, hc_9, H⟩ := bd_e H
      refine z_callV (M := M_X12_drop) (M' := M_X12_clear) (as := [vi slot_0]) (rest := []) rfl rfl dX12_drop_35 m_X12_clear t_2848 t_2850 s_161 (c_X12_clear hl  hc_9) rfl rfl ly_277 rfl (Nat.le_of_ble_eq_true rfl) (Nat.le_of_ble_eq_true rfl) (Nat.le_of_ble_eq_true rfl) (Nat.le_of_ble_eq_true rfl) ?_
      refine z_st (st' := []) rfl ?_
      refine z_zload_n (M := M_X12_drop) dX12_drop_38 rfl ?_
      cases H
      exact z_zret (M := M_X12_drop) dX12_drop_39 rfl (Nat.le_of_ble_eq_true rfl) (Nat.le_of_ble_eq_true rfl) ⟨rfl, rfl⟩
  refine z_iload_n (M := M_X12_drop) dX12_drop_6 rfl ?_
  refine z_callS (M := M_X12_drop) (M' := M_X12_isSlot) (as := [vi slot_0]) (rest := [vr 277]) rfl rfl dX12_drop_7 m_X12_isSlot t_2841 t_2842 (c_X12_isSlot hl  rfl) rfl rfl (Nat.le_of_ble_eq_true rfl) (Nat.le_of_ble_eq_true rfl) (Nat.le_of_ble_eq_true rfl) (Nat.le_of_ble_eq_true rfl) ?_
  refine z_st (st' := [zv (fR_isSlot slot_0), vr 277]) rfl ?_
  by_cases h_11 : (fR_isSlot slot_0) = true
  · refine z_zne_t (M := M_X12_drop) (tgt := 17) dX12_drop_10 (by decide) h_11 ?_
    refine z_iconst (M := M_X12_drop) dX12_drop_17 ?_
    exact z_st (by rw [zv_f (p := ¬ ((fR_isSlot slot_0) = true)) (not_not_intro h_11)]) J_2
  · refine z_zne_f (M := M_X12_drop) (tgt := 17) dX12_drop_10 (by decide) h_11 ?_
    refine z_iconst (M := M_X12_drop) dX12_drop_13 ?_
    refine z_goto (M := M_X12_drop) (tgt := 18) dX12_drop_14 (by decide) ?_
    exact z_st (by rw [zv_t (p := ¬ ((fR_isSlot slot_0) = true)) h_11]) J_2
end LFAR
