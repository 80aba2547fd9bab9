section LFAH
variable {l : Launch} {E : EE}
theorem c_X4_isFartherLeft (hl : l.stackTraces = false) {σ : SG} {h_0 : Int} {back_0 : Int} {a_0 : Int} {b_0 : Int} {r : Bool}  (H : fG_isFartherLeft σ h_0 back_0 a_0 b_0 = some r) : en_S l E M_X4_isFartherLeft 4 0 0 [vr 208, vi h_0, vi back_0, vi a_0, vi b_0] σ (pS (some (zv r)) σ) := by
  unfold fG_isFartherLeft at H
  refine z_mk (lv := [some (vr 208), some (vi h_0), some (vi back_0), some (vi a_0), some (vi b_0), none, none]) m_X4_isFartherLeft rfl hl (Nat.le_of_ble_eq_true rfl) rfl ?_
  refine z_aload_n (M := M_X4_isFartherLeft) dX4_isFartherLeft_0 rfl ?_
  refine z_iload_n (M := M_X4_isFartherLeft) dX4_isFartherLeft_1 rfl ?_
  refine z_iload_n (M := M_X4_isFartherLeft) dX4_isFartherLeft_2 rfl ?_
  refine z_iload_n (M := M_X4_isFartherLeft) dX4_isFartherLeft_3 rfl ?_
  obtain ⟨x_2, hc_1, H⟩ := bd_e H
  refine z_callV (M := M_X4_isFartherLeft) (M' := M_X4_turnAt) (as := [vi h_0, vi back_0, vi a_0]) (rest := []) rfl rfl dX4_isFartherLeft_4 m_X4_turnAt t_1500 t_1502 s_82 (c_X4_turnAt hl  hc_1) rfl rfl ly_208 rfl (Nat.le_of_ble_eq_true rfl) (Nat.le_of_ble_eq_true rfl) (Nat.le_of_ble_eq_true rfl) (Nat.le_of_ble_eq_true rfl) ?_
  refine z_st (st' := [vi x_2]) rfl ?_
  refine z_istore (M := M_X4_isFartherLeft) (lv' := [some (vr 208), some (vi h_0), some (vi back_0), some (vi a_0), some (vi b_0), some (vi x_2), none]) dX4_isFartherLeft_7 (Nat.le_of_ble_eq_true rfl) rfl rfl ?_
  refine z_aload_n (M := M_X4_isFartherLeft) dX4_isFartherLeft_9 rfl ?_
  refine z_iload_n (M := M_X4_isFartherLeft) dX4_isFartherLeft_10 rfl ?_
  refine z_iload_n (M := M_X4_isFartherLeft) dX4_isFartherLeft_11 rfl ?_
  refine z_iload (M := M_X4_isFartherLeft) dX4_isFartherLeft_12 rfl ?_
  obtain ⟨x_4, hc_3, H⟩ := bd_e H
  refine z_callV (M := M_X4_isFartherLeft) (M' := M_X4_turnAt) (as := [vi h_0, vi back_0, vi b_0]) (rest := []) rfl rfl dX4_isFartherLeft_14 m_X4_turnAt t_1500 t_1502 s_82 (c_X4_turnAt hl  hc_3) rfl rfl ly_208 rfl (Nat.le_of_ble_eq_true rfl) (Nat.le_of_ble_eq_true rfl) (Nat.le_of_ble_eq_true rfl) (Nat.le_of_ble_eq_true rfl) ?_
  refine z_st (st' := [vi x_4]) rfl ?_
  refine z_istore (M := M_X4_isFartherLeft) (lv' := [some (vr 208), some (vi h_0), some (vi back_0), some (vi a_0), some (vi b_0), some (vi x_2), some (vi x_4)]) dX4_isFartherLeft_17 (Nat.le_of_ble_eq_true rfl) rfl rfl ?_
  refine z_iload (M := M_X4_isFartherLeft) dX4_isFartherLeft_19 rfl ?_
  refine z_iload (M := M_X4_isFartherLeft) dX4_isFartherLeft_21 rfl ?_
  rcases if_e H with ⟨h_5, H⟩ | ⟨h_5, H⟩
  · refine z_icmp_eq_f (M := M_X4_isFartherLeft) (tgt := 39) dX4_isFartherLeft_23 (by decide) rfl rfl h_5 ?_
    have J_6 : YY l E M_X4_isFartherLeft 4 0 0 (pS (some (zv r)) σ) 38 [some (vr 208), some (vi h_0), some (vi back_0), some (vi a_0), some (vi b_0), some (vi x_2), some (vi x_4)] [zv (decide ((w32 x_4) < (w32 x_2)))] σ 0 0 := by
      cases H
      exact z_zret (M := M_X4_isFartherLeft) dX4_isFartherLeft_38 rfl (Nat.le_of_ble_eq_true rfl) (Nat.le_of_ble_eq_true rfl) ⟨rfl, rfl⟩
    refine z_iload (M := M_X4_isFartherLeft) dX4_isFartherLeft_26 rfl ?_
    refine z_iload (M := M_X4_isFartherLeft) dX4_isFartherLeft_28 rfl ?_
    by_cases h_7 : (w32 x_4) < (w32 x_2)
    · refine z_icmp_ge_f (M := M_X4_isFartherLeft) (tgt := 37) dX4_isFartherLeft_30 (by decide) rfl rfl h_7 ?_
      refine z_iconst (M := M_X4_isFartherLeft) dX4_isFartherLeft_33 ?_
      refine z_goto (M := M_X4_isFartherLeft) (tgt := 38) dX4_isFartherLeft_34 (by decide) ?_
      exact z_st (by rw [zv_t (p := (w32 x_4) < (w32 x_2)) h_7]) J_6
    · refine z_icmp_ge_t (M := M_X4_isFartherLeft) (tgt := 37) dX4_isFartherLeft_30 (by decide) rfl rfl (Int.not_lt.mp h_7) ?_
      refine z_iconst (M := M_X4_isFartherLeft) dX4_isFartherLeft_37 ?_
      exact z_st (by rw [zv_f (p := (w32 x_4) < (w32 x_2)) h_7]) J_6
  · refine z_icmp_eq_t (M := M_X4_isFartherLeft) (tgt := 39) dX4_isFartherLeft_23 (by decide) rfl rfl (Decidable.not_not.mp h_5) ?_
    obtain ⟨v_14, he_15, hk_16⟩ := bd_e H
    have J_17 : ∀ x_13, v_14 = x_13 → YY l E M_X4_isFartherLeft 4 0 0 (pS (some (zv r)) σ) 55 [some (vr 208), some (vi h_0), some (vi back_0), some (vi a_0), some (vi b_0), some (vi x_2), some (vi x_4)] [zv x_13] σ 0 0 := by
      intro x_13 e
      have H := hk_16
      rw [e] at H
      cases H
      exact z_zret (M := M_X4_isFartherLeft) dX4_isFartherLeft_55 rfl (Nat.le_of_ble_eq_true rfl) (Nat.le_of_ble_eq_true rfl) ⟨rfl, rfl⟩
    have H := he_15
    refine z_aload_n (M := M_X4_isFartherLeft) dX4_isFartherLeft_39 rfl ?_
    refine z_iload_n (M := M_X4_isFartherLeft) dX4_isFartherLeft_40 rfl ?_
    refine z_iload_n (M := M_X4_isFartherLeft) dX4_isFartherLeft_41 rfl ?_
    refine z_iload (M := M_X4_isFartherLeft) dX4_isFartherLeft_42 rfl ?_
    obtain ⟨x_9, hc_8, H⟩ := bd_e H
    refine z_callV (M := M_X4_isFartherLeft) (M' := M_X4_turnAt) (as := [vi h_0, vi a_0, vi b_0]) (rest := []) rfl rfl dX4_isFartherLeft_44 m_X4_turnAt t_1500 t_1502 s_82 (c_X4_turnAt hl  hc_8) rfl rfl ly_208 rfl (Nat.le_of_ble_eq_true rfl) (Nat.le_of_ble_eq_true rfl) (Nat.le_of_ble_eq_true rfl) (Nat.le_of_ble_eq_true rfl) ?_
    refine z_st (st' := [vi x_9]) rfl ?_
    rcases if_e H with ⟨h_10, H⟩ | ⟨h_10, H⟩
    · refine z_if_le_f (M := M_X4_isFartherLeft) (tgt := 54) dX4_isFartherLeft_47 (by decide) rfl h_10 ?_
      refine z_zconst (M := M_X4_isFartherLeft) (b := true) dX4_isFartherLeft_50 rfl ?_
      refine z_goto (M := M_X4_isFartherLeft) (tgt := 55) dX4_isFartherLeft_51 (by decide) ?_
      exact J_17 _ (Option.some.inj H).symm
    · refine z_if_le_t (M := M_X4_isFartherLeft) (tgt := 54) dX4_isFartherLeft_47 (by decide) rfl (Int.not_lt.mp h_10) ?_
      refine z_zconst (M := M_X4_isFartherLeft) (b := false) dX4_isFartherLeft_54 rfl ?_
      exact J_17 _ (Option.some.inj H).symm
theorem c_X4_otherEnd (hl : l.stackTraces = false) {σ : SG} {piece_0 : Int} {h_0 : Int} {r : Int}  (H : fG_otherEnd σ piece_0 h_0 = some r) : en_S l E M_X4_otherEnd 1 0 0 [vr 208, vi piece_0, vi h_0] σ (pS (some (vi r)) σ) := by
  unfold fG_otherEnd at H
  refine z_mk (lv := [some (vr 208), some (vi piece_0), some (vi h_0)]) m_X4_otherEnd rfl hl (Nat.le_of_ble_eq_true rfl) rfl ?_
  obtain ⟨v_11, he_12, hk_13⟩ := bd_e H
  have J_14 : ∀ x_10, v_11 = x_10 → YY l E M_X4_otherEnd 1 0 0 (pS (some (vi r)) σ) 34 [some (vr 208), some (vi piece_0), some (vi h_0)] [vi x_10] σ 0 0 := by
    intro x_10 e
    have H := hk_13
    rw [e] at H
    cases H
    exact z_iret (M := M_X4_otherEnd) dX4_otherEnd_34 rfl (Nat.le_of_ble_eq_true rfl) (Nat.le_of_ble_eq_true rfl) ⟨rfl, rfl⟩
  have H := he_12
  refine z_aload_n (M := M_X4_otherEnd) dX4_otherEnd_0 rfl ?_
  refine z_getR (M := M_X4_otherEnd) (ci := 7) (C := RX4) (T := TX4) (Nf := 17) (ty := tyX4) cl7 dX4_otherEnd_1 ly_208 0 (by decide) t_381 rfl ?_
  refine z_getR (M := M_X4_otherEnd) (ci := 11) (C := RX8) (T := TX8) (Nf := 13) (ty := tyX8) cl11 dX4_otherEnd_4 ly_193 9 (by decide) t_340 rfl ?_
  refine z_iload_n (M := M_X4_otherEnd) dX4_otherEnd_7 rfl ?_
  obtain ⟨x_1, x_1_e, hi_2, H⟩ := rd_e H
  refine z_iald (M := M_X4_otherEnd) dX4_otherEnd_8 ly_205 rfl rfl rfl hi_2 x_1_e ?_
  refine z_iload_n (M := M_X4_otherEnd) dX4_otherEnd_9 rfl ?_
  rcases if_e H with ⟨h_3, H⟩ | ⟨h_3, H⟩
  · refine z_icmp_ne_f (M := M_X4_otherEnd) (tgt := 25) dX4_otherEnd_10 (by decide) rfl rfl h_3 ?_
    refine z_aload_n (M := M_X4_otherEnd) dX4_otherEnd_13 rfl ?_
    refine z_getR (M := M_X4_otherEnd) (ci := 7) (C := RX4) (T := TX4) (Nf := 17) (ty := tyX4) cl7 dX4_otherEnd_14 ly_208 0 (by decide) t_381 rfl ?_
    refine z_getR (M := M_X4_otherEnd) (ci := 11) (C := RX8) (T := TX8) (Nf := 13) (ty := tyX8) cl11 dX4_otherEnd_17 ly_193 10 (by decide) t_342 rfl ?_
    refine z_iload_n (M := M_X4_otherEnd) dX4_otherEnd_20 rfl ?_
    obtain ⟨x_4, x_4_e, hi_5, H⟩ := rd_e H
    refine z_iald (M := M_X4_otherEnd) dX4_otherEnd_21 ly_206 rfl rfl rfl hi_5 x_4_e ?_
    refine z_goto (M := M_X4_otherEnd) (tgt := 34) dX4_otherEnd_22 (by decide) ?_
    exact J_14 _ (Option.some.inj H).symm
  · refine z_icmp_ne_t (M := M_X4_otherEnd) (tgt := 25) dX4_otherEnd_10 (by decide) rfl rfl h_3 ?_
    refine z_aload_n (M := M_X4_otherEnd) dX4_otherEnd_25 rfl ?_
    refine z_getR (M := M_X4_otherEnd) (ci := 7) (C := RX4) (T := TX4) (Nf := 17) (ty := tyX4) cl7 dX4_otherEnd_26 ly_208 0 (by decide) t_381 rfl ?_
    refine z_getR (M := M_X4_otherEnd) (ci := 11) (C := RX8) (T := TX8) (Nf := 13) (ty := tyX8) cl11 dX4_otherEnd_29 ly_193 9 (by decide) t_340 rfl ?_
    refine z_iload_n (M := M_X4_otherEnd) dX4_otherEnd_32 rfl ?_
    obtain ⟨x_7, x_7_e, hi_8, H⟩ := rd_e H
    refine z_iald (M := M_X4_otherEnd) dX4_otherEnd_33 ly_205 rfl rfl rfl hi_8 x_7_e ?_
    exact J_14 _ (Option.some.inj H).symm
theorem c_X4_startOf (hl : l.stackTraces = false) {σ : SG} {piece_0 : Int} {r : Int}  (H : fG_startOf σ piece_0 = some r) : en_S l E M_X4_startOf 1 0 0 [vr 208, vi piece_0] σ (pS (some (vi r)) σ) := by
  unfold fG_startOf at H
  refine z_mk (lv := [some (vr 208), some (vi piece_0)]) m_X4_startOf rfl hl (Nat.le_of_ble_eq_true rfl) rfl ?_
  obtain ⟨v_11, he_12, hk_13⟩ := bd_e H
  have J_14 : ∀ x_10, v_11 = x_10 → YY l E M_X4_startOf 1 0 0 (pS (some (vi r)) σ) 30 [some (vr 208), some (vi piece_0)] [vi x_10] σ 0 0 := by
    intro x_10 e
    have H := hk_13
    rw [e] at H
    cases H
    exact z_iret (M := M_X4_startOf) dX4_startOf_30 rfl (Nat.le_of_ble_eq_true rfl) (Nat.le_of_ble_eq_true rfl) ⟨rfl, rfl⟩
  have H := he_12
  refine z_aload_n (M := M_X4_startOf) dX4_startOf_0 rfl ?_
  refine z_getR (M := M_X4_startOf) (ci := 7) (C := RX4) (T := TX4) (Nf := 17) (ty := tyX4) cl7 dX4_startOf_1 ly_208 5 (by decide) t_386 rfl ?_
  refine z_iload_n (M := M_X4_startOf) dX4_startOf_4 rfl ?_
  obtain ⟨x_1, x_1_e, hi_2, H⟩ := rd_e H
  refine z_zald (M := M_X4_startOf) dX4_startOf_5 ly_212 rfl rfl rfl hi_2 x_1_e ?_
  rcases if_e H with ⟨h_3, H⟩ | ⟨h_3, H⟩
  · refine z_zeq_f (M := M_X4_startOf) (tgt := 21) dX4_startOf_6 (by decide) h_3 ?_
    refine z_aload_n (M := M_X4_startOf) dX4_startOf_9 rfl ?_
    refine z_getR (M := M_X4_startOf) (ci := 7) (C := RX4) (T := TX4) (Nf := 17) (ty := tyX4) cl7 dX4_startOf_10 ly_208 0 (by decide) t_381 rfl ?_
    refine z_getR (M := M_X4_startOf) (ci := 11) (C := RX8) (T := TX8) (Nf := 13) (ty := tyX8) cl11 dX4_startOf_13 ly_193 10 (by decide) t_342 rfl ?_
    refine z_iload_n (M := M_X4_startOf) dX4_startOf_16 rfl ?_
    obtain ⟨x_4, x_4_e, hi_5, H⟩ := rd_e H
    refine z_iald (M := M_X4_startOf) dX4_startOf_17 ly_206 rfl rfl rfl hi_5 x_4_e ?_
    refine z_goto (M := M_X4_startOf) (tgt := 30) dX4_startOf_18 (by decide) ?_
    exact J_14 _ (Option.some.inj H).symm
  · refine z_zeq_t (M := M_X4_startOf) (tgt := 21) dX4_startOf_6 (by decide) h_3 ?_
    refine z_aload_n (M := M_X4_startOf) dX4_startOf_21 rfl ?_
    refine z_getR (M := M_X4_startOf) (ci := 7) (C := RX4) (T := TX4) (Nf := 17) (ty := tyX4) cl7 dX4_startOf_22 ly_208 0 (by decide) t_381 rfl ?_
    refine z_getR (M := M_X4_startOf) (ci := 11) (C := RX8) (T := TX8) (Nf := 13) (ty := tyX8) cl11 dX4_startOf_25 ly_193 9 (by decide) t_340 rfl ?_
    refine z_iload_n (M := M_X4_startOf) dX4_startOf_28 rfl ?_
    obtain ⟨x_7, x_7_e, hi_8, H⟩ := rd_e H
    refine z_iald (M := M_X4_startOf) dX4_startOf_29 ly_205 rfl rfl rfl hi_8 x_7_e ?_
    exact J_14 _ (Option.some.inj H).symm
theorem c_X4_nextPiece (hl : l.stackTraces = false) {σ : SG} {piece_0 : Int} {h_0 : Int} {r : Int}  (H : fG_nextPiece σ piece_0 h_0 = some r) : en_S l E M_X4_nextPiece 5 0 0 [vr 208, vi piece_0, vi h_0] σ (pS (some (vi r)) σ) := by
  unfold fG_nextPiece at H
  refine z_mk (lv := [some (vr 208), some (vi piece_0), some (vi h_0), none, none, none, none]) m_X4_nextPiece rfl hl (Nat.le_of_ble_eq_true rfl) rfl ?_
  refine z_aload_n (M := M_X4_nextPiece) dX4_nextPiece_0 rfl ?_
  refine z_iload_n (M := M_X4_nextPiece) dX4_nextPiece_1 rfl ?_
  obtain ⟨x_2, hc_1, H⟩ := bd_e H
  refine z_callV (M := M_X4_nextPiece) (M' := M_X4_startOf) (as := [vi piece_0]) (rest := []) rfl rfl dX4_nextPiece_2 m_X4_startOf t_1789 t_1791 s_89 (c_X4_startOf hl  hc_1) rfl rfl ly_208 rfl (Nat.le_of_ble_eq_true rfl) (Nat.le_of_ble_eq_true rfl) (Nat.le_of_ble_eq_true rfl) (Nat.le_of_ble_eq_true rfl) ?_
  refine z_st (st' := [vi x_2]) rfl ?_
  refine z_istore_n (M := M_X4_nextPiece) (lv' := [some (vr 208), some (vi piece_0), some (vi h_0), some (vi x_2), none, none, none]) dX4_nextPiece_5 (Nat.le_of_ble_eq_true rfl) rfl rfl ?_
  refine z_iconst (M := M_X4_nextPiece) dX4_nextPiece_6 ?_
  refine z_istore (M := M_X4_nextPiece) (lv' := [some (vr 208), some (vi piece_0), some (vi h_0), some (vi x_2), some (vi (-1)), none, none]) dX4_nextPiece_7 (Nat.le_of_ble_eq_true rfl) rfl rfl ?_
  refine z_aload_n (M := M_X4_nextPiece) dX4_nextPiece_9 rfl ?_
  refine z_getR (M := M_X4_nextPiece) (ci := 7) (C := RX4) (T := TX4) (Nf := 17) (ty := tyX4) cl7 dX4_nextPiece_10 ly_208 6 (by decide) t_387 rfl ?_
  refine z_iload_n (M := M_X4_nextPiece) dX4_nextPiece_13 rfl ?_
  obtain ⟨x_3, x_3_e, hi_4, H⟩ := rd_e H
  refine z_iald (M := M_X4_nextPiece) dX4_nextPiece_14 ly_213 rfl rfl rfl hi_4 x_3_e ?_
  refine z_istore (M := M_X4_nextPiece) (lv' := [some (vr 208), some (vi piece_0), some (vi h_0), some (vi x_2), some (vi (-1)), some (vi x_3), none]) dX4_nextPiece_15 (Nat.le_of_ble_eq_true rfl) rfl rfl ?_
  obtain ⟨rl_10, hw_7, hk_8⟩ := bd_e H
  have J_57 : ∀ best_55 k_56, rl_10 = (best_55, k_56) → YY l E M_X4_nextPiece 5 0 0 (pS (some (vi r)) σ) 84 [some (vr 208), some (vi piece_0), some (vi h_0), some (vi x_2), some (vi best_55), some (vi k_56), none] [] σ 0 0 := by
    intro best_55 k_56 e
    have H := hk_8
    rw [e] at H
    refine z_iload (M := M_X4_nextPiece) dX4_nextPiece_84 rfl ?_
    cases H
    exact z_iret (M := M_X4_nextPiece) dX4_nextPiece_86 rfl (Nat.le_of_ble_eq_true rfl) (Nat.le_of_ble_eq_true rfl) ⟨rfl, rfl⟩
  refine whl_go hw_7 (fun (best_5, k_6) => YY l E M_X4_nextPiece 5 0 0 (pS (some (vi r)) σ) 17 [some (vr 208), some (vi piece_0), some (vi h_0), some (vi x_2), some (vi best_5), some (vi k_6), none] [] σ 0 0) ?_
  rintro ⟨best_5, k_6⟩ o_11 H K_12 K_13
  refine z_iload (M := M_X4_nextPiece) dX4_nextPiece_17 rfl ?_
  refine z_aload_n (M := M_X4_nextPiece) dX4_nextPiece_19 rfl ?_
  refine z_getR (M := M_X4_nextPiece) (ci := 7) (C := RX4) (T := TX4) (Nf := 17) (ty := tyX4) cl7 dX4_nextPiece_20 ly_208 6 (by decide) t_387 rfl ?_
  refine z_iload_n (M := M_X4_nextPiece) dX4_nextPiece_23 rfl ?_
  refine z_iconst (M := M_X4_nextPiece) dX4_nextPiece_24 ?_
  refine z_iadd (M := M_X4_nextPiece) dX4_nextPiece_25 ?_
  obtain ⟨x_14, x_14_e, hi_15, H⟩ := rd_e H
  refine z_iald (M := M_X4_nextPiece) dX4_nextPiece_26 ly_213 rfl rfl rfl hi_15 x_14_e ?_
  rcases if_e H with ⟨h_16, H⟩ | ⟨h_16, H⟩
  · refine z_icmp_ge_f (M := M_X4_nextPiece) (tgt := 84) dX4_nextPiece_27 (by decide) rfl rfl h_16 ?_
    refine z_aload_n (M := M_X4_nextPiece) dX4_nextPiece_30 rfl ?_
    refine z_getR (M := M_X4_nextPiece) (ci := 7) (C := RX4) (T := TX4) (Nf := 17) (ty := tyX4) cl7 dX4_nextPiece_31 ly_208 7 (by decide) t_388 rfl ?_
    refine z_iload (M := M_X4_nextPiece) dX4_nextPiece_34 rfl ?_
    obtain ⟨x_17, x_17_e, hi_18, H⟩ := rd_e H
    refine z_iald (M := M_X4_nextPiece) dX4_nextPiece_36 ly_214 rfl rfl rfl hi_18 x_17_e ?_
    refine z_istore (M := M_X4_nextPiece) (lv' := [some (vr 208), some (vi piece_0), some (vi h_0), some (vi x_2), some (vi best_5), some (vi k_6), some (vi x_17)]) dX4_nextPiece_37 (Nat.le_of_ble_eq_true rfl) rfl rfl ?_
    obtain ⟨v_22, he_19, hk_20⟩ := bd_e H
    have J_53 : ∀ best_51, v_22 = best_51 → YY l E M_X4_nextPiece 5 0 0 (pS (some (vi r)) σ) 78 [some (vr 208), some (vi piece_0), some (vi h_0), some (vi x_2), some (vi best_51), some (vi k_6), some (vi x_17)] [] σ 0 0 := by
      intro best_51 e
      have H := hk_20
      rw [e] at H
      refine z_iinc (M := M_X4_nextPiece) (lv' := [some (vr 208), some (vi piece_0), some (vi h_0), some (vi x_2), some (vi best_51), some (vi (k_6 + 1)), some (vi x_17)]) dX4_nextPiece_78 rfl (Nat.le_of_ble_eq_true rfl) rfl rfl ?_
      refine z_goto (M := M_X4_nextPiece) (tgt := 17) dX4_nextPiece_81 (by decide) ?_
      refine z_le (lv' := [some (vr 208), some (vi piece_0), some (vi h_0), some (vi x_2), some (vi best_51), some (vi (k_6 + 1)), none]) ⟨Or.inr rfl, Or.inr rfl, Or.inr rfl, Or.inr rfl, Or.inr rfl, Or.inr rfl, Or.inl rfl, trivial⟩ ?_
      exact K_12 _ (Option.some.inj H).symm
    have H := he_19
    refine z_iload (M := M_X4_nextPiece) dX4_nextPiece_39 rfl ?_
    refine z_iload_n (M := M_X4_nextPiece) dX4_nextPiece_41 rfl ?_
    rcases if_e H with ⟨h_38, H⟩ | ⟨h_38, H⟩
    · refine z_icmp_eq_f (M := M_X4_nextPiece) (tgt := 78) dX4_nextPiece_42 (by decide) rfl rfl h_38 ?_
      refine z_iload (M := M_X4_nextPiece) dX4_nextPiece_45 rfl ?_
      refine z_iconst (M := M_X4_nextPiece) dX4_nextPiece_47 ?_
      rcases if_e H with ⟨h_39, H⟩ | ⟨h_39, H⟩
      · refine z_icmp_eq_t (M := M_X4_nextPiece) (tgt := 74) dX4_nextPiece_48 (by decide) rfl (by decide +kernel) h_39 ?_
        refine z_iload (M := M_X4_nextPiece) dX4_nextPiece_74 rfl ?_
        refine z_istore (M := M_X4_nextPiece) (lv' := [some (vr 208), some (vi piece_0), some (vi h_0), some (vi x_2), some (vi x_17), some (vi k_6), some (vi x_17)]) dX4_nextPiece_76 (Nat.le_of_ble_eq_true rfl) rfl rfl ?_
        exact J_53 _ (Option.some.inj H).symm
      · refine z_icmp_eq_f (M := M_X4_nextPiece) (tgt := 74) dX4_nextPiece_48 (by decide) rfl (by decide +kernel) h_39 ?_
        refine z_aload_n (M := M_X4_nextPiece) dX4_nextPiece_51 rfl ?_
        refine z_iload_n (M := M_X4_nextPiece) dX4_nextPiece_52 rfl ?_
        refine z_iload_n (M := M_X4_nextPiece) dX4_nextPiece_53 rfl ?_
        refine z_aload_n (M := M_X4_nextPiece) dX4_nextPiece_54 rfl ?_
        refine z_iload (M := M_X4_nextPiece) dX4_nextPiece_55 rfl ?_
        refine z_iload_n (M := M_X4_nextPiece) dX4_nextPiece_57 rfl ?_
        obtain ⟨x_42, hc_41, H⟩ := bd_e H
        refine z_callV (M := M_X4_nextPiece) (M' := M_X4_otherEnd) (as := [vi best_5, vi h_0]) (rest := [vi x_2, vi h_0, vr 208]) rfl rfl dX4_nextPiece_58 m_X4_otherEnd t_1809 t_1811 s_94 (c_X4_otherEnd hl  hc_41) rfl rfl ly_208 rfl (Nat.le_of_ble_eq_true rfl) (Nat.le_of_ble_eq_true rfl) (Nat.le_of_ble_eq_true rfl) (Nat.le_of_ble_eq_true rfl) ?_
        refine z_st (st' := [vi x_42, vi x_2, vi h_0, vr 208]) rfl ?_
        refine z_aload_n (M := M_X4_nextPiece) dX4_nextPiece_61 rfl ?_
        refine z_iload (M := M_X4_nextPiece) dX4_nextPiece_62 rfl ?_
        refine z_iload_n (M := M_X4_nextPiece) dX4_nextPiece_64 rfl ?_
        obtain ⟨x_44, hc_43, H⟩ := bd_e H
        refine z_callV (M := M_X4_nextPiece) (M' := M_X4_otherEnd) (as := [vi x_17, vi h_0]) (rest := [vi x_42, vi x_2, vi h_0, vr 208]) rfl rfl dX4_nextPiece_65 m_X4_otherEnd t_1809 t_1811 s_94 (c_X4_otherEnd hl  hc_43) rfl rfl ly_208 rfl (Nat.le_of_ble_eq_true rfl) (Nat.le_of_ble_eq_true rfl) (Nat.le_of_ble_eq_true rfl) (Nat.le_of_ble_eq_true rfl) ?_
        refine z_st (st' := [vi x_44, vi x_42, vi x_2, vi h_0, vr 208]) rfl ?_
        obtain ⟨x_46, hc_45, H⟩ := bd_e H
        refine z_callV (M := M_X4_nextPiece) (M' := M_X4_isFartherLeft) (as := [vi h_0, vi x_2, vi x_42, vi x_44]) (rest := []) rfl rfl dX4_nextPiece_68 m_X4_isFartherLeft t_1813 t_1815 s_95 (c_X4_isFartherLeft hl  hc_45) rfl rfl ly_208 rfl (Nat.le_of_ble_eq_true rfl) (Nat.le_of_ble_eq_true rfl) (Nat.le_of_ble_eq_true rfl) (Nat.le_of_ble_eq_true rfl) ?_
        refine z_st (st' := [zv x_46]) rfl ?_
        rcases if_e H with ⟨h_47, H⟩ | ⟨h_47, H⟩
        · refine z_zeq_f (M := M_X4_nextPiece) (tgt := 78) dX4_nextPiece_71 (by decide) h_47 ?_
          refine z_iload (M := M_X4_nextPiece) dX4_nextPiece_74 rfl ?_
          refine z_istore (M := M_X4_nextPiece) (lv' := [some (vr 208), some (vi piece_0), some (vi h_0), some (vi x_2), some (vi x_17), some (vi k_6), some (vi x_17)]) dX4_nextPiece_76 (Nat.le_of_ble_eq_true rfl) rfl rfl ?_
          exact J_53 _ (Option.some.inj H).symm
        · refine z_zeq_t (M := M_X4_nextPiece) (tgt := 78) dX4_nextPiece_71 (by decide) h_47 ?_
          exact J_53 _ (Option.some.inj H).symm
    · refine z_icmp_eq_t (M := M_X4_nextPiece) (tgt := 78) dX4_nextPiece_42 (by decide) rfl rfl (Decidable.not_not.mp h_38) ?_
      exact J_53 _ (Option.some.inj H).symm
  · refine z_icmp_ge_t (M := M_X4_nextPiece) (tgt := 84) dX4_nextPiece_27 (by decide) rfl rfl (Int.not_lt.mp h_16) ?_
    exact J_57 _ _ (K_13 _ (Option.some.inj H).symm).symm
theorem c_X4_twiceAround (hl : l.stackTraces = false) {σ : SG} {from_0 : Int} {to_0 : Int} {r : Int}  (H : fG_twiceAround σ from_0 to_0 = some r) : en_S l E M_X4_twiceAround 1 0 0 [vr 208, vi from_0, vi to_0] σ (pS (some (vl r)) σ) := by
  unfold fG_twiceAround at H
  refine z_mk (lv := [some (vr 208), some (vi from_0), some (vi to_0), none, none, none, none]) m_X4_twiceAround rfl hl (Nat.le_of_ble_eq_true rfl) rfl ?_
  refine z_lconst (M := M_X4_twiceAround) (m := 0) dX4_twiceAround_0 (by decide +kernel) ?_
  refine z_lstore_n (M := M_X4_twiceAround) (lv' := [some (vr 208), some (vi from_0), some (vi to_0), some (vl 0), none, none, none]) dX4_twiceAround_1 (Nat.le_of_ble_eq_true rfl) rfl rfl ?_
  refine z_iload_n (M := M_X4_twiceAround) dX4_twiceAround_2 rfl ?_
  refine z_istore (M := M_X4_twiceAround) (lv' := [some (vr 208), some (vi from_0), some (vi to_0), some (vl 0), none, some (vi from_0), none]) dX4_twiceAround_3 (Nat.le_of_ble_eq_true rfl) rfl rfl ?_
  obtain ⟨rl_6, hw_3, hk_4⟩ := bd_e H
  have J_44 : ∀ total_42 k_43, rl_6 = (total_42, k_43) → YY l E M_X4_twiceAround 1 0 0 (pS (some (vl r)) σ) 105 [some (vr 208), some (vi from_0), some (vi to_0), some (vl total_42), none, some (vi k_43), none] [] σ 0 0 := by
    intro total_42 k_43 e
    have H := hk_4
    rw [e] at H
    refine z_lload_n (M := M_X4_twiceAround) dX4_twiceAround_105 rfl ?_
    cases H
    exact z_lret (M := M_X4_twiceAround) dX4_twiceAround_106 rfl (Nat.le_of_ble_eq_true rfl) (Nat.le_of_ble_eq_true rfl) ⟨rfl, rfl⟩
  refine whl_go hw_3 (fun (total_1, k_2) => YY l E M_X4_twiceAround 1 0 0 (pS (some (vl r)) σ) 5 [some (vr 208), some (vi from_0), some (vi to_0), some (vl total_1), none, some (vi k_2), none] [] σ 0 0) ?_
  rintro ⟨total_1, k_2⟩ o_7 H K_8 K_9
  refine z_iload (M := M_X4_twiceAround) dX4_twiceAround_5 rfl ?_
  refine z_iload_n (M := M_X4_twiceAround) dX4_twiceAround_7 rfl ?_
  rcases if_e H with ⟨h_10, H⟩ | ⟨h_10, H⟩
  · refine z_icmp_ge_f (M := M_X4_twiceAround) (tgt := 105) dX4_twiceAround_8 (by decide) rfl rfl h_10 ?_
    obtain ⟨v_37, he_38, hk_39⟩ := bd_e H
    have J_40 : ∀ x_22, v_37 = x_22 → YY l E M_X4_twiceAround 1 0 0 (pS (some (vl r)) σ) 37 [some (vr 208), some (vi from_0), some (vi to_0), some (vl total_1), none, some (vi k_2), none] [vi x_22] σ 0 0 := by
      intro x_22 e
      have H := hk_39
      rw [e] at H
      refine z_istore (M := M_X4_twiceAround) (lv' := [some (vr 208), some (vi from_0), some (vi to_0), some (vl total_1), none, some (vi k_2), some (vi x_22)]) dX4_twiceAround_37 (Nat.le_of_ble_eq_true rfl) rfl rfl ?_
      refine z_lload_n (M := M_X4_twiceAround) dX4_twiceAround_39 rfl ?_
      refine z_aload_n (M := M_X4_twiceAround) dX4_twiceAround_40 rfl ?_
      refine z_getR (M := M_X4_twiceAround) (ci := 7) (C := RX4) (T := TX4) (Nf := 17) (ty := tyX4) cl7 dX4_twiceAround_41 ly_208 0 (by decide) t_381 rfl ?_
      refine z_getR (M := M_X4_twiceAround) (ci := 11) (C := RX8) (T := TX8) (Nf := 13) (ty := tyX8) cl11 dX4_twiceAround_44 ly_193 6 (by decide) t_334 rfl ?_
      refine z_aload_n (M := M_X4_twiceAround) dX4_twiceAround_47 rfl ?_
      refine z_getR (M := M_X4_twiceAround) (ci := 7) (C := RX4) (T := TX4) (Nf := 17) (ty := tyX4) cl7 dX4_twiceAround_48 ly_208 10 (by decide) t_391 rfl ?_
      refine z_iload (M := M_X4_twiceAround) dX4_twiceAround_51 rfl ?_
      obtain ⟨x_23, x_23_e, hi_24, H⟩ := rd_e H
      refine z_iald (M := M_X4_twiceAround) dX4_twiceAround_53 ly_217 rfl rfl rfl hi_24 x_23_e ?_
      obtain ⟨x_25, x_25_e, hi_26, H⟩ := rd_e H
      refine z_iald (M := M_X4_twiceAround) dX4_twiceAround_54 ly_203 rfl rfl rfl hi_26 x_25_e ?_
      refine z_i2l (M := M_X4_twiceAround) dX4_twiceAround_55 ?_
      refine z_aload_n (M := M_X4_twiceAround) dX4_twiceAround_56 rfl ?_
      refine z_getR (M := M_X4_twiceAround) (ci := 7) (C := RX4) (T := TX4) (Nf := 17) (ty := tyX4) cl7 dX4_twiceAround_57 ly_208 0 (by decide) t_381 rfl ?_
      refine z_getR (M := M_X4_twiceAround) (ci := 11) (C := RX8) (T := TX8) (Nf := 13) (ty := tyX8) cl11 dX4_twiceAround_60 ly_193 7 (by decide) t_336 rfl ?_
      refine z_iload (M := M_X4_twiceAround) dX4_twiceAround_63 rfl ?_
      obtain ⟨x_27, x_27_e, hi_28, H⟩ := rd_e H
      refine z_iald (M := M_X4_twiceAround) dX4_twiceAround_65 ly_204 rfl rfl rfl hi_28 x_27_e ?_
      refine z_i2l (M := M_X4_twiceAround) dX4_twiceAround_66 ?_
      refine z_lmul (M := M_X4_twiceAround) dX4_twiceAround_67 ?_
      refine z_aload_n (M := M_X4_twiceAround) dX4_twiceAround_68 rfl ?_
      refine z_getR (M := M_X4_twiceAround) (ci := 7) (C := RX4) (T := TX4) (Nf := 17) (ty := tyX4) cl7 dX4_twiceAround_69 ly_208 0 (by decide) t_381 rfl ?_
      refine z_getR (M := M_X4_twiceAround) (ci := 11) (C := RX8) (T := TX8) (Nf := 13) (ty := tyX8) cl11 dX4_twiceAround_72 ly_193 6 (by decide) t_334 rfl ?_
      refine z_iload (M := M_X4_twiceAround) dX4_twiceAround_75 rfl ?_
      obtain ⟨x_29, x_29_e, hi_30, H⟩ := rd_e H
      refine z_iald (M := M_X4_twiceAround) dX4_twiceAround_77 ly_203 rfl rfl rfl hi_30 x_29_e ?_
      refine z_i2l (M := M_X4_twiceAround) dX4_twiceAround_78 ?_
      refine z_aload_n (M := M_X4_twiceAround) dX4_twiceAround_79 rfl ?_
      refine z_getR (M := M_X4_twiceAround) (ci := 7) (C := RX4) (T := TX4) (Nf := 17) (ty := tyX4) cl7 dX4_twiceAround_80 ly_208 0 (by decide) t_381 rfl ?_
      refine z_getR (M := M_X4_twiceAround) (ci := 11) (C := RX8) (T := TX8) (Nf := 13) (ty := tyX8) cl11 dX4_twiceAround_83 ly_193 7 (by decide) t_336 rfl ?_
      refine z_aload_n (M := M_X4_twiceAround) dX4_twiceAround_86 rfl ?_
      refine z_getR (M := M_X4_twiceAround) (ci := 7) (C := RX4) (T := TX4) (Nf := 17) (ty := tyX4) cl7 dX4_twiceAround_87 ly_208 10 (by decide) t_391 rfl ?_
      refine z_iload (M := M_X4_twiceAround) dX4_twiceAround_90 rfl ?_
      obtain ⟨x_31, x_31_e, hi_32, H⟩ := rd_e H
      refine z_iald (M := M_X4_twiceAround) dX4_twiceAround_92 ly_217 rfl rfl rfl hi_32 x_31_e ?_
      obtain ⟨x_33, x_33_e, hi_34, H⟩ := rd_e H
      refine z_iald (M := M_X4_twiceAround) dX4_twiceAround_93 ly_204 rfl rfl rfl hi_34 x_33_e ?_
      refine z_i2l (M := M_X4_twiceAround) dX4_twiceAround_94 ?_
      refine z_lmul (M := M_X4_twiceAround) dX4_twiceAround_95 ?_
      refine z_lsub (M := M_X4_twiceAround) dX4_twiceAround_96 ?_
      refine z_ladd (M := M_X4_twiceAround) dX4_twiceAround_97 ?_
      obtain ⟨x_35, x_35_e, H⟩ := lt_e H
      refine z_st (congrArg (fun z => vl z :: []) x_35_e) ?_
      refine z_lstore_n (M := M_X4_twiceAround) (lv' := [some (vr 208), some (vi from_0), some (vi to_0), some (vl x_35), none, some (vi k_2), some (vi x_22)]) dX4_twiceAround_98 (Nat.le_of_ble_eq_true rfl) rfl rfl ?_
      refine z_iinc (M := M_X4_twiceAround) (lv' := [some (vr 208), some (vi from_0), some (vi to_0), some (vl x_35), none, some (vi (k_2 + 1)), some (vi x_22)]) dX4_twiceAround_99 rfl (Nat.le_of_ble_eq_true rfl) rfl rfl ?_
      refine z_goto (M := M_X4_twiceAround) (tgt := 5) dX4_twiceAround_102 (by decide) ?_
      refine z_le (lv' := [some (vr 208), some (vi from_0), some (vi to_0), some (vl x_35), none, some (vi (k_2 + 1)), none]) ⟨Or.inr rfl, Or.inr rfl, Or.inr rfl, Or.inr rfl, Or.inl rfl, Or.inr rfl, Or.inl rfl, trivial⟩ ?_
      exact K_8 _ (Option.some.inj H).symm
    have H := he_38
    refine z_iload (M := M_X4_twiceAround) dX4_twiceAround_11 rfl ?_
    refine z_iconst (M := M_X4_twiceAround) dX4_twiceAround_13 ?_
    refine z_iadd (M := M_X4_twiceAround) dX4_twiceAround_14 ?_
    refine z_iload_n (M := M_X4_twiceAround) dX4_twiceAround_15 rfl ?_
    rcases if_e H with ⟨h_15, H⟩ | ⟨h_15, H⟩
    · refine z_icmp_ge_f (M := M_X4_twiceAround) (tgt := 31) dX4_twiceAround_16 (by decide) rfl rfl h_15 ?_
      refine z_aload_n (M := M_X4_twiceAround) dX4_twiceAround_19 rfl ?_
      refine z_getR (M := M_X4_twiceAround) (ci := 7) (C := RX4) (T := TX4) (Nf := 17) (ty := tyX4) cl7 dX4_twiceAround_20 ly_208 10 (by decide) t_391 rfl ?_
      refine z_iload (M := M_X4_twiceAround) dX4_twiceAround_23 rfl ?_
      refine z_iconst (M := M_X4_twiceAround) dX4_twiceAround_25 ?_
      refine z_iadd (M := M_X4_twiceAround) dX4_twiceAround_26 ?_
      obtain ⟨x_16, x_16_e, hi_17, H⟩ := rd_e H
      refine z_iald (M := M_X4_twiceAround) dX4_twiceAround_27 ly_217 rfl rfl rfl hi_17 x_16_e ?_
      refine z_goto (M := M_X4_twiceAround) (tgt := 37) dX4_twiceAround_28 (by decide) ?_
      exact J_40 _ (Option.some.inj H).symm
    · refine z_icmp_ge_t (M := M_X4_twiceAround) (tgt := 31) dX4_twiceAround_16 (by decide) rfl rfl (Int.not_lt.mp h_15) ?_
      refine z_aload_n (M := M_X4_twiceAround) dX4_twiceAround_31 rfl ?_
      refine z_getR (M := M_X4_twiceAround) (ci := 7) (C := RX4) (T := TX4) (Nf := 17) (ty := tyX4) cl7 dX4_twiceAround_32 ly_208 10 (by decide) t_391 rfl ?_
      refine z_iload_n (M := M_X4_twiceAround) dX4_twiceAround_35 rfl ?_
      obtain ⟨x_19, x_19_e, hi_20, H⟩ := rd_e H
      refine z_iald (M := M_X4_twiceAround) dX4_twiceAround_36 ly_217 rfl rfl rfl hi_20 x_19_e ?_
      exact J_40 _ (Option.some.inj H).symm
  · refine z_icmp_ge_t (M := M_X4_twiceAround) (tgt := 105) dX4_twiceAround_8 (by decide) rfl rfl (Int.not_lt.mp h_10) ?_
    exact J_44 _ _ (K_9 _ (Option.some.inj H).symm).symm
theorem c_X4_takeRing (hl : l.stackTraces = false) {σ : SG} {from_0 : Int} {to_0 : Int} {r : Bool} {σ' : SG}  (H : fG_takeRing σ from_0 to_0 = some (r, σ')) : en_S l E M_X4_takeRing 4 0 0 [vr 208, vi from_0, vi to_0] σ (pS (some (zv r)) σ') := by
  unfold fG_takeRing at H
  refine z_mk (lv := [some (vr 208), some (vi from_0), some (vi to_0), none, none, none, none, none, none]) m_X4_takeRing rfl hl (Nat.le_of_ble_eq_true rfl) rfl ?_
  refine z_iload_n (M := M_X4_takeRing) dX4_takeRing_0 rfl ?_
  refine z_istore_n (M := M_X4_takeRing) (lv' := [some (vr 208), some (vi from_0), some (vi to_0), some (vi from_0), none, none, none, none, none]) dX4_takeRing_1 (Nat.le_of_ble_eq_true rfl) rfl rfl ?_
  refine z_iload_n (M := M_X4_takeRing) dX4_takeRing_2 rfl ?_
  refine z_istore (M := M_X4_takeRing) (lv' := [some (vr 208), some (vi from_0), some (vi to_0), some (vi from_0), some (vi from_0), none, none, none, none]) dX4_takeRing_3 (Nat.le_of_ble_eq_true rfl) rfl rfl ?_
  obtain ⟨rl_6, hw_3, hk_4⟩ := bd_e H
  have J_110 : ∀ least_25 k_26, rl_6 = (least_25, k_26) → YY l E M_X4_takeRing 4 0 0 (pS (some (zv r)) σ') 40 [some (vr 208), some (vi from_0), some (vi to_0), some (vi least_25), some (vi k_26), none, none, none, none] [] σ 0 0 := by
    intro least_25 k_26 e
    have H := hk_4
    rw [e] at H
    refine z_aload_n (M := M_X4_takeRing) dX4_takeRing_40 rfl ?_
    refine z_getI (M := M_X4_takeRing) (ci := 7) (C := RX4) (T := TX4) (Nf := 17) (ty := tyX4) cl7 dX4_takeRing_41 ly_208 16 (by decide) t_397 rfl rfl ?_
    refine z_sipush (M := M_X4_takeRing) dX4_takeRing_44 (by decide +kernel) ?_
    rcases if_e H with ⟨h_27, H⟩ | ⟨h_27, H⟩
    · refine z_icmp_lt_f (M := M_X4_takeRing) (tgt := 52) dX4_takeRing_47 (by decide) rfl (by decide +kernel) h_27 ?_
      refine z_zconst (M := M_X4_takeRing) (b := false) dX4_takeRing_50 rfl ?_
      cases H
      exact z_zret (M := M_X4_takeRing) dX4_takeRing_51 rfl (Nat.le_of_ble_eq_true rfl) (Nat.le_of_ble_eq_true rfl) ⟨rfl, rfl⟩
    · refine z_icmp_lt_t (M := M_X4_takeRing) (tgt := 52) dX4_takeRing_47 (by decide) rfl (by decide +kernel) (Int.not_le.mp h_27) ?_
      refine z_aload_n (M := M_X4_takeRing) dX4_takeRing_52 rfl ?_
      refine z_getR (M := M_X4_takeRing) (ci := 7) (C := RX4) (T := TX4) (Nf := 17) (ty := tyX4) cl7 dX4_takeRing_53 ly_208 12 (by decide) t_393 rfl ?_
      refine z_aload_n (M := M_X4_takeRing) dX4_takeRing_56 rfl ?_
      refine z_getI (M := M_X4_takeRing) (ci := 7) (C := RX4) (T := TX4) (Nf := 17) (ty := tyX4) cl7 dX4_takeRing_57 ly_208 16 (by decide) t_397 rfl rfl ?_
      refine z_aload_n (M := M_X4_takeRing) dX4_takeRing_60 rfl ?_
      refine z_getI (M := M_X4_takeRing) (ci := 7) (C := RX4) (T := TX4) (Nf := 17) (ty := tyX4) cl7 dX4_takeRing_61 ly_208 11 (by decide) t_392 rfl rfl ?_
      obtain ⟨σ_28, σ_28_e, hi_29, H⟩ := wa_e H
      refine z_iast (M := M_X4_takeRing) dX4_takeRing_64 ly_218 rfl rfl rfl hi_29 σ_28_e ?_
      refine z_iload_n (M := M_X4_takeRing) dX4_takeRing_65 rfl ?_
      refine z_iload_n (M := M_X4_takeRing) dX4_takeRing_66 rfl ?_
      refine z_isub (M := M_X4_takeRing) dX4_takeRing_67 ?_
      refine z_istore (M := M_X4_takeRing) (lv' := [some (vr 208), some (vi from_0), some (vi to_0), some (vi least_25), some (vi (to_0 - from_0)), none, none, none, none]) dX4_takeRing_68 (Nat.le_of_ble_eq_true rfl) rfl rfl ?_
      refine z_iconst (M := M_X4_takeRing) dX4_takeRing_70 ?_
      refine z_istore (M := M_X4_takeRing) (lv' := [some (vr 208), some (vi from_0), some (vi to_0), some (vi least_25), some (vi (to_0 - from_0)), some (vi 0), none, none, none]) dX4_takeRing_71 (Nat.le_of_ble_eq_true rfl) rfl rfl ?_
      obtain ⟨rl_35, hw_32, hk_33, hk_34⟩ := bx_e H
      have J_109 : ∀ k_96 σ_97, rl_35 = (.inl (k_96, σ_97)) → YY l E M_X4_takeRing 4 0 0 (pS (some (zv r)) σ') 222 [some (vr 208), some (vi from_0), some (vi to_0), some (vi least_25), some (vi (to_0 - from_0)), some (vi k_96), none, none, none] [] σ_97 0 0 := by
        intro k_96 σ_97 e
        have H := hk_33 _ e
        refine z_aload_n (M := M_X4_takeRing) dX4_takeRing_222 rfl ?_
        refine z_getR (M := M_X4_takeRing) (ci := 7) (C := RX4) (T := TX4) (Nf := 17) (ty := tyX4) cl7 dX4_takeRing_223 ly_208 13 (by decide) t_394 rfl ?_
        refine z_aload_n (M := M_X4_takeRing) dX4_takeRing_226 rfl ?_
        refine z_getI (M := M_X4_takeRing) (ci := 7) (C := RX4) (T := TX4) (Nf := 17) (ty := tyX4) cl7 dX4_takeRing_227 ly_208 16 (by decide) t_397 rfl rfl ?_
        refine z_aload_n (M := M_X4_takeRing) dX4_takeRing_230 rfl ?_
        refine z_aload_n (M := M_X4_takeRing) dX4_takeRing_231 rfl ?_
        refine z_getR (M := M_X4_takeRing) (ci := 7) (C := RX4) (T := TX4) (Nf := 17) (ty := tyX4) cl7 dX4_takeRing_232 ly_208 12 (by decide) t_393 rfl ?_
        refine z_aload_n (M := M_X4_takeRing) dX4_takeRing_235 rfl ?_
        refine z_getI (M := M_X4_takeRing) (ci := 7) (C := RX4) (T := TX4) (Nf := 17) (ty := tyX4) cl7 dX4_takeRing_236 ly_208 16 (by decide) t_397 rfl rfl ?_
        obtain ⟨x_98, x_98_e, hi_99, H⟩ := rd_e H
        refine z_iald (M := M_X4_takeRing) dX4_takeRing_239 ly_218 rfl rfl rfl hi_99 x_98_e ?_
        refine z_aload_n (M := M_X4_takeRing) dX4_takeRing_240 rfl ?_
        refine z_getI (M := M_X4_takeRing) (ci := 7) (C := RX4) (T := TX4) (Nf := 17) (ty := tyX4) cl7 dX4_takeRing_241 ly_208 11 (by decide) t_392 rfl rfl ?_
        obtain ⟨x_101, hc_100, H⟩ := bd_e H
        refine z_callV (M := M_X4_takeRing) (M' := M_X4_twiceAround) (as := [vi x_98, vi (σ_97 kG_corners 0)]) (rest := [vi (σ_97 kG_rings 0), vr 219]) rfl rfl dX4_takeRing_244 m_X4_twiceAround t_1801 t_1803 s_92 (c_X4_twiceAround hl  hc_100) rfl rfl ly_208 rfl (Nat.le_of_ble_eq_true rfl) (Nat.le_of_ble_eq_true rfl) (Nat.le_of_ble_eq_true rfl) (Nat.le_of_ble_eq_true rfl) ?_
        refine z_st (st' := [vl x_101, vi (σ_97 kG_rings 0), vr 219]) rfl ?_
        obtain ⟨σ_102, σ_102_e, hi_103, H⟩ := wa_e H
        refine z_last (M := M_X4_takeRing) dX4_takeRing_247 ly_219 rfl rfl rfl hi_103 σ_102_e ?_
        refine z_aload_n (M := M_X4_takeRing) dX4_takeRing_248 rfl ?_
        refine z_dup (M := M_X4_takeRing) dX4_takeRing_249 rfl ?_
        refine z_getI (M := M_X4_takeRing) (ci := 7) (C := RX4) (T := TX4) (Nf := 17) (ty := tyX4) cl7 dX4_takeRing_250 ly_208 16 (by decide) t_397 rfl rfl ?_
        refine z_iconst (M := M_X4_takeRing) dX4_takeRing_253 ?_
        refine z_iadd (M := M_X4_takeRing) dX4_takeRing_254 ?_
        obtain ⟨σ_104, σ_104_e, H⟩ := wf_e H
        refine z_putI (M := M_X4_takeRing) (ci := 7) (C := RX4) (T := TX4) (Nf := 17) (ty := tyX4) cl7 dX4_takeRing_255 ly_208 16 (by decide) t_397 rfl rfl rfl rfl σ_104_e ?_
        refine z_aload_n (M := M_X4_takeRing) dX4_takeRing_258 rfl ?_
        refine z_getR (M := M_X4_takeRing) (ci := 7) (C := RX4) (T := TX4) (Nf := 17) (ty := tyX4) cl7 dX4_takeRing_259 ly_208 12 (by decide) t_393 rfl ?_
        refine z_aload_n (M := M_X4_takeRing) dX4_takeRing_262 rfl ?_
        refine z_getI (M := M_X4_takeRing) (ci := 7) (C := RX4) (T := TX4) (Nf := 17) (ty := tyX4) cl7 dX4_takeRing_263 ly_208 16 (by decide) t_397 rfl rfl ?_
        refine z_aload_n (M := M_X4_takeRing) dX4_takeRing_266 rfl ?_
        refine z_getI (M := M_X4_takeRing) (ci := 7) (C := RX4) (T := TX4) (Nf := 17) (ty := tyX4) cl7 dX4_takeRing_267 ly_208 11 (by decide) t_392 rfl rfl ?_
        obtain ⟨σ_105, σ_105_e, hi_106, H⟩ := wa_e H
        refine z_iast (M := M_X4_takeRing) dX4_takeRing_270 ly_218 rfl rfl rfl hi_106 σ_105_e ?_
        have J_107 : YY l E M_X4_takeRing 4 0 0 (pS (some (zv r)) σ') 291 [some (vr 208), some (vi from_0), some (vi to_0), some (vi least_25), some (vi (to_0 - from_0)), some (vi k_96), none, none, none] [zv (decide ((w32 ((σ_105 kG_corners 0) + (σ_105 kG_rings 0))) ≤ 2048))] σ_105 0 0 := by
          cases H
          exact z_zret (M := M_X4_takeRing) dX4_takeRing_291 rfl (Nat.le_of_ble_eq_true rfl) (Nat.le_of_ble_eq_true rfl) ⟨rfl, rfl⟩
        refine z_aload_n (M := M_X4_takeRing) dX4_takeRing_271 rfl ?_
        refine z_getI (M := M_X4_takeRing) (ci := 7) (C := RX4) (T := TX4) (Nf := 17) (ty := tyX4) cl7 dX4_takeRing_272 ly_208 11 (by decide) t_392 rfl rfl ?_
        refine z_aload_n (M := M_X4_takeRing) dX4_takeRing_275 rfl ?_
        refine z_getI (M := M_X4_takeRing) (ci := 7) (C := RX4) (T := TX4) (Nf := 17) (ty := tyX4) cl7 dX4_takeRing_276 ly_208 16 (by decide) t_397 rfl rfl ?_
        refine z_iadd (M := M_X4_takeRing) dX4_takeRing_279 ?_
        refine z_sipush (M := M_X4_takeRing) dX4_takeRing_280 (by decide +kernel) ?_
        by_cases h_108 : (w32 ((σ_105 kG_corners 0) + (σ_105 kG_rings 0))) ≤ 2048
        · refine z_icmp_gt_f (M := M_X4_takeRing) (tgt := 290) dX4_takeRing_283 (by decide) rfl (by decide +kernel) h_108 ?_
          refine z_iconst (M := M_X4_takeRing) dX4_takeRing_286 ?_
          refine z_goto (M := M_X4_takeRing) (tgt := 291) dX4_takeRing_287 (by decide) ?_
          exact z_st (by rw [zv_t (p := (w32 ((σ_105 kG_corners 0) + (σ_105 kG_rings 0))) ≤ 2048) h_108]) J_107
        · refine z_icmp_gt_t (M := M_X4_takeRing) (tgt := 290) dX4_takeRing_283 (by decide) rfl (by decide +kernel) (Int.not_le.mp h_108) ?_
          refine z_iconst (M := M_X4_takeRing) dX4_takeRing_290 ?_
          exact z_st (by rw [zv_f (p := (w32 ((σ_105 kG_corners 0) + (σ_105 kG_rings 0))) ≤ 2048) h_108]) J_107
      refine whl_go hw_32 (fun (k_30, σ_31) => YY l E M_X4_takeRing 4 0 0 (pS (some (zv r)) σ') 73 [some (vr 208), some (vi from_0), some (vi to_0), some (vi least_25), some (vi (to_0 - from_0)), some (vi k_30), none, none, none] [] σ_31 0 0) ?_
      rintro ⟨k_30, σ_31⟩ o_36 H K_37 K_38
      refine z_iload (M := M_X4_takeRing) dX4_takeRing_73 rfl ?_
      refine z_iload (M := M_X4_takeRing) dX4_takeRing_75 rfl ?_
      rcases if_e H with ⟨h_39, H⟩ | ⟨h_39, H⟩
      · refine z_icmp_ge_f (M := M_X4_takeRing) (tgt := 222) dX4_takeRing_77 (by decide) rfl rfl h_39 ?_
        have J_40 : YY l E M_X4_takeRing 4 0 0 (pS (some (zv r)) σ') 102 [some (vr 208), some (vi from_0), some (vi to_0), some (vi least_25), some (vi (to_0 - from_0)), some (vi k_30), none, none, none] [vi (if (w32 (least_25 + k_30)) < (w32 to_0) then (least_25 + k_30) else ((least_25 + k_30) - (to_0 - from_0)))] σ_31 0 0 := by
          obtain ⟨x_41, x_41_e, H⟩ := lt_e H
          refine z_st (congrArg (fun z => vi z :: []) x_41_e) ?_
          refine z_istore (M := M_X4_takeRing) (lv' := [some (vr 208), some (vi from_0), some (vi to_0), some (vi least_25), some (vi (to_0 - from_0)), some (vi k_30), some (vi x_41), none, none]) dX4_takeRing_102 (Nat.le_of_ble_eq_true rfl) rfl rfl ?_
          obtain ⟨v_90, he_91, hk_92⟩ := bd_e H
          have J_93 : ∀ x_53, v_90 = x_53 → YY l E M_X4_takeRing 4 0 0 (pS (some (zv r)) σ') 130 [some (vr 208), some (vi from_0), some (vi to_0), some (vi least_25), some (vi (to_0 - from_0)), some (vi k_30), some (vi x_41), none, none] [vi x_53] σ_31 0 0 := by
            intro x_53 e
            have H := hk_92
            rw [e] at H
            refine z_istore (M := M_X4_takeRing) (lv' := [some (vr 208), some (vi from_0), some (vi to_0), some (vi least_25), some (vi (to_0 - from_0)), some (vi k_30), some (vi x_41), some (vi x_53), none]) dX4_takeRing_130 (Nat.le_of_ble_eq_true rfl) rfl rfl ?_
            obtain ⟨v_86, he_87, hk_88⟩ := bd_e H
            have J_89 : ∀ x_65, v_86 = x_65 → YY l E M_X4_takeRing 4 0 0 (pS (some (zv r)) σ') 158 [some (vr 208), some (vi from_0), some (vi to_0), some (vi least_25), some (vi (to_0 - from_0)), some (vi k_30), some (vi x_41), some (vi x_53), none] [vi x_65] σ_31 0 0 := by
              intro x_65 e
              have H := hk_88
              rw [e] at H
              refine z_istore (M := M_X4_takeRing) (lv' := [some (vr 208), some (vi from_0), some (vi to_0), some (vi least_25), some (vi (to_0 - from_0)), some (vi k_30), some (vi x_41), some (vi x_53), some (vi x_65)]) dX4_takeRing_158 (Nat.le_of_ble_eq_true rfl) rfl rfl ?_
              obtain ⟨v_69, he_66, hk_67, hk_68⟩ := bx_e H
              have J_85 : ∀ σ_83, v_69 = (.inl σ_83) → YY l E M_X4_takeRing 4 0 0 (pS (some (zv r)) σ') 216 [some (vr 208), some (vi from_0), some (vi to_0), some (vi least_25), some (vi (to_0 - from_0)), some (vi k_30), some (vi x_41), some (vi x_53), some (vi x_65)] [] σ_83 0 0 := by
                intro σ_83 e
                have H := hk_67 _ e
                refine z_iinc (M := M_X4_takeRing) (lv' := [some (vr 208), some (vi from_0), some (vi to_0), some (vi least_25), some (vi (to_0 - from_0)), some (vi (k_30 + 1)), some (vi x_41), some (vi x_53), some (vi x_65)]) dX4_takeRing_216 rfl (Nat.le_of_ble_eq_true rfl) rfl rfl ?_
                refine z_goto (M := M_X4_takeRing) (tgt := 73) dX4_takeRing_219 (by decide) ?_
                refine z_le (lv' := [some (vr 208), some (vi from_0), some (vi to_0), some (vi least_25), some (vi (to_0 - from_0)), some (vi (k_30 + 1)), none, none, none]) ⟨Or.inr rfl, Or.inr rfl, Or.inr rfl, Or.inr rfl, Or.inr rfl, Or.inr rfl, Or.inl rfl, Or.inl rfl, Or.inl rfl, trivial⟩ ?_
                exact K_37 _ (Option.some.inj H).symm
              have H := he_66
              refine z_aload_n (M := M_X4_takeRing) dX4_takeRing_160 rfl ?_
              refine z_iload (M := M_X4_takeRing) dX4_takeRing_161 rfl ?_
              refine z_aload_n (M := M_X4_takeRing) dX4_takeRing_163 rfl ?_
              refine z_getR (M := M_X4_takeRing) (ci := 7) (C := RX4) (T := TX4) (Nf := 17) (ty := tyX4) cl7 dX4_takeRing_164 ly_208 8 (by decide) t_389 rfl ?_
              refine z_iload (M := M_X4_takeRing) dX4_takeRing_167 rfl ?_
              obtain ⟨x_70, x_70_e, hi_71, H⟩ := rd_e H
              refine z_iald (M := M_X4_takeRing) dX4_takeRing_169 ly_215 rfl rfl rfl hi_71 x_70_e ?_
              refine z_iload (M := M_X4_takeRing) dX4_takeRing_170 rfl ?_
              obtain ⟨x_73, hc_72, H⟩ := bd_e H
              refine z_callV (M := M_X4_takeRing) (M' := M_X4_turnAt) (as := [vi x_53, vi x_70, vi x_65]) (rest := []) rfl rfl dX4_takeRing_172 m_X4_turnAt t_1500 t_1502 s_82 (c_X4_turnAt hl  hc_72) rfl rfl ly_208 rfl (Nat.le_of_ble_eq_true rfl) (Nat.le_of_ble_eq_true rfl) (Nat.le_of_ble_eq_true rfl) (Nat.le_of_ble_eq_true rfl) ?_
              refine z_st (st' := [vi x_73]) rfl ?_
              rcases if_e H with ⟨h_74, H⟩ | ⟨h_74, H⟩
              · refine z_if_eq_f (M := M_X4_takeRing) (tgt := 216) dX4_takeRing_175 (by decide) rfl h_74 ?_
                refine z_aload_n (M := M_X4_takeRing) dX4_takeRing_178 rfl ?_
                refine z_getI (M := M_X4_takeRing) (ci := 7) (C := RX4) (T := TX4) (Nf := 17) (ty := tyX4) cl7 dX4_takeRing_179 ly_208 11 (by decide) t_392 rfl rfl ?_
                refine z_sipush (M := M_X4_takeRing) dX4_takeRing_182 (by decide +kernel) ?_
                rcases if_e H with ⟨h_75, H⟩ | ⟨h_75, H⟩
                · refine z_icmp_lt_f (M := M_X4_takeRing) (tgt := 190) dX4_takeRing_185 (by decide) rfl (by decide +kernel) h_75 ?_
                  refine z_zconst (M := M_X4_takeRing) (b := false) dX4_takeRing_188 rfl ?_
                  have H := congrArg some (hk_68 _ (Option.some.inj H).symm)
                  have H := congrArg some (hk_34 _ ((K_38 _ (Option.some.inj H).symm).symm))
                  cases H
                  exact z_zret (M := M_X4_takeRing) dX4_takeRing_189 rfl (Nat.le_of_ble_eq_true rfl) (Nat.le_of_ble_eq_true rfl) ⟨rfl, rfl⟩
                · refine z_icmp_lt_t (M := M_X4_takeRing) (tgt := 190) dX4_takeRing_185 (by decide) rfl (by decide +kernel) (Int.not_le.mp h_75) ?_
                  refine z_aload_n (M := M_X4_takeRing) dX4_takeRing_190 rfl ?_
                  refine z_getR (M := M_X4_takeRing) (ci := 7) (C := RX4) (T := TX4) (Nf := 17) (ty := tyX4) cl7 dX4_takeRing_191 ly_208 10 (by decide) t_391 rfl ?_
                  refine z_aload_n (M := M_X4_takeRing) dX4_takeRing_194 rfl ?_
                  refine z_getI (M := M_X4_takeRing) (ci := 7) (C := RX4) (T := TX4) (Nf := 17) (ty := tyX4) cl7 dX4_takeRing_195 ly_208 11 (by decide) t_392 rfl rfl ?_
                  refine z_aload_n (M := M_X4_takeRing) dX4_takeRing_198 rfl ?_
                  refine z_getR (M := M_X4_takeRing) (ci := 7) (C := RX4) (T := TX4) (Nf := 17) (ty := tyX4) cl7 dX4_takeRing_199 ly_208 8 (by decide) t_389 rfl ?_
                  refine z_iload (M := M_X4_takeRing) dX4_takeRing_202 rfl ?_
                  obtain ⟨x_76, x_76_e, hi_77, H⟩ := rd_e H
                  refine z_iald (M := M_X4_takeRing) dX4_takeRing_204 ly_215 rfl rfl rfl hi_77 x_76_e ?_
                  obtain ⟨σ_78, σ_78_e, hi_79, H⟩ := wa_e H
                  refine z_iast (M := M_X4_takeRing) dX4_takeRing_205 ly_217 rfl rfl rfl hi_79 σ_78_e ?_
                  refine z_aload_n (M := M_X4_takeRing) dX4_takeRing_206 rfl ?_
                  refine z_dup (M := M_X4_takeRing) dX4_takeRing_207 rfl ?_
                  refine z_getI (M := M_X4_takeRing) (ci := 7) (C := RX4) (T := TX4) (Nf := 17) (ty := tyX4) cl7 dX4_takeRing_208 ly_208 11 (by decide) t_392 rfl rfl ?_
                  refine z_iconst (M := M_X4_takeRing) dX4_takeRing_211 ?_
                  refine z_iadd (M := M_X4_takeRing) dX4_takeRing_212 ?_
                  obtain ⟨σ_80, σ_80_e, H⟩ := wf_e H
                  refine z_putI (M := M_X4_takeRing) (ci := 7) (C := RX4) (T := TX4) (Nf := 17) (ty := tyX4) cl7 dX4_takeRing_213 ly_208 11 (by decide) t_392 rfl rfl rfl rfl σ_80_e ?_
                  exact J_85 _ (Option.some.inj H).symm
              · refine z_if_eq_t (M := M_X4_takeRing) (tgt := 216) dX4_takeRing_175 (by decide) rfl (Decidable.not_not.mp h_74) ?_
                exact J_85 _ (Option.some.inj H).symm
            have H := he_87
            refine z_iload (M := M_X4_takeRing) dX4_takeRing_132 rfl ?_
            refine z_iconst (M := M_X4_takeRing) dX4_takeRing_134 ?_
            refine z_iadd (M := M_X4_takeRing) dX4_takeRing_135 ?_
            refine z_iload_n (M := M_X4_takeRing) dX4_takeRing_136 rfl ?_
            rcases if_e H with ⟨h_58, H⟩ | ⟨h_58, H⟩
            · refine z_icmp_ge_f (M := M_X4_takeRing) (tgt := 152) dX4_takeRing_137 (by decide) rfl rfl h_58 ?_
              refine z_aload_n (M := M_X4_takeRing) dX4_takeRing_140 rfl ?_
              refine z_getR (M := M_X4_takeRing) (ci := 7) (C := RX4) (T := TX4) (Nf := 17) (ty := tyX4) cl7 dX4_takeRing_141 ly_208 8 (by decide) t_389 rfl ?_
              refine z_iload (M := M_X4_takeRing) dX4_takeRing_144 rfl ?_
              refine z_iconst (M := M_X4_takeRing) dX4_takeRing_146 ?_
              refine z_iadd (M := M_X4_takeRing) dX4_takeRing_147 ?_
              obtain ⟨x_59, x_59_e, hi_60, H⟩ := rd_e H
              refine z_iald (M := M_X4_takeRing) dX4_takeRing_148 ly_215 rfl rfl rfl hi_60 x_59_e ?_
              refine z_goto (M := M_X4_takeRing) (tgt := 158) dX4_takeRing_149 (by decide) ?_
              exact J_89 _ (Option.some.inj H).symm
            · refine z_icmp_ge_t (M := M_X4_takeRing) (tgt := 152) dX4_takeRing_137 (by decide) rfl rfl (Int.not_lt.mp h_58) ?_
              refine z_aload_n (M := M_X4_takeRing) dX4_takeRing_152 rfl ?_
              refine z_getR (M := M_X4_takeRing) (ci := 7) (C := RX4) (T := TX4) (Nf := 17) (ty := tyX4) cl7 dX4_takeRing_153 ly_208 8 (by decide) t_389 rfl ?_
              refine z_iload_n (M := M_X4_takeRing) dX4_takeRing_156 rfl ?_
              obtain ⟨x_62, x_62_e, hi_63, H⟩ := rd_e H
              refine z_iald (M := M_X4_takeRing) dX4_takeRing_157 ly_215 rfl rfl rfl hi_63 x_62_e ?_
              exact J_89 _ (Option.some.inj H).symm
          have H := he_91
          refine z_iload (M := M_X4_takeRing) dX4_takeRing_104 rfl ?_
          refine z_iload_n (M := M_X4_takeRing) dX4_takeRing_106 rfl ?_
          rcases if_e H with ⟨h_46, H⟩ | ⟨h_46, H⟩
          · refine z_icmp_le_f (M := M_X4_takeRing) (tgt := 122) dX4_takeRing_107 (by decide) rfl rfl h_46 ?_
            refine z_aload_n (M := M_X4_takeRing) dX4_takeRing_110 rfl ?_
            refine z_getR (M := M_X4_takeRing) (ci := 7) (C := RX4) (T := TX4) (Nf := 17) (ty := tyX4) cl7 dX4_takeRing_111 ly_208 8 (by decide) t_389 rfl ?_
            refine z_iload (M := M_X4_takeRing) dX4_takeRing_114 rfl ?_
            refine z_iconst (M := M_X4_takeRing) dX4_takeRing_116 ?_
            refine z_isub (M := M_X4_takeRing) dX4_takeRing_117 ?_
            obtain ⟨x_47, x_47_e, hi_48, H⟩ := rd_e H
            refine z_iald (M := M_X4_takeRing) dX4_takeRing_118 ly_215 rfl rfl rfl hi_48 x_47_e ?_
            refine z_goto (M := M_X4_takeRing) (tgt := 130) dX4_takeRing_119 (by decide) ?_
            exact J_93 _ (Option.some.inj H).symm
          · refine z_icmp_le_t (M := M_X4_takeRing) (tgt := 122) dX4_takeRing_107 (by decide) rfl rfl (Int.not_lt.mp h_46) ?_
            refine z_aload_n (M := M_X4_takeRing) dX4_takeRing_122 rfl ?_
            refine z_getR (M := M_X4_takeRing) (ci := 7) (C := RX4) (T := TX4) (Nf := 17) (ty := tyX4) cl7 dX4_takeRing_123 ly_208 8 (by decide) t_389 rfl ?_
            refine z_iload_n (M := M_X4_takeRing) dX4_takeRing_126 rfl ?_
            refine z_iconst (M := M_X4_takeRing) dX4_takeRing_127 ?_
            refine z_isub (M := M_X4_takeRing) dX4_takeRing_128 ?_
            obtain ⟨x_50, x_50_e, hi_51, H⟩ := rd_e H
            refine z_iald (M := M_X4_takeRing) dX4_takeRing_129 ly_215 rfl rfl rfl hi_51 x_50_e ?_
            exact J_93 _ (Option.some.inj H).symm
        refine z_iload_n (M := M_X4_takeRing) dX4_takeRing_80 rfl ?_
        refine z_iload (M := M_X4_takeRing) dX4_takeRing_81 rfl ?_
        refine z_iadd (M := M_X4_takeRing) dX4_takeRing_83 ?_
        refine z_iload_n (M := M_X4_takeRing) dX4_takeRing_84 rfl ?_
        by_cases h_94 : (w32 (least_25 + k_30)) < (w32 to_0)
        · refine z_icmp_ge_f (M := M_X4_takeRing) (tgt := 95) dX4_takeRing_85 (by decide) rfl rfl h_94 ?_
          refine z_iload_n (M := M_X4_takeRing) dX4_takeRing_88 rfl ?_
          refine z_iload (M := M_X4_takeRing) dX4_takeRing_89 rfl ?_
          refine z_iadd (M := M_X4_takeRing) dX4_takeRing_91 ?_
          refine z_goto (M := M_X4_takeRing) (tgt := 102) dX4_takeRing_92 (by decide) ?_
          exact z_st (by rw [if_pos (c := (w32 (least_25 + k_30)) < (w32 to_0)) h_94]) J_40
        · refine z_icmp_ge_t (M := M_X4_takeRing) (tgt := 95) dX4_takeRing_85 (by decide) rfl rfl (Int.not_lt.mp h_94) ?_
          refine z_iload_n (M := M_X4_takeRing) dX4_takeRing_95 rfl ?_
          refine z_iload (M := M_X4_takeRing) dX4_takeRing_96 rfl ?_
          refine z_iadd (M := M_X4_takeRing) dX4_takeRing_98 ?_
          refine z_iload (M := M_X4_takeRing) dX4_takeRing_99 rfl ?_
          refine z_isub (M := M_X4_takeRing) dX4_takeRing_101 ?_
          exact z_st (by rw [if_neg (c := (w32 (least_25 + k_30)) < (w32 to_0)) h_94]) J_40
      · refine z_icmp_ge_t (M := M_X4_takeRing) (tgt := 222) dX4_takeRing_77 (by decide) rfl rfl (Int.not_lt.mp h_39) ?_
        exact J_109 _ _ (K_38 _ (Option.some.inj H).symm).symm
  refine whl_go hw_3 (fun (least_1, k_2) => YY l E M_X4_takeRing 4 0 0 (pS (some (zv r)) σ') 5 [some (vr 208), some (vi from_0), some (vi to_0), some (vi least_1), some (vi k_2), none, none, none, none] [] σ 0 0) ?_
  rintro ⟨least_1, k_2⟩ o_7 H K_8 K_9
  refine z_iload (M := M_X4_takeRing) dX4_takeRing_5 rfl ?_
  refine z_iload_n (M := M_X4_takeRing) dX4_takeRing_7 rfl ?_
  rcases if_e H with ⟨h_10, H⟩ | ⟨h_10, H⟩
  · refine z_icmp_ge_f (M := M_X4_takeRing) (tgt := 40) dX4_takeRing_8 (by decide) rfl rfl h_10 ?_
    obtain ⟨v_20, he_21, hk_22⟩ := bd_e H
    have J_23 : ∀ x_18, v_20 = x_18 → YY l E M_X4_takeRing 4 0 0 (pS (some (zv r)) σ') 33 [some (vr 208), some (vi from_0), some (vi to_0), some (vi least_1), some (vi k_2), none, none, none, none] [vi x_18] σ 0 0 := by
      intro x_18 e
      have H := hk_22
      rw [e] at H
      refine z_istore_n (M := M_X4_takeRing) (lv' := [some (vr 208), some (vi from_0), some (vi to_0), some (vi x_18), some (vi k_2), none, none, none, none]) dX4_takeRing_33 (Nat.le_of_ble_eq_true rfl) rfl rfl ?_
      refine z_iinc (M := M_X4_takeRing) (lv' := [some (vr 208), some (vi from_0), some (vi to_0), some (vi x_18), some (vi (k_2 + 1)), none, none, none, none]) dX4_takeRing_34 rfl (Nat.le_of_ble_eq_true rfl) rfl rfl ?_
      refine z_goto (M := M_X4_takeRing) (tgt := 5) dX4_takeRing_37 (by decide) ?_
      exact K_8 _ (Option.some.inj H).symm
    have H := he_21
    refine z_aload_n (M := M_X4_takeRing) dX4_takeRing_11 rfl ?_
    refine z_getR (M := M_X4_takeRing) (ci := 7) (C := RX4) (T := TX4) (Nf := 17) (ty := tyX4) cl7 dX4_takeRing_12 ly_208 8 (by decide) t_389 rfl ?_
    refine z_iload (M := M_X4_takeRing) dX4_takeRing_15 rfl ?_
    obtain ⟨x_11, x_11_e, hi_12, H⟩ := rd_e H
    refine z_iald (M := M_X4_takeRing) dX4_takeRing_17 ly_215 rfl rfl rfl hi_12 x_11_e ?_
    refine z_aload_n (M := M_X4_takeRing) dX4_takeRing_18 rfl ?_
    refine z_getR (M := M_X4_takeRing) (ci := 7) (C := RX4) (T := TX4) (Nf := 17) (ty := tyX4) cl7 dX4_takeRing_19 ly_208 8 (by decide) t_389 rfl ?_
    refine z_iload_n (M := M_X4_takeRing) dX4_takeRing_22 rfl ?_
    obtain ⟨x_13, x_13_e, hi_14, H⟩ := rd_e H
    refine z_iald (M := M_X4_takeRing) dX4_takeRing_23 ly_215 rfl rfl rfl hi_14 x_13_e ?_
    rcases if_e H with ⟨h_15, H⟩ | ⟨h_15, H⟩
    · refine z_icmp_ge_f (M := M_X4_takeRing) (tgt := 32) dX4_takeRing_24 (by decide) rfl rfl h_15 ?_
      refine z_iload (M := M_X4_takeRing) dX4_takeRing_27 rfl ?_
      refine z_goto (M := M_X4_takeRing) (tgt := 33) dX4_takeRing_29 (by decide) ?_
      exact J_23 _ (Option.some.inj H).symm
    · refine z_icmp_ge_t (M := M_X4_takeRing) (tgt := 32) dX4_takeRing_24 (by decide) rfl rfl (Int.not_lt.mp h_15) ?_
      refine z_iload_n (M := M_X4_takeRing) dX4_takeRing_32 rfl ?_
      exact J_23 _ (Option.some.inj H).symm
  · refine z_icmp_ge_t (M := M_X4_takeRing) (tgt := 40) dX4_takeRing_8 (by decide) rfl rfl (Int.not_lt.mp h_10) ?_
    exact J_110 _ _ (K_9 _ (Option.some.inj H).symm).symm
theorem c_X4_trace (hl : l.stackTraces = false) {σ : SG} {first_0 : Int} {r : Bool} {σ' : SG}  (H : fG_trace σ first_0 = some (r, σ')) : en_S l E M_X4_trace 6 0 0 [vr 208, vi first_0] σ (pS (some (zv r)) σ') := by
  unfold fG_trace at H
  refine z_mk (lv := [some (vr 208), some (vi first_0), none, none, none, none, none, none]) m_X4_trace rfl hl (Nat.le_of_ble_eq_true rfl) rfl ?_
  refine z_iconst (M := M_X4_trace) dX4_trace_0 ?_
  refine z_istore_n (M := M_X4_trace) (lv' := [some (vr 208), some (vi first_0), some (vi 1), none, none, none, none, none]) dX4_trace_1 (Nat.le_of_ble_eq_true rfl) rfl rfl ?_
  refine z_aload_n (M := M_X4_trace) dX4_trace_2 rfl ?_
  refine z_getR (M := M_X4_trace) (ci := 7) (C := RX4) (T := TX4) (Nf := 17) (ty := tyX4) cl7 dX4_trace_3 ly_208 8 (by decide) t_389 rfl ?_
  refine z_iconst (M := M_X4_trace) dX4_trace_6 ?_
  refine z_aload_n (M := M_X4_trace) dX4_trace_7 rfl ?_
  refine z_iload_n (M := M_X4_trace) dX4_trace_8 rfl ?_
  obtain ⟨x_2, hc_1, H⟩ := bd_e H
  refine z_callV (M := M_X4_trace) (M' := M_X4_startOf) (as := [vi first_0]) (rest := [vi 0, vr 215]) rfl rfl dX4_trace_9 m_X4_startOf t_1789 t_1791 s_89 (c_X4_startOf hl  hc_1) rfl rfl ly_208 rfl (Nat.le_of_ble_eq_true rfl) (Nat.le_of_ble_eq_true rfl) (Nat.le_of_ble_eq_true rfl) (Nat.le_of_ble_eq_true rfl) ?_
  refine z_st (st' := [vi x_2, vi 0, vr 215]) rfl ?_
  obtain ⟨σ_3, σ_3_e, hi_4, H⟩ := wa_e H
  refine z_iast (M := M_X4_trace) dX4_trace_12 ly_215 rfl (by decide +kernel) rfl hi_4 σ_3_e ?_
  refine z_aload_n (M := M_X4_trace) dX4_trace_13 rfl ?_
  refine z_getR (M := M_X4_trace) (ci := 7) (C := RX4) (T := TX4) (Nf := 17) (ty := tyX4) cl7 dX4_trace_14 ly_208 9 (by decide) t_390 rfl ?_
  refine z_aload_n (M := M_X4_trace) dX4_trace_17 rfl ?_
  refine z_getR (M := M_X4_trace) (ci := 7) (C := RX4) (T := TX4) (Nf := 17) (ty := tyX4) cl7 dX4_trace_18 ly_208 8 (by decide) t_389 rfl ?_
  refine z_iconst (M := M_X4_trace) dX4_trace_21 ?_
  obtain ⟨x_5, x_5_e, hi_6, H⟩ := rd_e H
  refine z_iald (M := M_X4_trace) dX4_trace_22 ly_215 rfl (by decide +kernel) rfl hi_6 x_5_e ?_
  refine z_iconst (M := M_X4_trace) dX4_trace_23 ?_
  obtain ⟨σ_7, σ_7_e, hi_8, H⟩ := wa_e H
  refine z_iast (M := M_X4_trace) dX4_trace_24 ly_216 rfl rfl rfl hi_8 σ_7_e ?_
  refine z_iload_n (M := M_X4_trace) dX4_trace_25 rfl ?_
  refine z_istore_n (M := M_X4_trace) (lv' := [some (vr 208), some (vi first_0), some (vi 1), some (vi first_0), none, none, none, none]) dX4_trace_26 (Nat.le_of_ble_eq_true rfl) rfl rfl ?_
  refine z_iconst (M := M_X4_trace) dX4_trace_27 ?_
  refine z_istore (M := M_X4_trace) (lv' := [some (vr 208), some (vi first_0), some (vi 1), some (vi first_0), some (vi 0), none, none, none]) dX4_trace_28 (Nat.le_of_ble_eq_true rfl) rfl rfl ?_
  obtain ⟨rl_16, hw_13, hk_14, hk_15⟩ := bx_e H
  have J_119 : ∀ size_96 piece_97 step_98 σ_99, rl_16 = (.inl (size_96, piece_97, step_98, σ_99)) → YY l E M_X4_trace 6 0 0 (pS (some (zv r)) σ') 184 [some (vr 208), some (vi first_0), some (vi size_96), some (vi piece_97), some (vi step_98), none, none, none] [] σ_99 0 0 := by
    intro size_96 piece_97 step_98 σ_99 e
    have H := hk_14 _ e
    refine z_iconst (M := M_X4_trace) dX4_trace_184 ?_
    refine z_istore (M := M_X4_trace) (lv' := [some (vr 208), some (vi first_0), some (vi size_96), some (vi piece_97), some (vi 0), none, none, none]) dX4_trace_185 (Nat.le_of_ble_eq_true rfl) rfl rfl ?_
    obtain ⟨rl_105, hw_102, hk_103⟩ := bd_e H
    have J_118 : ∀ k_116 σ_117, rl_105 = (k_116, σ_117) → YY l E M_X4_trace 6 0 0 (pS (some (zv r)) σ') 212 [some (vr 208), some (vi first_0), some (vi size_96), some (vi piece_97), some (vi k_116), none, none, none] [] σ_117 0 0 := by
      intro k_116 σ_117 e
      have H := hk_103
      rw [e] at H
      refine z_zconst (M := M_X4_trace) (b := true) dX4_trace_212 rfl ?_
      cases H
      exact z_zret (M := M_X4_trace) dX4_trace_213 rfl (Nat.le_of_ble_eq_true rfl) (Nat.le_of_ble_eq_true rfl) ⟨rfl, rfl⟩
    refine whl_go hw_102 (fun (k_100, σ_101) => YY l E M_X4_trace 6 0 0 (pS (some (zv r)) σ') 187 [some (vr 208), some (vi first_0), some (vi size_96), some (vi piece_97), some (vi k_100), none, none, none] [] σ_101 0 0) ?_
    rintro ⟨k_100, σ_101⟩ o_106 H K_107 K_108
    refine z_iload (M := M_X4_trace) dX4_trace_187 rfl ?_
    refine z_iload_n (M := M_X4_trace) dX4_trace_189 rfl ?_
    rcases if_e H with ⟨h_109, H⟩ | ⟨h_109, H⟩
    · refine z_icmp_ge_f (M := M_X4_trace) (tgt := 212) dX4_trace_190 (by decide) rfl rfl h_109 ?_
      refine z_aload_n (M := M_X4_trace) dX4_trace_193 rfl ?_
      refine z_getR (M := M_X4_trace) (ci := 7) (C := RX4) (T := TX4) (Nf := 17) (ty := tyX4) cl7 dX4_trace_194 ly_208 9 (by decide) t_390 rfl ?_
      refine z_aload_n (M := M_X4_trace) dX4_trace_197 rfl ?_
      refine z_getR (M := M_X4_trace) (ci := 7) (C := RX4) (T := TX4) (Nf := 17) (ty := tyX4) cl7 dX4_trace_198 ly_208 8 (by decide) t_389 rfl ?_
      refine z_iload (M := M_X4_trace) dX4_trace_201 rfl ?_
      obtain ⟨x_110, x_110_e, hi_111, H⟩ := rd_e H
      refine z_iald (M := M_X4_trace) dX4_trace_203 ly_215 rfl rfl rfl hi_111 x_110_e ?_
      refine z_iconst (M := M_X4_trace) dX4_trace_204 ?_
      obtain ⟨σ_112, σ_112_e, hi_113, H⟩ := wa_e H
      refine z_iast (M := M_X4_trace) dX4_trace_205 ly_216 rfl rfl rfl hi_113 σ_112_e ?_
      refine z_iinc (M := M_X4_trace) (lv' := [some (vr 208), some (vi first_0), some (vi size_96), some (vi piece_97), some (vi (k_100 + 1)), none, none, none]) dX4_trace_206 rfl (Nat.le_of_ble_eq_true rfl) rfl rfl ?_
      refine z_goto (M := M_X4_trace) (tgt := 187) dX4_trace_209 (by decide) ?_
      exact K_107 _ (Option.some.inj H).symm
    · refine z_icmp_ge_t (M := M_X4_trace) (tgt := 212) dX4_trace_190 (by decide) rfl rfl (Int.not_lt.mp h_109) ?_
      exact J_118 _ _ (K_108 _ (Option.some.inj H).symm).symm
  refine whl_go hw_13 (fun (size_9, piece_10, step_11, σ_12) => YY l E M_X4_trace 6 0 0 (pS (some (zv r)) σ') 30 [some (vr 208), some (vi first_0), some (vi size_9), some (vi piece_10), some (vi step_11), none, none, none] [] σ_12 0 0) ?_
  rintro ⟨size_9, piece_10, step_11, σ_12⟩ o_17 H K_18 K_19
  refine z_iload (M := M_X4_trace) dX4_trace_30 rfl ?_
  refine z_aload_n (M := M_X4_trace) dX4_trace_32 rfl ?_
  refine z_getR (M := M_X4_trace) (ci := 7) (C := RX4) (T := TX4) (Nf := 17) (ty := tyX4) cl7 dX4_trace_33 ly_208 0 (by decide) t_381 rfl ?_
  refine z_getI (M := M_X4_trace) (ci := 11) (C := RX8) (T := TX8) (Nf := 13) (ty := tyX8) cl11 dX4_trace_36 ly_193 12 (by decide) t_345 rfl rfl ?_
  rcases if_e H with ⟨h_30, H⟩ | ⟨h_30, H⟩
  · refine z_icmp_ge_f (M := M_X4_trace) (tgt := 184) dX4_trace_39 (by decide) rfl rfl h_30 ?_
    refine z_iload_n (M := M_X4_trace) dX4_trace_42 rfl ?_
    refine z_iconst (M := M_X4_trace) dX4_trace_43 ?_
    rcases if_e H with ⟨h_31, H⟩ | ⟨h_31, H⟩
    · refine z_icmp_eq_f (M := M_X4_trace) (tgt := 184) dX4_trace_44 (by decide) rfl (by decide +kernel) h_31 ?_
      refine z_aload_n (M := M_X4_trace) dX4_trace_47 rfl ?_
      refine z_getR (M := M_X4_trace) (ci := 7) (C := RX4) (T := TX4) (Nf := 17) (ty := tyX4) cl7 dX4_trace_48 ly_208 4 (by decide) t_385 rfl ?_
      refine z_iload_n (M := M_X4_trace) dX4_trace_51 rfl ?_
      obtain ⟨x_32, x_32_e, hi_33, H⟩ := rd_e H
      refine z_zald (M := M_X4_trace) dX4_trace_52 ly_211 rfl rfl rfl hi_33 x_32_e ?_
      rcases if_e H with ⟨h_34, H⟩ | ⟨h_34, H⟩
      · refine z_zeq_f (M := M_X4_trace) (tgt := 184) dX4_trace_53 (by decide) h_34 ?_
        refine z_aload_n (M := M_X4_trace) dX4_trace_56 rfl ?_
        refine z_getR (M := M_X4_trace) (ci := 7) (C := RX4) (T := TX4) (Nf := 17) (ty := tyX4) cl7 dX4_trace_57 ly_208 4 (by decide) t_385 rfl ?_
        refine z_iload_n (M := M_X4_trace) dX4_trace_60 rfl ?_
        refine z_zconst (M := M_X4_trace) (b := false) dX4_trace_61 rfl ?_
        obtain ⟨σ_35, σ_35_e, hi_36, H⟩ := wa_e H
        refine z_zast (M := M_X4_trace) dX4_trace_62 ly_211 rfl rfl rfl hi_36 σ_35_e ?_
        refine z_aload_n (M := M_X4_trace) dX4_trace_63 rfl ?_
        refine z_iload_n (M := M_X4_trace) dX4_trace_64 rfl ?_
        obtain ⟨x_38, hc_37, H⟩ := bd_e H
        refine z_callV (M := M_X4_trace) (M' := M_X4_finishOf) (as := [vi piece_10]) (rest := []) rfl rfl dX4_trace_65 m_X4_finishOf t_1793 t_1795 s_90 (c_X4_finishOf hl  hc_37) rfl rfl ly_208 rfl (Nat.le_of_ble_eq_true rfl) (Nat.le_of_ble_eq_true rfl) (Nat.le_of_ble_eq_true rfl) (Nat.le_of_ble_eq_true rfl) ?_
        refine z_st (st' := [vi x_38]) rfl ?_
        refine z_istore (M := M_X4_trace) (lv' := [some (vr 208), some (vi first_0), some (vi size_9), some (vi piece_10), some (vi step_11), some (vi x_38), none, none]) dX4_trace_68 (Nat.le_of_ble_eq_true rfl) rfl rfl ?_
        obtain ⟨v_42, he_39, hk_40, hk_41⟩ := bx_e H
        have J_92 : ∀ size_87 σ_88, v_42 = (.inl (size_87, σ_88)) → YY l E M_X4_trace 6 0 0 (pS (some (zv r)) σ') 170 [some (vr 208), some (vi first_0), some (vi size_87), some (vi piece_10), some (vi step_11), some (vi x_38), none, none] [] σ_88 0 0 := by
          intro size_87 σ_88 e
          have H := hk_40 _ e
          refine z_aload_n (M := M_X4_trace) dX4_trace_170 rfl ?_
          refine z_iload_n (M := M_X4_trace) dX4_trace_171 rfl ?_
          refine z_iload (M := M_X4_trace) dX4_trace_172 rfl ?_
          obtain ⟨x_90, hc_89, H⟩ := bd_e H
          refine z_callV (M := M_X4_trace) (M' := M_X4_nextPiece) (as := [vi piece_10, vi x_38]) (rest := []) rfl rfl dX4_trace_174 m_X4_nextPiece t_1805 t_1807 s_93 (c_X4_nextPiece hl  hc_89) rfl rfl ly_208 rfl (Nat.le_of_ble_eq_true rfl) (Nat.le_of_ble_eq_true rfl) (Nat.le_of_ble_eq_true rfl) (Nat.le_of_ble_eq_true rfl) ?_
          refine z_st (st' := [vi x_90]) rfl ?_
          refine z_istore_n (M := M_X4_trace) (lv' := [some (vr 208), some (vi first_0), some (vi size_87), some (vi x_90), some (vi step_11), some (vi x_38), none, none]) dX4_trace_177 (Nat.le_of_ble_eq_true rfl) rfl rfl ?_
          refine z_iinc (M := M_X4_trace) (lv' := [some (vr 208), some (vi first_0), some (vi size_87), some (vi x_90), some (vi (step_11 + 1)), some (vi x_38), none, none]) dX4_trace_178 rfl (Nat.le_of_ble_eq_true rfl) rfl rfl ?_
          refine z_goto (M := M_X4_trace) (tgt := 30) dX4_trace_181 (by decide) ?_
          refine z_le (lv' := [some (vr 208), some (vi first_0), some (vi size_87), some (vi x_90), some (vi (step_11 + 1)), none, none, none]) ⟨Or.inr rfl, Or.inr rfl, Or.inr rfl, Or.inr rfl, Or.inr rfl, Or.inl rfl, Or.inl rfl, Or.inl rfl, trivial⟩ ?_
          exact K_18 _ (Option.some.inj H).symm
        have H := he_39
        refine z_aload_n (M := M_X4_trace) dX4_trace_70 rfl ?_
        refine z_getR (M := M_X4_trace) (ci := 7) (C := RX4) (T := TX4) (Nf := 17) (ty := tyX4) cl7 dX4_trace_71 ly_208 9 (by decide) t_390 rfl ?_
        refine z_iload (M := M_X4_trace) dX4_trace_74 rfl ?_
        obtain ⟨x_43, x_43_e, hi_44, H⟩ := rd_e H
        refine z_iald (M := M_X4_trace) dX4_trace_76 ly_216 rfl rfl rfl hi_44 x_43_e ?_
        rcases if_e H with ⟨h_45, H⟩ | ⟨h_45, H⟩
        · refine z_if_le_f (M := M_X4_trace) (tgt := 142) dX4_trace_77 (by decide) rfl h_45 ?_
          refine z_aload_n (M := M_X4_trace) dX4_trace_80 rfl ?_
          refine z_getR (M := M_X4_trace) (ci := 7) (C := RX4) (T := TX4) (Nf := 17) (ty := tyX4) cl7 dX4_trace_81 ly_208 9 (by decide) t_390 rfl ?_
          refine z_iload (M := M_X4_trace) dX4_trace_84 rfl ?_
          obtain ⟨x_46, x_46_e, hi_47, H⟩ := rd_e H
          refine z_iald (M := M_X4_trace) dX4_trace_86 ly_216 rfl rfl rfl hi_47 x_46_e ?_
          refine z_iconst (M := M_X4_trace) dX4_trace_87 ?_
          refine z_isub (M := M_X4_trace) dX4_trace_88 ?_
          refine z_istore (M := M_X4_trace) (lv' := [some (vr 208), some (vi first_0), some (vi size_9), some (vi piece_10), some (vi step_11), some (vi x_38), some (vi (x_46 - 1)), none]) dX4_trace_89 (Nat.le_of_ble_eq_true rfl) rfl rfl ?_
          refine z_aload_n (M := M_X4_trace) dX4_trace_91 rfl ?_
          refine z_iload (M := M_X4_trace) dX4_trace_92 rfl ?_
          refine z_iload_n (M := M_X4_trace) dX4_trace_94 rfl ?_
          obtain ⟨⟨x_50, σ_49⟩, hc_48, H⟩ := bd_e H
          refine z_callV (M := M_X4_trace) (M' := M_X4_takeRing) (as := [vi (x_46 - 1), vi size_9]) (rest := []) rfl rfl dX4_trace_95 m_X4_takeRing t_1797 t_1799 s_91 (c_X4_takeRing hl  hc_48) rfl rfl ly_208 rfl (Nat.le_of_ble_eq_true rfl) (Nat.le_of_ble_eq_true rfl) (Nat.le_of_ble_eq_true rfl) (Nat.le_of_ble_eq_true rfl) ?_
          refine z_st (st' := [zv x_50]) rfl ?_
          rcases if_e H with ⟨h_51, H⟩ | ⟨h_51, H⟩
          · refine z_zne_t (M := M_X4_trace) (tgt := 103) dX4_trace_98 (by decide) h_51 ?_
            refine z_iload (M := M_X4_trace) dX4_trace_103 rfl ?_
            refine z_iconst (M := M_X4_trace) dX4_trace_105 ?_
            refine z_iadd (M := M_X4_trace) dX4_trace_106 ?_
            refine z_istore (M := M_X4_trace) (lv' := [some (vr 208), some (vi first_0), some (vi size_9), some (vi piece_10), some (vi step_11), some (vi x_38), some (vi (x_46 - 1)), some (vi ((x_46 - 1) + 1))]) dX4_trace_107 (Nat.le_of_ble_eq_true rfl) rfl rfl ?_
            obtain ⟨rl_57, hw_54, hk_55⟩ := bd_e H
            have J_71 : ∀ k_68 σ_69, rl_57 = (k_68, σ_69) → YY l E M_X4_trace 6 0 0 (pS (some (zv r)) σ') 134 [some (vr 208), some (vi first_0), some (vi size_9), some (vi piece_10), some (vi step_11), some (vi x_38), some (vi (x_46 - 1)), some (vi k_68)] [] σ_69 0 0 := by
              intro k_68 σ_69 e
              have H := hk_55
              rw [e] at H
              refine z_iload (M := M_X4_trace) dX4_trace_134 rfl ?_
              refine z_iconst (M := M_X4_trace) dX4_trace_136 ?_
              refine z_iadd (M := M_X4_trace) dX4_trace_137 ?_
              refine z_istore_n (M := M_X4_trace) (lv' := [some (vr 208), some (vi first_0), some (vi ((x_46 - 1) + 1)), some (vi piece_10), some (vi step_11), some (vi x_38), some (vi (x_46 - 1)), some (vi k_68)]) dX4_trace_138 (Nat.le_of_ble_eq_true rfl) rfl rfl ?_
              refine z_goto (M := M_X4_trace) (tgt := 170) dX4_trace_139 (by decide) ?_
              refine z_le (lv' := [some (vr 208), some (vi first_0), some (vi ((x_46 - 1) + 1)), some (vi piece_10), some (vi step_11), some (vi x_38), none, none]) ⟨Or.inr rfl, Or.inr rfl, Or.inr rfl, Or.inr rfl, Or.inr rfl, Or.inr rfl, Or.inl rfl, Or.inl rfl, trivial⟩ ?_
              exact J_92 _ _ (Option.some.inj H).symm
            refine whl_go hw_54 (fun (k_52, σ_53) => YY l E M_X4_trace 6 0 0 (pS (some (zv r)) σ') 109 [some (vr 208), some (vi first_0), some (vi size_9), some (vi piece_10), some (vi step_11), some (vi x_38), some (vi (x_46 - 1)), some (vi k_52)] [] σ_53 0 0) ?_
            rintro ⟨k_52, σ_53⟩ o_58 H K_59 K_60
            refine z_iload (M := M_X4_trace) dX4_trace_109 rfl ?_
            refine z_iload_n (M := M_X4_trace) dX4_trace_111 rfl ?_
            rcases if_e H with ⟨h_61, H⟩ | ⟨h_61, H⟩
            · refine z_icmp_ge_f (M := M_X4_trace) (tgt := 134) dX4_trace_112 (by decide) rfl rfl h_61 ?_
              refine z_aload_n (M := M_X4_trace) dX4_trace_115 rfl ?_
              refine z_getR (M := M_X4_trace) (ci := 7) (C := RX4) (T := TX4) (Nf := 17) (ty := tyX4) cl7 dX4_trace_116 ly_208 9 (by decide) t_390 rfl ?_
              refine z_aload_n (M := M_X4_trace) dX4_trace_119 rfl ?_
              refine z_getR (M := M_X4_trace) (ci := 7) (C := RX4) (T := TX4) (Nf := 17) (ty := tyX4) cl7 dX4_trace_120 ly_208 8 (by decide) t_389 rfl ?_
              refine z_iload (M := M_X4_trace) dX4_trace_123 rfl ?_
              obtain ⟨x_62, x_62_e, hi_63, H⟩ := rd_e H
              refine z_iald (M := M_X4_trace) dX4_trace_125 ly_215 rfl rfl rfl hi_63 x_62_e ?_
              refine z_iconst (M := M_X4_trace) dX4_trace_126 ?_
              obtain ⟨σ_64, σ_64_e, hi_65, H⟩ := wa_e H
              refine z_iast (M := M_X4_trace) dX4_trace_127 ly_216 rfl rfl rfl hi_65 σ_64_e ?_
              refine z_iinc (M := M_X4_trace) (lv' := [some (vr 208), some (vi first_0), some (vi size_9), some (vi piece_10), some (vi step_11), some (vi x_38), some (vi (x_46 - 1)), some (vi (k_52 + 1))]) dX4_trace_128 rfl (Nat.le_of_ble_eq_true rfl) rfl rfl ?_
              refine z_goto (M := M_X4_trace) (tgt := 109) dX4_trace_131 (by decide) ?_
              exact K_59 _ (Option.some.inj H).symm
            · refine z_icmp_ge_t (M := M_X4_trace) (tgt := 134) dX4_trace_112 (by decide) rfl rfl (Int.not_lt.mp h_61) ?_
              exact J_71 _ _ (K_60 _ (Option.some.inj H).symm).symm
          · refine z_zne_f (M := M_X4_trace) (tgt := 103) dX4_trace_98 (by decide) h_51 ?_
            refine z_zconst (M := M_X4_trace) (b := false) dX4_trace_101 rfl ?_
            have H := congrArg some (hk_41 _ (Option.some.inj H).symm)
            have H := congrArg some (hk_15 _ ((K_19 _ (Option.some.inj H).symm).symm))
            cases H
            exact z_zret (M := M_X4_trace) dX4_trace_102 rfl (Nat.le_of_ble_eq_true rfl) (Nat.le_of_ble_eq_true rfl) ⟨rfl, rfl⟩
        · refine z_if_le_t (M := M_X4_trace) (tgt := 142) dX4_trace_77 (by decide) rfl (Int.not_lt.mp h_45) ?_
          obtain ⟨v_75, he_72, hk_73⟩ := bd_e H
          have J_86 : ∀ size_83 σ_84, v_75 = (size_83, σ_84) → YY l E M_X4_trace 6 0 0 (pS (some (zv r)) σ') 170 [some (vr 208), some (vi first_0), some (vi size_83), some (vi piece_10), some (vi step_11), some (vi x_38), none, none] [] σ_84 0 0 := by
            intro size_83 σ_84 e
            have H := hk_73
            rw [e] at H
            exact J_92 _ _ (Option.some.inj H).symm
          have H := he_72
          refine z_iload_n (M := M_X4_trace) dX4_trace_142 rfl ?_
          refine z_aload_n (M := M_X4_trace) dX4_trace_143 rfl ?_
          refine z_getR (M := M_X4_trace) (ci := 7) (C := RX4) (T := TX4) (Nf := 17) (ty := tyX4) cl7 dX4_trace_144 ly_208 8 (by decide) t_389 rfl ?_
          refine z_alen (M := M_X4_trace) (N := 8193) dX4_trace_147 ly_215 (by decide) rfl ?_
          rcases if_e H with ⟨h_76, H⟩ | ⟨h_76, H⟩
          · refine z_icmp_ge_f (M := M_X4_trace) (tgt := 170) dX4_trace_148 (by decide) rfl (by decide +kernel) h_76 ?_
            refine z_aload_n (M := M_X4_trace) dX4_trace_151 rfl ?_
            refine z_getR (M := M_X4_trace) (ci := 7) (C := RX4) (T := TX4) (Nf := 17) (ty := tyX4) cl7 dX4_trace_152 ly_208 8 (by decide) t_389 rfl ?_
            refine z_iload_n (M := M_X4_trace) dX4_trace_155 rfl ?_
            refine z_iload (M := M_X4_trace) dX4_trace_156 rfl ?_
            obtain ⟨σ_77, σ_77_e, hi_78, H⟩ := wa_e H
            refine z_iast (M := M_X4_trace) dX4_trace_158 ly_215 rfl rfl rfl hi_78 σ_77_e ?_
            refine z_iinc (M := M_X4_trace) (lv' := [some (vr 208), some (vi first_0), some (vi (size_9 + 1)), some (vi piece_10), some (vi step_11), some (vi x_38), none, none]) dX4_trace_159 rfl (Nat.le_of_ble_eq_true rfl) rfl rfl ?_
            refine z_aload_n (M := M_X4_trace) dX4_trace_162 rfl ?_
            refine z_getR (M := M_X4_trace) (ci := 7) (C := RX4) (T := TX4) (Nf := 17) (ty := tyX4) cl7 dX4_trace_163 ly_208 9 (by decide) t_390 rfl ?_
            refine z_iload (M := M_X4_trace) dX4_trace_166 rfl ?_
            refine z_iload_n (M := M_X4_trace) dX4_trace_168 rfl ?_
            obtain ⟨σ_79, σ_79_e, hi_80, H⟩ := wa_e H
            refine z_iast (M := M_X4_trace) dX4_trace_169 ly_216 rfl rfl rfl hi_80 σ_79_e ?_
            exact J_86 _ _ (Option.some.inj H).symm
          · refine z_icmp_ge_t (M := M_X4_trace) (tgt := 170) dX4_trace_148 (by decide) rfl (by decide +kernel) (Int.not_lt.mp h_76) ?_
            exact J_86 _ _ (Option.some.inj H).symm
      · refine z_zeq_t (M := M_X4_trace) (tgt := 184) dX4_trace_53 (by decide) h_34 ?_
        exact J_119 _ _ _ _ (K_19 _ (Option.some.inj H).symm).symm
    · refine z_icmp_eq_t (M := M_X4_trace) (tgt := 184) dX4_trace_44 (by decide) rfl (by decide +kernel) (Decidable.not_not.mp h_31) ?_
      exact J_119 _ _ _ _ (K_19 _ (Option.some.inj H).symm).symm
  · refine z_icmp_ge_t (M := M_X4_trace) (tgt := 184) dX4_trace_39 (by decide) rfl rfl (Int.not_lt.mp h_30) ?_
    exact J_119 _ _ _ _ (K_19 _ (Option.some.inj H).symm).symm
theorem c_X4_traceRings (hl : l.stackTraces = false) {σ : SG} {r : Bool} {σ' : SG}  (H : fG_traceRings σ = some (r, σ')) : en_S l E M_X4_traceRings 7 0 0 [vr 208] σ (pS (some (zv r)) σ') := by
  unfold fG_traceRings at H
  refine z_mk (lv := [some (vr 208), none]) m_X4_traceRings rfl hl (Nat.le_of_ble_eq_true rfl) rfl ?_
  refine z_aload_n (M := M_X4_traceRings) dX4_traceRings_0 rfl ?_
  refine z_iconst (M := M_X4_traceRings) dX4_traceRings_1 ?_
  obtain ⟨σ_1, σ_1_e, H⟩ := wf_e H
  refine z_putI (M := M_X4_traceRings) (ci := 7) (C := RX4) (T := TX4) (Nf := 17) (ty := tyX4) cl7 dX4_traceRings_2 ly_208 16 (by decide) t_397 rfl rfl rfl rfl σ_1_e ?_
  refine z_aload_n (M := M_X4_traceRings) dX4_traceRings_5 rfl ?_
  refine z_iconst (M := M_X4_traceRings) dX4_traceRings_6 ?_
  obtain ⟨σ_2, σ_2_e, H⟩ := wf_e H
  refine z_putI (M := M_X4_traceRings) (ci := 7) (C := RX4) (T := TX4) (Nf := 17) (ty := tyX4) cl7 dX4_traceRings_7 ly_208 11 (by decide) t_392 rfl rfl rfl rfl σ_2_e ?_
  refine z_aload_n (M := M_X4_traceRings) dX4_traceRings_10 rfl ?_
  refine z_getR (M := M_X4_traceRings) (ci := 7) (C := RX4) (T := TX4) (Nf := 17) (ty := tyX4) cl7 dX4_traceRings_11 ly_208 9 (by decide) t_390 rfl ?_
  refine z_iconst (M := M_X4_traceRings) dX4_traceRings_14 ?_
  refine z_aload_n (M := M_X4_traceRings) dX4_traceRings_15 rfl ?_
  refine z_getR (M := M_X4_traceRings) (ci := 7) (C := RX4) (T := TX4) (Nf := 17) (ty := tyX4) cl7 dX4_traceRings_16 ly_208 0 (by decide) t_381 rfl ?_
  refine z_getI (M := M_X4_traceRings) (ci := 11) (C := RX8) (T := TX8) (Nf := 13) (ty := tyX8) cl11 dX4_traceRings_19 ly_193 8 (by decide) t_337 rfl rfl ?_
  refine z_iconst (M := M_X4_traceRings) dX4_traceRings_22 ?_
  obtain ⟨σ_4, hc_3, H⟩ := bd_e H
  refine z_callS (M := M_X4_traceRings) (M' := M_J7_fill_fda19) (as := [vr 216, vi 0, vi (σ_2 kN_hot 0), vi 0]) (rest := []) rfl rfl dX4_traceRings_23 m_J7_fill_fda19 t_1521 t_1522 (c_J7_fill_fda19 hl ly_216 hc_3) rfl rfl (Nat.le_of_ble_eq_true rfl) (Nat.le_of_ble_eq_true rfl) (Nat.le_of_ble_eq_true rfl) (Nat.le_of_ble_eq_true rfl) ?_
  refine z_st (st' := []) rfl ?_
  refine z_iconst (M := M_X4_traceRings) dX4_traceRings_26 ?_
  refine z_istore_n (M := M_X4_traceRings) (lv' := [some (vr 208), some (vi 0)]) dX4_traceRings_27 (Nat.le_of_ble_eq_true rfl) rfl rfl ?_
  obtain ⟨rl_10, hw_7, hk_8, hk_9⟩ := bx_e H
  have J_38 : ∀ piece_36 σ_37, rl_10 = (.inl (piece_36, σ_37)) → YY l E M_X4_traceRings 7 0 0 (pS (some (zv r)) σ') 64 [some (vr 208), some (vi piece_36)] [] σ_37 0 0 := by
    intro piece_36 σ_37 e
    have H := hk_8 _ e
    refine z_zconst (M := M_X4_traceRings) (b := true) dX4_traceRings_64 rfl ?_
    cases H
    exact z_zret (M := M_X4_traceRings) dX4_traceRings_65 rfl (Nat.le_of_ble_eq_true rfl) (Nat.le_of_ble_eq_true rfl) ⟨rfl, rfl⟩
  refine whl_go hw_7 (fun (piece_5, σ_6) => YY l E M_X4_traceRings 7 0 0 (pS (some (zv r)) σ') 28 [some (vr 208), some (vi piece_5)] [] σ_6 0 0) ?_
  rintro ⟨piece_5, σ_6⟩ o_11 H K_12 K_13
  refine z_iload_n (M := M_X4_traceRings) dX4_traceRings_28 rfl ?_
  refine z_aload_n (M := M_X4_traceRings) dX4_traceRings_29 rfl ?_
  refine z_getR (M := M_X4_traceRings) (ci := 7) (C := RX4) (T := TX4) (Nf := 17) (ty := tyX4) cl7 dX4_traceRings_30 ly_208 0 (by decide) t_381 rfl ?_
  refine z_getI (M := M_X4_traceRings) (ci := 11) (C := RX8) (T := TX8) (Nf := 13) (ty := tyX8) cl11 dX4_traceRings_33 ly_193 12 (by decide) t_345 rfl rfl ?_
  rcases if_e H with ⟨h_14, H⟩ | ⟨h_14, H⟩
  · refine z_icmp_ge_f (M := M_X4_traceRings) (tgt := 64) dX4_traceRings_36 (by decide) rfl rfl h_14 ?_
    refine z_aload_n (M := M_X4_traceRings) dX4_traceRings_39 rfl ?_
    refine z_getR (M := M_X4_traceRings) (ci := 7) (C := RX4) (T := TX4) (Nf := 17) (ty := tyX4) cl7 dX4_traceRings_40 ly_208 4 (by decide) t_385 rfl ?_
    refine z_iload_n (M := M_X4_traceRings) dX4_traceRings_43 rfl ?_
    obtain ⟨x_26, x_26_e, hi_27, H⟩ := rd_e H
    refine z_zald (M := M_X4_traceRings) dX4_traceRings_44 ly_211 rfl rfl rfl hi_27 x_26_e ?_
    rcases if_e H with ⟨h_28, H⟩ | ⟨h_28, H⟩
    · refine z_zeq_f (M := M_X4_traceRings) (tgt := 58) dX4_traceRings_45 (by decide) h_28 ?_
      refine z_aload_n (M := M_X4_traceRings) dX4_traceRings_48 rfl ?_
      refine z_iload_n (M := M_X4_traceRings) dX4_traceRings_49 rfl ?_
      obtain ⟨⟨x_31, σ_30⟩, hc_29, H⟩ := bd_e H
      refine z_callV (M := M_X4_traceRings) (M' := M_X4_trace) (as := [vi piece_5]) (rest := []) rfl rfl dX4_traceRings_50 m_X4_trace t_1785 t_1787 s_88 (c_X4_trace hl  hc_29) rfl rfl ly_208 rfl (Nat.le_of_ble_eq_true rfl) (Nat.le_of_ble_eq_true rfl) (Nat.le_of_ble_eq_true rfl) (Nat.le_of_ble_eq_true rfl) ?_
      refine z_st (st' := [zv x_31]) rfl ?_
      rcases if_e H with ⟨h_32, H⟩ | ⟨h_32, H⟩
      · refine z_zne_t (M := M_X4_traceRings) (tgt := 58) dX4_traceRings_53 (by decide) h_32 ?_
        refine z_iinc (M := M_X4_traceRings) (lv' := [some (vr 208), some (vi (piece_5 + 1))]) dX4_traceRings_58 rfl (Nat.le_of_ble_eq_true rfl) rfl rfl ?_
        refine z_goto (M := M_X4_traceRings) (tgt := 28) dX4_traceRings_61 (by decide) ?_
        exact K_12 _ (Option.some.inj H).symm
      · refine z_zne_f (M := M_X4_traceRings) (tgt := 58) dX4_traceRings_53 (by decide) h_32 ?_
        refine z_zconst (M := M_X4_traceRings) (b := false) dX4_traceRings_56 rfl ?_
        have H := congrArg some (hk_9 _ ((K_13 _ (Option.some.inj H).symm).symm))
        cases H
        exact z_zret (M := M_X4_traceRings) dX4_traceRings_57 rfl (Nat.le_of_ble_eq_true rfl) (Nat.le_of_ble_eq_true rfl) ⟨rfl, rfl⟩
    · refine z_zeq_t (M := M_X4_traceRings) (tgt := 58) dX4_traceRings_45 (by decide) h_28 ?_
      refine z_iinc (M := M_X4_traceRings) (lv' := [some (vr 208), some (vi (piece_5 + 1))]) dX4_traceRings_58 rfl (Nat.le_of_ble_eq_true rfl) rfl rfl ?_
      refine z_goto (M := M_X4_traceRings) (tgt := 28) dX4_traceRings_61 (by decide) ?_
      exact K_12 _ (Option.some.inj H).symm
  · refine z_icmp_ge_t (M := M_X4_traceRings) (tgt := 64) dX4_traceRings_36 (by decide) rfl rfl (Int.not_lt.mp h_14) ?_
    exact J_38 _ _ (K_13 _ (Option.some.inj H).symm).symm
theorem c_X4_make (hl : l.stackTraces = false) {σ : SG} {way_0 : Int} {into_0 : Nat} {r : Bool} {σ' : SG} (h_into : isS into_0) (H : fG_make σ way_0 into_0 = some (r, σ')) : en_S l E M_X4_make 8 0 0 [vr 208, vi way_0, vr into_0] σ (pS (some (zv r)) σ') := by
  unfold fG_make at H
  refine z_mk (lv := [some (vr 208), some (vi way_0), some (vr into_0)]) m_X4_make rfl hl (Nat.le_of_ble_eq_true rfl) rfl ?_
  refine z_aload_n (M := M_X4_make) dX4_make_0 rfl ?_
  obtain ⟨σ_2, hc_1, H⟩ := bd_e H
  refine z_callV (M := M_X4_make) (M' := M_X4_sweep) (as := []) (rest := []) rfl rfl dX4_make_1 m_X4_sweep t_1492 t_1494 s_80 (c_X4_sweep hl  hc_1) rfl rfl ly_208 rfl (Nat.le_of_ble_eq_true rfl) (Nat.le_of_ble_eq_true rfl) (Nat.le_of_ble_eq_true rfl) (Nat.le_of_ble_eq_true rfl) ?_
  refine z_st (st' := []) rfl ?_
  refine z_aload_n (M := M_X4_make) dX4_make_4 rfl ?_
  refine z_iload_n (M := M_X4_make) dX4_make_5 rfl ?_
  obtain ⟨σ_4, hc_3, H⟩ := bd_e H
  refine z_callV (M := M_X4_make) (M' := M_X4_markBoundary) (as := [vi way_0]) (rest := []) rfl rfl dX4_make_6 m_X4_markBoundary t_1510 t_1512 s_84 (c_X4_markBoundary hl  hc_3) rfl rfl ly_208 rfl (Nat.le_of_ble_eq_true rfl) (Nat.le_of_ble_eq_true rfl) (Nat.le_of_ble_eq_true rfl) (Nat.le_of_ble_eq_true rfl) ?_
  refine z_st (st' := []) rfl ?_
  refine z_aload_n (M := M_X4_make) dX4_make_9 rfl ?_
  obtain ⟨σ_6, hc_5, H⟩ := bd_e H
  refine z_callV (M := M_X4_make) (M' := M_X4_listIncident) (as := []) (rest := []) rfl rfl dX4_make_10 m_X4_listIncident t_1517 t_1519 s_85 (c_X4_listIncident hl  hc_5) rfl rfl ly_208 rfl (Nat.le_of_ble_eq_true rfl) (Nat.le_of_ble_eq_true rfl) (Nat.le_of_ble_eq_true rfl) (Nat.le_of_ble_eq_true rfl) ?_
  refine z_st (st' := []) rfl ?_
  refine z_aload_n (M := M_X4_make) dX4_make_13 rfl ?_
  obtain ⟨⟨x_9, σ_8⟩, hc_7, H⟩ := bd_e H
  refine z_callV (M := M_X4_make) (M' := M_X4_traceRings) (as := []) (rest := []) rfl rfl dX4_make_14 m_X4_traceRings t_1781 t_1783 s_87 (c_X4_traceRings hl  hc_7) rfl rfl ly_208 rfl (Nat.le_of_ble_eq_true rfl) (Nat.le_of_ble_eq_true rfl) (Nat.le_of_ble_eq_true rfl) (Nat.le_of_ble_eq_true rfl) ?_
  refine z_st (st' := [zv x_9]) rfl ?_
  rcases if_e H with ⟨h_10, H⟩ | ⟨h_10, H⟩
  · refine z_zne_t (M := M_X4_make) (tgt := 22) dX4_make_17 (by decide) h_10 ?_
    refine z_aload_n (M := M_X4_make) dX4_make_22 rfl ?_
    obtain ⟨σ_12, hc_11, H⟩ := bd_e H
    refine z_callV (M := M_X4_make) (M' := M_X4_giveHolesToShells) (as := []) (rest := []) rfl rfl dX4_make_23 m_X4_giveHolesToShells t_1817 t_1819 s_96 (c_X4_giveHolesToShells hl  hc_11) rfl rfl ly_208 rfl (Nat.le_of_ble_eq_true rfl) (Nat.le_of_ble_eq_true rfl) (Nat.le_of_ble_eq_true rfl) (Nat.le_of_ble_eq_true rfl) ?_
    refine z_st (st' := []) rfl ?_
    refine z_aload_n (M := M_X4_make) dX4_make_26 rfl ?_
    obtain ⟨σ_14, hc_13, H⟩ := bd_e H
    refine z_callV (M := M_X4_make) (M' := M_X4_sortRings) (as := []) (rest := []) rfl rfl dX4_make_27 m_X4_sortRings t_1835 t_1837 s_100 (c_X4_sortRings hl  hc_13) rfl rfl ly_208 rfl (Nat.le_of_ble_eq_true rfl) (Nat.le_of_ble_eq_true rfl) (Nat.le_of_ble_eq_true rfl) (Nat.le_of_ble_eq_true rfl) ?_
    refine z_st (st' := []) rfl ?_
    refine z_aload_n (M := M_X4_make) dX4_make_30 rfl ?_
    refine z_aload_n (M := M_X4_make) dX4_make_31 rfl ?_
    obtain ⟨⟨x_17, σ_16⟩, hc_15, H⟩ := bd_e H
    refine z_callV (M := M_X4_make) (M' := M_X4_tellPolygons) (as := [vr into_0]) (rest := []) rfl rfl dX4_make_32 m_X4_tellPolygons t_1840 t_1842 s_101 (c_X4_tellPolygons hl h_into hc_15) rfl rfl ly_208 rfl (Nat.le_of_ble_eq_true rfl) (Nat.le_of_ble_eq_true rfl) (Nat.le_of_ble_eq_true rfl) (Nat.le_of_ble_eq_true rfl) ?_
    refine z_st (st' := [zv x_17]) rfl ?_
    cases H
    exact z_zret (M := M_X4_make) dX4_make_35 rfl (Nat.le_of_ble_eq_true rfl) (Nat.le_of_ble_eq_true rfl) ⟨rfl, rfl⟩
  · refine z_zne_f (M := M_X4_make) (tgt := 22) dX4_make_17 (by decide) h_10 ?_
    refine z_zconst (M := M_X4_make) (b := false) dX4_make_20 rfl ?_
    cases H
    exact z_zret (M := M_X4_make) dX4_make_21 rfl (Nat.le_of_ble_eq_true rfl) (Nat.le_of_ble_eq_true rfl) ⟨rfl, rfl⟩
theorem c_X11_leaveEachOnce (hl : l.stackTraces = false) {σ : SG} {row_0 : Nat} {row_n : Nat} {size_0 : Int} {r : Int} {σ' : SG} (h_row : lay row_0 = some (.inr (1, row_n, 0, 0))) (H : fQ_leaveEachOnce σ row_0 row_n size_0 = some (r, σ')) : en_S l E M_X11_leaveEachOnce 1 0 0 [vr row_0, vi size_0] σ (pS (some (vi r)) σ') := by
  unfold fQ_leaveEachOnce at H
  refine z_mk (lv := [some (vr row_0), some (vi size_0), none, none]) m_X11_leaveEachOnce rfl hl (Nat.le_of_ble_eq_true rfl) rfl ?_
  refine z_iconst (M := M_X11_leaveEachOnce) dX11_leaveEachOnce_0 ?_
  refine z_istore_n (M := M_X11_leaveEachOnce) (lv' := [some (vr row_0), some (vi size_0), some (vi 0), none]) dX11_leaveEachOnce_1 (Nat.le_of_ble_eq_true rfl) rfl rfl ?_
  refine z_iconst (M := M_X11_leaveEachOnce) dX11_leaveEachOnce_2 ?_
  refine z_istore_n (M := M_X11_leaveEachOnce) (lv' := [some (vr row_0), some (vi size_0), some (vi 0), some (vi 0)]) dX11_leaveEachOnce_3 (Nat.le_of_ble_eq_true rfl) rfl rfl ?_
  obtain ⟨rl_7, hw_4, hk_5⟩ := bd_e H
  have J_55 : ∀ different_52 i_53 σ_54, rl_7 = (different_52, i_53, σ_54) → YY l E M_X11_leaveEachOnce 1 0 0 (pS (some (vi r)) σ') 40 [some (vr row_0), some (vi size_0), some (vi different_52), some (vi i_53)] [] σ_54 0 0 := by
    intro different_52 i_53 σ_54 e
    have H := hk_5
    rw [e] at H
    refine z_iload_n (M := M_X11_leaveEachOnce) dX11_leaveEachOnce_40 rfl ?_
    cases H
    exact z_iret (M := M_X11_leaveEachOnce) dX11_leaveEachOnce_41 rfl (Nat.le_of_ble_eq_true rfl) (Nat.le_of_ble_eq_true rfl) ⟨rfl, rfl⟩
  refine whl_go hw_4 (fun (different_1, i_2, σ_3) => YY l E M_X11_leaveEachOnce 1 0 0 (pS (some (vi r)) σ') 4 [some (vr row_0), some (vi size_0), some (vi different_1), some (vi i_2)] [] σ_3 0 0) ?_
  rintro ⟨different_1, i_2, σ_3⟩ o_8 H K_9 K_10
  refine z_iload_n (M := M_X11_leaveEachOnce) dX11_leaveEachOnce_4 rfl ?_
  refine z_iload_n (M := M_X11_leaveEachOnce) dX11_leaveEachOnce_5 rfl ?_
  rcases if_e H with ⟨h_11, H⟩ | ⟨h_11, H⟩
  · refine z_icmp_ge_f (M := M_X11_leaveEachOnce) (tgt := 40) dX11_leaveEachOnce_6 (by decide) rfl rfl h_11 ?_
    obtain ⟨v_15, he_12, hk_13⟩ := bd_e H
    have J_50 : ∀ different_47 σ_48, v_15 = (different_47, σ_48) → YY l E M_X11_leaveEachOnce 1 0 0 (pS (some (vi r)) σ') 34 [some (vr row_0), some (vi size_0), some (vi different_47), some (vi i_2)] [] σ_48 0 0 := by
      intro different_47 σ_48 e
      have H := hk_13
      rw [e] at H
      refine z_iinc (M := M_X11_leaveEachOnce) (lv' := [some (vr row_0), some (vi size_0), some (vi different_47), some (vi (i_2 + 1))]) dX11_leaveEachOnce_34 rfl (Nat.le_of_ble_eq_true rfl) rfl rfl ?_
      refine z_goto (M := M_X11_leaveEachOnce) (tgt := 4) dX11_leaveEachOnce_37 (by decide) ?_
      exact K_9 _ (Option.some.inj H).symm
    have H := he_12
    refine z_iload_n (M := M_X11_leaveEachOnce) dX11_leaveEachOnce_9 rfl ?_
    rcases if_e H with ⟨h_30, H⟩ | ⟨h_30, H⟩
    · refine z_if_eq_t (M := M_X11_leaveEachOnce) (tgt := 25) dX11_leaveEachOnce_10 (by decide) rfl h_30 ?_
      refine z_aload_n (M := M_X11_leaveEachOnce) dX11_leaveEachOnce_25 rfl ?_
      refine z_iload_n (M := M_X11_leaveEachOnce) dX11_leaveEachOnce_26 rfl ?_
      refine z_aload_n (M := M_X11_leaveEachOnce) dX11_leaveEachOnce_27 rfl ?_
      refine z_iload_n (M := M_X11_leaveEachOnce) dX11_leaveEachOnce_28 rfl ?_
      obtain ⟨x_31, x_31_e, hi_32, H⟩ := rd_e H
      refine z_lald (M := M_X11_leaveEachOnce) dX11_leaveEachOnce_29 h_row rfl rfl rfl hi_32 x_31_e ?_
      obtain ⟨σ_33, σ_33_e, hi_34, H⟩ := wa_e H
      refine z_last (M := M_X11_leaveEachOnce) dX11_leaveEachOnce_30 h_row rfl rfl rfl hi_34 σ_33_e ?_
      refine z_iinc (M := M_X11_leaveEachOnce) (lv' := [some (vr row_0), some (vi size_0), some (vi (different_1 + 1)), some (vi i_2)]) dX11_leaveEachOnce_31 rfl (Nat.le_of_ble_eq_true rfl) rfl rfl ?_
      exact J_50 _ _ (Option.some.inj H).symm
    · refine z_if_eq_f (M := M_X11_leaveEachOnce) (tgt := 25) dX11_leaveEachOnce_10 (by decide) rfl h_30 ?_
      refine z_aload_n (M := M_X11_leaveEachOnce) dX11_leaveEachOnce_13 rfl ?_
      refine z_iload_n (M := M_X11_leaveEachOnce) dX11_leaveEachOnce_14 rfl ?_
      refine z_iconst (M := M_X11_leaveEachOnce) dX11_leaveEachOnce_15 ?_
      refine z_isub (M := M_X11_leaveEachOnce) dX11_leaveEachOnce_16 ?_
      obtain ⟨x_36, x_36_e, hi_37, H⟩ := rd_e H
      refine z_lald (M := M_X11_leaveEachOnce) dX11_leaveEachOnce_17 h_row rfl rfl rfl hi_37 x_36_e ?_
      refine z_aload_n (M := M_X11_leaveEachOnce) dX11_leaveEachOnce_18 rfl ?_
      refine z_iload_n (M := M_X11_leaveEachOnce) dX11_leaveEachOnce_19 rfl ?_
      obtain ⟨x_38, x_38_e, hi_39, H⟩ := rd_e H
      refine z_lald (M := M_X11_leaveEachOnce) dX11_leaveEachOnce_20 h_row rfl rfl rfl hi_39 x_38_e ?_
      refine z_lcmp (M := M_X11_leaveEachOnce) dX11_leaveEachOnce_21 ?_
      rcases if_e H with ⟨h_40, H⟩ | ⟨h_40, H⟩
      · refine z_lif_eq_f (M := M_X11_leaveEachOnce) (tgt := 34) dX11_leaveEachOnce_22 (by decide) rfl rfl h_40 ?_
        refine z_aload_n (M := M_X11_leaveEachOnce) dX11_leaveEachOnce_25 rfl ?_
        refine z_iload_n (M := M_X11_leaveEachOnce) dX11_leaveEachOnce_26 rfl ?_
        refine z_aload_n (M := M_X11_leaveEachOnce) dX11_leaveEachOnce_27 rfl ?_
        refine z_iload_n (M := M_X11_leaveEachOnce) dX11_leaveEachOnce_28 rfl ?_
        obtain ⟨x_41, x_41_e, hi_42, H⟩ := rd_e H
        refine z_lald (M := M_X11_leaveEachOnce) dX11_leaveEachOnce_29 h_row rfl rfl rfl hi_42 x_41_e ?_
        obtain ⟨σ_43, σ_43_e, hi_44, H⟩ := wa_e H
        refine z_last (M := M_X11_leaveEachOnce) dX11_leaveEachOnce_30 h_row rfl rfl rfl hi_44 σ_43_e ?_
        refine z_iinc (M := M_X11_leaveEachOnce) (lv' := [some (vr row_0), some (vi size_0), some (vi (different_1 + 1)), some (vi i_2)]) dX11_leaveEachOnce_31 rfl (Nat.le_of_ble_eq_true rfl) rfl rfl ?_
        exact J_50 _ _ (Option.some.inj H).symm
      · refine z_lif_eq_t (M := M_X11_leaveEachOnce) (tgt := 34) dX11_leaveEachOnce_22 (by decide) rfl rfl (Decidable.not_not.mp h_40) ?_
        exact J_50 _ _ (Option.some.inj H).symm
  · refine z_icmp_ge_t (M := M_X11_leaveEachOnce) (tgt := 40) dX11_leaveEachOnce_6 (by decide) rfl rfl (Int.not_lt.mp h_11) ?_
    exact J_55 _ _ _ (K_10 _ (Option.some.inj H).symm).symm
theorem c_X8_sortOutKeys (hl : l.stackTraces = false) {σ : SG} {r : Bool} {σ' : SG}  (H : fN_sortOutKeys σ = some (r, σ')) : en_S l E M_X8_sortOutKeys 3 0 0 [vr 193] σ (pS (some (zv r)) σ') := by
  unfold fN_sortOutKeys at H
  refine z_mk (lv := [some (vr 193)]) m_X8_sortOutKeys rfl hl (Nat.le_of_ble_eq_true rfl) rfl ?_
  refine z_aload_n (M := M_X8_sortOutKeys) dX8_sortOutKeys_0 rfl ?_
  refine z_getR (M := M_X8_sortOutKeys) (ci := 11) (C := RX8) (T := TX8) (Nf := 13) (ty := tyX8) cl11 dX8_sortOutKeys_1 ly_193 2 (by decide) t_329 rfl ?_
  refine z_aload_n (M := M_X8_sortOutKeys) dX8_sortOutKeys_4 rfl ?_
  refine z_getI (M := M_X8_sortOutKeys) (ci := 11) (C := RX8) (T := TX8) (Nf := 13) (ty := tyX8) cl11 dX8_sortOutKeys_5 ly_193 3 (by decide) t_330 rfl rfl ?_
  obtain ⟨σ_2, hc_1, H⟩ := bd_e H
  refine z_callSN (M := M_X8_sortOutKeys) (M' := M_X11_sortRow) (as := [vr 200, vi (σ kN_keyCount 0)]) (rest := []) rfl rfl dX8_sortOutKeys_8 m_X11_sortRow n_1416 t_1417 (c_X11_sortRow hl ly_200 hc_1) rfl rfl (Nat.le_of_ble_eq_true rfl) (Nat.le_of_ble_eq_true rfl) (Nat.le_of_ble_eq_true rfl) (Nat.le_of_ble_eq_true rfl) ?_
  refine z_st (st' := []) rfl ?_
  refine z_aload_n (M := M_X8_sortOutKeys) dX8_sortOutKeys_11 rfl ?_
  refine z_aload_n (M := M_X8_sortOutKeys) dX8_sortOutKeys_12 rfl ?_
  refine z_getR (M := M_X8_sortOutKeys) (ci := 11) (C := RX8) (T := TX8) (Nf := 13) (ty := tyX8) cl11 dX8_sortOutKeys_13 ly_193 2 (by decide) t_329 rfl ?_
  refine z_aload_n (M := M_X8_sortOutKeys) dX8_sortOutKeys_16 rfl ?_
  refine z_getI (M := M_X8_sortOutKeys) (ci := 11) (C := RX8) (T := TX8) (Nf := 13) (ty := tyX8) cl11 dX8_sortOutKeys_17 ly_193 3 (by decide) t_330 rfl rfl ?_
  obtain ⟨⟨x_5, σ_4⟩, hc_3, H⟩ := bd_e H
  refine z_callSN (M := M_X8_sortOutKeys) (M' := M_X11_leaveEachOnce) (as := [vr 200, vi (σ_2 kN_keyCount 0)]) (rest := [vr 193]) rfl rfl dX8_sortOutKeys_20 m_X11_leaveEachOnce n_1422 t_1423 (c_X11_leaveEachOnce hl ly_200 hc_3) rfl rfl (Nat.le_of_ble_eq_true rfl) (Nat.le_of_ble_eq_true rfl) (Nat.le_of_ble_eq_true rfl) (Nat.le_of_ble_eq_true rfl) ?_
  refine z_st (st' := [vi x_5, vr 193]) rfl ?_
  obtain ⟨σ_6, σ_6_e, H⟩ := wf_e H
  refine z_putI (M := M_X8_sortOutKeys) (ci := 11) (C := RX8) (T := TX8) (Nf := 13) (ty := tyX8) cl11 dX8_sortOutKeys_23 ly_193 3 (by decide) t_330 rfl rfl rfl rfl σ_6_e ?_
  have J_7 : YY l E M_X8_sortOutKeys 3 0 0 (pS (some (zv r)) σ') 41 [some (vr 193)] [zv (decide ((w32 (σ_6 kN_keyCount 0)) ≤ 8192))] σ_6 0 0 := by
    cases H
    exact z_zret (M := M_X8_sortOutKeys) dX8_sortOutKeys_41 rfl (Nat.le_of_ble_eq_true rfl) (Nat.le_of_ble_eq_true rfl) ⟨rfl, rfl⟩
  refine z_aload_n (M := M_X8_sortOutKeys) dX8_sortOutKeys_26 rfl ?_
  refine z_getI (M := M_X8_sortOutKeys) (ci := 11) (C := RX8) (T := TX8) (Nf := 13) (ty := tyX8) cl11 dX8_sortOutKeys_27 ly_193 3 (by decide) t_330 rfl rfl ?_
  refine z_sipush (M := M_X8_sortOutKeys) dX8_sortOutKeys_30 (by decide +kernel) ?_
  by_cases h_8 : (w32 (σ_6 kN_keyCount 0)) ≤ 8192
  · refine z_icmp_gt_f (M := M_X8_sortOutKeys) (tgt := 40) dX8_sortOutKeys_33 (by decide) rfl (by decide +kernel) h_8 ?_
    refine z_iconst (M := M_X8_sortOutKeys) dX8_sortOutKeys_36 ?_
    refine z_goto (M := M_X8_sortOutKeys) (tgt := 41) dX8_sortOutKeys_37 (by decide) ?_
    exact z_st (by rw [zv_t (p := (w32 (σ_6 kN_keyCount 0)) ≤ 8192) h_8]) J_7
  · refine z_icmp_gt_t (M := M_X8_sortOutKeys) (tgt := 40) dX8_sortOutKeys_33 (by decide) rfl (by decide +kernel) (Int.not_le.mp h_8) ?_
    refine z_iconst (M := M_X8_sortOutKeys) dX8_sortOutKeys_40 ?_
    exact z_st (by rw [zv_f (p := (w32 (σ_6 kN_keyCount 0)) ≤ 8192) h_8]) J_7
theorem c_X11_keyOf (hl : l.stackTraces = false) {σ : SG} {x_0 : Int} {y_0 : Int} {r : Int}  (H : fQ_keyOf x_0 y_0 = r) : en_S l E M_X11_keyOf 1 0 0 [vi x_0, vi y_0] σ (pS (some (vl r)) σ) := by
  unfold fQ_keyOf at H
  refine z_mk (lv := [some (vi x_0), some (vi y_0)]) m_X11_keyOf rfl hl (Nat.le_of_ble_eq_true rfl) rfl ?_
  refine z_iload_n (M := M_X11_keyOf) dX11_keyOf_0 rfl ?_
  refine z_i2l (M := M_X11_keyOf) dX11_keyOf_1 ?_
  refine z_bipush (M := M_X11_keyOf) dX11_keyOf_2 (by decide +kernel) ?_
  refine z_lshl (M := M_X11_keyOf) dX11_keyOf_4 ?_
  refine z_iload_n (M := M_X11_keyOf) dX11_keyOf_5 rfl ?_
  refine z_ldcw (M := M_X11_keyOf) (n := (-2147483648)) dX11_keyOf_6 t_1428 (by decide +kernel) ?_
  refine z_ixor (M := M_X11_keyOf) dX11_keyOf_9 ?_
  refine z_i2l (M := M_X11_keyOf) dX11_keyOf_10 ?_
  refine z_ldc2 (M := M_X11_keyOf) (n := 4294967295) dX11_keyOf_11 t_1429 (by decide +kernel) ?_
  refine z_land (M := M_X11_keyOf) dX11_keyOf_14 ?_
  refine z_lor (M := M_X11_keyOf) dX11_keyOf_15 ?_
  cases H
  exact z_lret (M := M_X11_keyOf) dX11_keyOf_16 rfl (Nat.le_of_ble_eq_true rfl) (Nat.le_of_ble_eq_true rfl) ⟨rfl, rfl⟩
theorem c_X8_addHot (hl : l.stackTraces = false) {σ : SG} {x_0 : Int} {y_0 : Int} {r : Bool} {σ' : SG}  (H : fN_addHot σ x_0 y_0 = some (r, σ')) : en_S l E M_X8_addHot 4 0 0 [vr 193, vi x_0, vi y_0] σ (pS (some (zv r)) σ') := by
  unfold fN_addHot at H
  refine z_mk (lv := [some (vr 193), some (vi x_0), some (vi y_0)]) m_X8_addHot rfl hl (Nat.le_of_ble_eq_true rfl) rfl ?_
  refine z_aload_n (M := M_X8_addHot) dX8_addHot_0 rfl ?_
  refine z_getI (M := M_X8_addHot) (ci := 11) (C := RX8) (T := TX8) (Nf := 13) (ty := tyX8) cl11 dX8_addHot_1 ly_193 3 (by decide) t_330 rfl rfl ?_
  refine z_aload_n (M := M_X8_addHot) dX8_addHot_4 rfl ?_
  refine z_getR (M := M_X8_addHot) (ci := 11) (C := RX8) (T := TX8) (Nf := 13) (ty := tyX8) cl11 dX8_addHot_5 ly_193 2 (by decide) t_329 rfl ?_
  refine z_alen (M := M_X8_addHot) (N := 16384) dX8_addHot_8 ly_200 (by decide) rfl ?_
  rcases if_e H with ⟨h_12, H⟩ | ⟨h_12, H⟩
  · refine z_icmp_lt_f (M := M_X8_addHot) (tgt := 21) dX8_addHot_9 (by decide) rfl (by decide +kernel) h_12 ?_
    refine z_aload_n (M := M_X8_addHot) dX8_addHot_12 rfl ?_
    obtain ⟨⟨x_15, σ_14⟩, hc_13, H⟩ := bd_e H
    refine z_callV (M := M_X8_addHot) (M' := M_X8_sortOutKeys) (as := []) (rest := []) rfl rfl dX8_addHot_13 m_X8_sortOutKeys t_1412 t_1414 s_71 (c_X8_sortOutKeys hl  hc_13) rfl rfl ly_193 rfl (Nat.le_of_ble_eq_true rfl) (Nat.le_of_ble_eq_true rfl) (Nat.le_of_ble_eq_true rfl) (Nat.le_of_ble_eq_true rfl) ?_
    refine z_st (st' := [zv x_15]) rfl ?_
    rcases if_e H with ⟨h_16, H⟩ | ⟨h_16, H⟩
    · refine z_zne_t (M := M_X8_addHot) (tgt := 21) dX8_addHot_16 (by decide) h_16 ?_
      refine z_aload_n (M := M_X8_addHot) dX8_addHot_21 rfl ?_
      refine z_getR (M := M_X8_addHot) (ci := 11) (C := RX8) (T := TX8) (Nf := 13) (ty := tyX8) cl11 dX8_addHot_22 ly_193 2 (by decide) t_329 rfl ?_
      refine z_aload_n (M := M_X8_addHot) dX8_addHot_25 rfl ?_
      refine z_getI (M := M_X8_addHot) (ci := 11) (C := RX8) (T := TX8) (Nf := 13) (ty := tyX8) cl11 dX8_addHot_26 ly_193 3 (by decide) t_330 rfl rfl ?_
      refine z_iload_n (M := M_X8_addHot) dX8_addHot_29 rfl ?_
      refine z_iload_n (M := M_X8_addHot) dX8_addHot_30 rfl ?_
      refine z_callSN (M := M_X8_addHot) (M' := M_X11_keyOf) (as := [vi x_0, vi y_0]) (rest := [vi (σ_14 kN_keyCount 0), vr 200]) rfl rfl dX8_addHot_31 m_X11_keyOf n_1425 t_1426 (c_X11_keyOf hl  rfl) rfl rfl (Nat.le_of_ble_eq_true rfl) (Nat.le_of_ble_eq_true rfl) (Nat.le_of_ble_eq_true rfl) (Nat.le_of_ble_eq_true rfl) ?_
      refine z_st (st' := [vl (fQ_keyOf x_0 y_0), vi (σ_14 kN_keyCount 0), vr 200]) rfl ?_
      obtain ⟨σ_17, σ_17_e, hi_18, H⟩ := wa_e H
      refine z_last (M := M_X8_addHot) dX8_addHot_34 ly_200 rfl rfl rfl hi_18 σ_17_e ?_
      refine z_aload_n (M := M_X8_addHot) dX8_addHot_35 rfl ?_
      refine z_dup (M := M_X8_addHot) dX8_addHot_36 rfl ?_
      refine z_getI (M := M_X8_addHot) (ci := 11) (C := RX8) (T := TX8) (Nf := 13) (ty := tyX8) cl11 dX8_addHot_37 ly_193 3 (by decide) t_330 rfl rfl ?_
      refine z_iconst (M := M_X8_addHot) dX8_addHot_40 ?_
      refine z_iadd (M := M_X8_addHot) dX8_addHot_41 ?_
      obtain ⟨σ_19, σ_19_e, H⟩ := wf_e H
      refine z_putI (M := M_X8_addHot) (ci := 11) (C := RX8) (T := TX8) (Nf := 13) (ty := tyX8) cl11 dX8_addHot_42 ly_193 3 (by decide) t_330 rfl rfl rfl rfl σ_19_e ?_
      refine z_zconst (M := M_X8_addHot) (b := true) dX8_addHot_45 rfl ?_
      cases H
      exact z_zret (M := M_X8_addHot) dX8_addHot_46 rfl (Nat.le_of_ble_eq_true rfl) (Nat.le_of_ble_eq_true rfl) ⟨rfl, rfl⟩
    · refine z_zne_f (M := M_X8_addHot) (tgt := 21) dX8_addHot_16 (by decide) h_16 ?_
      refine z_zconst (M := M_X8_addHot) (b := false) dX8_addHot_19 rfl ?_
      cases H
      exact z_zret (M := M_X8_addHot) dX8_addHot_20 rfl (Nat.le_of_ble_eq_true rfl) (Nat.le_of_ble_eq_true rfl) ⟨rfl, rfl⟩
  · refine z_icmp_lt_t (M := M_X8_addHot) (tgt := 21) dX8_addHot_9 (by decide) rfl (by decide +kernel) (Int.not_le.mp h_12) ?_
    refine z_aload_n (M := M_X8_addHot) dX8_addHot_21 rfl ?_
    refine z_getR (M := M_X8_addHot) (ci := 11) (C := RX8) (T := TX8) (Nf := 13) (ty := tyX8) cl11 dX8_addHot_22 ly_193 2 (by decide) t_329 rfl ?_
    refine z_aload_n (M := M_X8_addHot) dX8_addHot_25 rfl ?_
    refine z_getI (M := M_X8_addHot) (ci := 11) (C := RX8) (T := TX8) (Nf := 13) (ty := tyX8) cl11 dX8_addHot_26 ly_193 3 (by decide) t_330 rfl rfl ?_
    refine z_iload_n (M := M_X8_addHot) dX8_addHot_29 rfl ?_
    refine z_iload_n (M := M_X8_addHot) dX8_addHot_30 rfl ?_
    refine z_callSN (M := M_X8_addHot) (M' := M_X11_keyOf) (as := [vi x_0, vi y_0]) (rest := [vi (σ kN_keyCount 0), vr 200]) rfl rfl dX8_addHot_31 m_X11_keyOf n_1425 t_1426 (c_X11_keyOf hl  rfl) rfl rfl (Nat.le_of_ble_eq_true rfl) (Nat.le_of_ble_eq_true rfl) (Nat.le_of_ble_eq_true rfl) (Nat.le_of_ble_eq_true rfl) ?_
    refine z_st (st' := [vl (fQ_keyOf x_0 y_0), vi (σ kN_keyCount 0), vr 200]) rfl ?_
    obtain ⟨σ_20, σ_20_e, hi_21, H⟩ := wa_e H
    refine z_last (M := M_X8_addHot) dX8_addHot_34 ly_200 rfl rfl rfl hi_21 σ_20_e ?_
    refine z_aload_n (M := M_X8_addHot) dX8_addHot_35 rfl ?_
    refine z_dup (M := M_X8_addHot) dX8_addHot_36 rfl ?_
    refine z_getI (M := M_X8_addHot) (ci := 11) (C := RX8) (T := TX8) (Nf := 13) (ty := tyX8) cl11 dX8_addHot_37 ly_193 3 (by decide) t_330 rfl rfl ?_
    refine z_iconst (M := M_X8_addHot) dX8_addHot_40 ?_
    refine z_iadd (M := M_X8_addHot) dX8_addHot_41 ?_
    obtain ⟨σ_22, σ_22_e, H⟩ := wf_e H
    refine z_putI (M := M_X8_addHot) (ci := 11) (C := RX8) (T := TX8) (Nf := 13) (ty := tyX8) cl11 dX8_addHot_42 ly_193 3 (by decide) t_330 rfl rfl rfl rfl σ_22_e ?_
    refine z_zconst (M := M_X8_addHot) (b := true) dX8_addHot_45 rfl ?_
    cases H
    exact z_zret (M := M_X8_addHot) dX8_addHot_46 rfl (Nat.le_of_ble_eq_true rfl) (Nat.le_of_ble_eq_true rfl) ⟨rfl, rfl⟩
theorem c_X8_pixelAt (hl : l.stackTraces = false) {σ : SG} {start_0 : Int} {way_0 : Int} {share_0 : Int} {whole_0 : Int} {r : Int}  (H : fN_pixelAt start_0 way_0 share_0 whole_0 = some r) : en_S l E M_X8_pixelAt 1 0 0 [vi start_0, vi way_0, vl share_0, vl whole_0] σ (pS (some (vi r)) σ) := by
  unfold fN_pixelAt at H
  refine z_mk (lv := [some (vi start_0), some (vi way_0), some (vl share_0), none, some (vl whole_0), none, none, none, none, none, none, none, none, none, none]) m_X8_pixelAt rfl hl (Nat.le_of_ble_eq_true rfl) rfl ?_
  refine z_lload (M := M_X8_pixelAt) dX8_pixelAt_0 rfl ?_
  refine z_lconst (M := M_X8_pixelAt) (m := 0) dX8_pixelAt_2 (by decide +kernel) ?_
  refine z_lcmp (M := M_X8_pixelAt) dX8_pixelAt_3 ?_
  rcases if_e H with ⟨h_1, H⟩ | ⟨h_1, H⟩
  · refine z_lif_gt_f (M := M_X8_pixelAt) (tgt := 9) dX8_pixelAt_4 (by decide) rfl (by decide +kernel) h_1 ?_
    refine z_iload_n (M := M_X8_pixelAt) dX8_pixelAt_7 rfl ?_
    cases H
    exact z_iret (M := M_X8_pixelAt) dX8_pixelAt_8 rfl (Nat.le_of_ble_eq_true rfl) (Nat.le_of_ble_eq_true rfl) ⟨rfl, rfl⟩
  · refine z_lif_gt_t (M := M_X8_pixelAt) (tgt := 9) dX8_pixelAt_4 (by decide) rfl (by decide +kernel) (Int.not_le.mp h_1) ?_
    refine z_iload_n (M := M_X8_pixelAt) dX8_pixelAt_9 rfl ?_
    refine z_mabs (M := M_X8_pixelAt) dX8_pixelAt_10 t_1446 t_1092 t_20 t_1093 (Nat.le_of_ble_eq_true rfl) (Nat.le_of_ble_eq_true rfl) (Nat.le_of_ble_eq_true rfl) (Nat.le_of_ble_eq_true rfl) ?_
    refine z_i2l (M := M_X8_pixelAt) dX8_pixelAt_13 ?_
    refine z_lstore (M := M_X8_pixelAt) (lv' := [some (vi start_0), some (vi way_0), some (vl share_0), none, some (vl whole_0), none, some (vl (w32 (q_abi way_0))), none, none, none, none, none, none, none, none]) dX8_pixelAt_14 (Nat.le_of_ble_eq_true rfl) rfl rfl ?_
    refine z_lconst (M := M_X8_pixelAt) (m := 0) dX8_pixelAt_16 (by decide +kernel) ?_
    refine z_lstore (M := M_X8_pixelAt) (lv' := [some (vi start_0), some (vi way_0), some (vl share_0), none, some (vl whole_0), none, some (vl (w32 (q_abi way_0))), none, some (vl 0), none, none, none, none, none, none]) dX8_pixelAt_17 (Nat.le_of_ble_eq_true rfl) rfl rfl ?_
    refine z_lconst (M := M_X8_pixelAt) (m := 0) dX8_pixelAt_19 (by decide +kernel) ?_
    refine z_lstore (M := M_X8_pixelAt) (lv' := [some (vi start_0), some (vi way_0), some (vl share_0), none, some (vl whole_0), none, some (vl (w32 (q_abi way_0))), none, some (vl 0), none, some (vl 0), none, none, none, none]) dX8_pixelAt_20 (Nat.le_of_ble_eq_true rfl) rfl rfl ?_
    obtain ⟨v_5, he_2, hk_3⟩ := bd_e H
    have J_49 : ∀ value_32 rest_33, v_5 = (value_32, rest_33) → YY l E M_X8_pixelAt 1 0 0 (pS (some (vi r)) σ) 120 [some (vi start_0), some (vi way_0), some (vl share_0), none, some (vl whole_0), none, some (vl (w32 (q_abi way_0))), none, some (vl value_32), none, some (vl rest_33), none, none, none, none] [] σ 0 0 := by
      intro value_32 rest_33 e
      have H := hk_3
      rw [e] at H
      have J_38 : YY l E M_X8_pixelAt 1 0 0 (pS (some (vi r)) σ) 161 [some (vi start_0), some (vi way_0), some (vl share_0), none, some (vl whole_0), none, some (vl (w32 (q_abi way_0))), none, some (vl value_32), none, some (vl rest_33), none, none, none, none] [zv (if 0 ≤ (w32 way_0) then (decide ((w64 whole_0) ≤ (w64 (2 * rest_33)))) else (decide ((w64 whole_0) < (w64 (2 * rest_33)))) : Bool)] σ 0 0 := by
        obtain ⟨x_39, x_39_e, H⟩ := lt_e H
        refine z_st (congrArg (fun z => zv z :: []) x_39_e) ?_
        refine z_zstore (M := M_X8_pixelAt) (lv' := [some (vi start_0), some (vi way_0), some (vl share_0), none, some (vl whole_0), none, some (vl (w32 (q_abi way_0))), none, some (vl value_32), none, some (vl rest_33), none, some (zv x_39), none, none]) dX8_pixelAt_161 (Nat.le_of_ble_eq_true rfl) rfl rfl ?_
        have J_40 : YY l E M_X8_pixelAt 1 0 0 (pS (some (vi r)) σ) 177 [some (vi start_0), some (vi way_0), some (vl share_0), none, some (vl whole_0), none, some (vl (w32 (q_abi way_0))), none, some (vl value_32), none, some (vl rest_33), none, some (zv x_39), none, none] [vl (if x_39 = true then (value_32 + 1) else value_32)] σ 0 0 := by
          refine z_lstore (M := M_X8_pixelAt) (lv' := [some (vi start_0), some (vi way_0), some (vl share_0), none, some (vl whole_0), none, some (vl (w32 (q_abi way_0))), none, some (vl value_32), none, some (vl rest_33), none, some (zv x_39), some (vl (if x_39 = true then (value_32 + 1) else value_32)), none]) dX8_pixelAt_177 (Nat.le_of_ble_eq_true rfl) rfl rfl ?_
          have J_41 : YY l E M_X8_pixelAt 1 0 0 (pS (some (vi r)) σ) 196 [some (vi start_0), some (vi way_0), some (vl share_0), none, some (vl whole_0), none, some (vl (w32 (q_abi way_0))), none, some (vl value_32), none, some (vl rest_33), none, some (zv x_39), some (vl (if x_39 = true then (value_32 + 1) else value_32)), none] [vl (if 0 ≤ (w32 way_0) then ((w32 start_0) + (if x_39 = true then (value_32 + 1) else value_32)) else ((w32 start_0) - (if x_39 = true then (value_32 + 1) else value_32)))] σ 0 0 := by
            refine z_l2i (M := M_X8_pixelAt) dX8_pixelAt_196 ?_
            cases H
            exact z_iret (M := M_X8_pixelAt) dX8_pixelAt_197 rfl (Nat.le_of_ble_eq_true rfl) (Nat.le_of_ble_eq_true rfl) ⟨rfl, rfl⟩
          refine z_iload_n (M := M_X8_pixelAt) dX8_pixelAt_179 rfl ?_
          by_cases h_42 : 0 ≤ (w32 way_0)
          · refine z_if_lt_f (M := M_X8_pixelAt) (tgt := 191) dX8_pixelAt_180 (by decide) rfl h_42 ?_
            refine z_iload_n (M := M_X8_pixelAt) dX8_pixelAt_183 rfl ?_
            refine z_i2l (M := M_X8_pixelAt) dX8_pixelAt_184 ?_
            refine z_lload (M := M_X8_pixelAt) dX8_pixelAt_185 rfl ?_
            refine z_ladd (M := M_X8_pixelAt) dX8_pixelAt_187 ?_
            refine z_goto (M := M_X8_pixelAt) (tgt := 196) dX8_pixelAt_188 (by decide) ?_
            exact z_st (by rw [if_pos (c := 0 ≤ (w32 way_0)) h_42]) J_41
          · refine z_if_lt_t (M := M_X8_pixelAt) (tgt := 191) dX8_pixelAt_180 (by decide) rfl (Int.not_le.mp h_42) ?_
            refine z_iload_n (M := M_X8_pixelAt) dX8_pixelAt_191 rfl ?_
            refine z_i2l (M := M_X8_pixelAt) dX8_pixelAt_192 ?_
            refine z_lload (M := M_X8_pixelAt) dX8_pixelAt_193 rfl ?_
            refine z_lsub (M := M_X8_pixelAt) dX8_pixelAt_195 ?_
            exact z_st (by rw [if_neg (c := 0 ≤ (w32 way_0)) h_42]) J_41
        refine z_zload (M := M_X8_pixelAt) dX8_pixelAt_163 rfl ?_
        by_cases h_43 : x_39 = true
        · refine z_zeq_f (M := M_X8_pixelAt) (tgt := 175) dX8_pixelAt_165 (by decide) h_43 ?_
          refine z_lload (M := M_X8_pixelAt) dX8_pixelAt_168 rfl ?_
          refine z_lconst (M := M_X8_pixelAt) (m := 1) dX8_pixelAt_170 (by decide +kernel) ?_
          refine z_ladd (M := M_X8_pixelAt) dX8_pixelAt_171 ?_
          refine z_goto (M := M_X8_pixelAt) (tgt := 177) dX8_pixelAt_172 (by decide) ?_
          exact z_st (by rw [if_pos (c := x_39 = true) h_43]) J_40
        · refine z_zeq_t (M := M_X8_pixelAt) (tgt := 175) dX8_pixelAt_165 (by decide) h_43 ?_
          refine z_lload (M := M_X8_pixelAt) dX8_pixelAt_175 rfl ?_
          exact z_st (by rw [if_neg (c := x_39 = true) h_43]) J_40
      refine z_iload_n (M := M_X8_pixelAt) dX8_pixelAt_120 rfl ?_
      by_cases h_44 : 0 ≤ (w32 way_0)
      · refine z_if_lt_f (M := M_X8_pixelAt) (tgt := 144) dX8_pixelAt_121 (by decide) rfl h_44 ?_
        have J_45 : YY l E M_X8_pixelAt 1 0 0 (pS (some (vi r)) σ) 161 [some (vi start_0), some (vi way_0), some (vl share_0), none, some (vl whole_0), none, some (vl (w32 (q_abi way_0))), none, some (vl value_32), none, some (vl rest_33), none, none, none, none] [zv (decide ((w64 whole_0) ≤ (w64 (2 * rest_33))))] σ 0 0 := by
          exact z_st (by rw [if_pos (c := 0 ≤ (w32 way_0)) h_44]) J_38
        refine z_ldc2 (M := M_X8_pixelAt) (n := 2) dX8_pixelAt_124 t_1448 (by decide +kernel) ?_
        refine z_lload (M := M_X8_pixelAt) dX8_pixelAt_127 rfl ?_
        refine z_lmul (M := M_X8_pixelAt) dX8_pixelAt_129 ?_
        refine z_lload (M := M_X8_pixelAt) dX8_pixelAt_130 rfl ?_
        refine z_lcmp (M := M_X8_pixelAt) dX8_pixelAt_132 ?_
        by_cases h_46 : (w64 whole_0) ≤ (w64 (2 * rest_33))
        · refine z_lif_lt_f (M := M_X8_pixelAt) (tgt := 140) dX8_pixelAt_133 (by decide) rfl rfl h_46 ?_
          refine z_iconst (M := M_X8_pixelAt) dX8_pixelAt_136 ?_
          refine z_goto (M := M_X8_pixelAt) (tgt := 161) dX8_pixelAt_137 (by decide) ?_
          exact z_st (by rw [zv_t (p := (w64 whole_0) ≤ (w64 (2 * rest_33))) h_46]) J_45
        · refine z_lif_lt_t (M := M_X8_pixelAt) (tgt := 140) dX8_pixelAt_133 (by decide) rfl rfl (Int.not_le.mp h_46) ?_
          refine z_iconst (M := M_X8_pixelAt) dX8_pixelAt_140 ?_
          refine z_goto (M := M_X8_pixelAt) (tgt := 161) dX8_pixelAt_141 (by decide) ?_
          exact z_st (by rw [zv_f (p := (w64 whole_0) ≤ (w64 (2 * rest_33))) h_46]) J_45
      · refine z_if_lt_t (M := M_X8_pixelAt) (tgt := 144) dX8_pixelAt_121 (by decide) rfl (Int.not_le.mp h_44) ?_
        have J_47 : YY l E M_X8_pixelAt 1 0 0 (pS (some (vi r)) σ) 161 [some (vi start_0), some (vi way_0), some (vl share_0), none, some (vl whole_0), none, some (vl (w32 (q_abi way_0))), none, some (vl value_32), none, some (vl rest_33), none, none, none, none] [zv (decide ((w64 whole_0) < (w64 (2 * rest_33))))] σ 0 0 := by
          exact z_st (by rw [if_neg (c := 0 ≤ (w32 way_0)) h_44]) J_38
        refine z_ldc2 (M := M_X8_pixelAt) (n := 2) dX8_pixelAt_144 t_1448 (by decide +kernel) ?_
        refine z_lload (M := M_X8_pixelAt) dX8_pixelAt_147 rfl ?_
        refine z_lmul (M := M_X8_pixelAt) dX8_pixelAt_149 ?_
        refine z_lload (M := M_X8_pixelAt) dX8_pixelAt_150 rfl ?_
        refine z_lcmp (M := M_X8_pixelAt) dX8_pixelAt_152 ?_
        by_cases h_48 : (w64 whole_0) < (w64 (2 * rest_33))
        · refine z_lif_le_f (M := M_X8_pixelAt) (tgt := 160) dX8_pixelAt_153 (by decide) rfl rfl h_48 ?_
          refine z_iconst (M := M_X8_pixelAt) dX8_pixelAt_156 ?_
          refine z_goto (M := M_X8_pixelAt) (tgt := 161) dX8_pixelAt_157 (by decide) ?_
          exact z_st (by rw [zv_t (p := (w64 whole_0) < (w64 (2 * rest_33))) h_48]) J_47
        · refine z_lif_le_t (M := M_X8_pixelAt) (tgt := 160) dX8_pixelAt_153 (by decide) rfl rfl (Int.not_lt.mp h_48) ?_
          refine z_iconst (M := M_X8_pixelAt) dX8_pixelAt_160 ?_
          exact z_st (by rw [zv_f (p := (w64 whole_0) < (w64 (2 * rest_33))) h_48]) J_47
    have H := he_2
    refine z_lload_n (M := M_X8_pixelAt) dX8_pixelAt_22 rfl ?_
    refine z_ldc2 (M := M_X8_pixelAt) (n := 2147483647) dX8_pixelAt_23 t_1447 (by decide +kernel) ?_
    refine z_lcmp (M := M_X8_pixelAt) dX8_pixelAt_26 ?_
    rcases if_e H with ⟨h_6, H⟩ | ⟨h_6, H⟩
    · refine z_lif_gt_f (M := M_X8_pixelAt) (tgt := 51) dX8_pixelAt_27 (by decide) rfl (by decide +kernel) h_6 ?_
      refine z_lload (M := M_X8_pixelAt) dX8_pixelAt_30 rfl ?_
      refine z_lload_n (M := M_X8_pixelAt) dX8_pixelAt_32 rfl ?_
      refine z_lmul (M := M_X8_pixelAt) dX8_pixelAt_33 ?_
      refine z_lload (M := M_X8_pixelAt) dX8_pixelAt_34 rfl ?_
      obtain ⟨hd_7, H⟩ := ck_e H
      refine z_ldiv (M := M_X8_pixelAt) dX8_pixelAt_36 hd_7 ?_
      refine z_lstore (M := M_X8_pixelAt) (lv' := [some (vi start_0), some (vi way_0), some (vl share_0), none, some (vl whole_0), none, some (vl (w32 (q_abi way_0))), none, some (vl (q_ldv ((w32 (q_abi way_0)) * share_0) whole_0)), none, some (vl 0), none, none, none, none]) dX8_pixelAt_37 (Nat.le_of_ble_eq_true rfl) rfl rfl ?_
      refine z_lload (M := M_X8_pixelAt) dX8_pixelAt_39 rfl ?_
      refine z_lload_n (M := M_X8_pixelAt) dX8_pixelAt_41 rfl ?_
      refine z_lmul (M := M_X8_pixelAt) dX8_pixelAt_42 ?_
      refine z_lload (M := M_X8_pixelAt) dX8_pixelAt_43 rfl ?_
      obtain ⟨hd_8, H⟩ := ck_e H
      refine z_lrem (M := M_X8_pixelAt) dX8_pixelAt_45 hd_8 ?_
      refine z_lstore (M := M_X8_pixelAt) (lv' := [some (vi start_0), some (vi way_0), some (vl share_0), none, some (vl whole_0), none, some (vl (w32 (q_abi way_0))), none, some (vl (q_ldv ((w32 (q_abi way_0)) * share_0) whole_0)), none, some (vl (q_lrm ((w32 (q_abi way_0)) * share_0) whole_0)), none, none, none, none]) dX8_pixelAt_46 (Nat.le_of_ble_eq_true rfl) rfl rfl ?_
      refine z_goto (M := M_X8_pixelAt) (tgt := 120) dX8_pixelAt_48 (by decide) ?_
      exact J_49 _ _ (Option.some.inj H).symm
    · refine z_lif_gt_t (M := M_X8_pixelAt) (tgt := 51) dX8_pixelAt_27 (by decide) rfl (by decide +kernel) (Int.not_le.mp h_6) ?_
      refine z_bipush (M := M_X8_pixelAt) dX8_pixelAt_51 (by decide +kernel) ?_
      refine z_istore (M := M_X8_pixelAt) (lv' := [some (vi start_0), some (vi way_0), some (vl share_0), none, some (vl whole_0), none, some (vl (w32 (q_abi way_0))), none, some (vl 0), none, some (vl 0), none, some (vi 30), none, none]) dX8_pixelAt_53 (Nat.le_of_ble_eq_true rfl) rfl rfl ?_
      obtain ⟨rl_16, hw_13, hk_14⟩ := bd_e H
      have J_31 : ∀ value_27 rest_28 bit_29, rl_16 = (value_27, rest_28, bit_29) → YY l E M_X8_pixelAt 1 0 0 (pS (some (vi r)) σ) 120 [some (vi start_0), some (vi way_0), some (vl share_0), none, some (vl whole_0), none, some (vl (w32 (q_abi way_0))), none, some (vl value_27), none, some (vl rest_28), none, some (vi bit_29), none, none] [] σ 0 0 := by
        intro value_27 rest_28 bit_29 e
        have H := hk_14
        rw [e] at H
        refine z_le (lv' := [some (vi start_0), some (vi way_0), some (vl share_0), none, some (vl whole_0), none, some (vl (w32 (q_abi way_0))), none, some (vl value_27), none, some (vl rest_28), none, none, none, none]) ⟨Or.inr rfl, Or.inr rfl, Or.inr rfl, Or.inl rfl, Or.inr rfl, Or.inl rfl, Or.inr rfl, Or.inl rfl, Or.inr rfl, Or.inl rfl, Or.inr rfl, Or.inl rfl, Or.inl rfl, Or.inl rfl, Or.inl rfl, trivial⟩ ?_
        exact J_49 _ _ (Option.some.inj H).symm
      refine whl_go hw_13 (fun (value_10, rest_11, bit_12) => YY l E M_X8_pixelAt 1 0 0 (pS (some (vi r)) σ) 55 [some (vi start_0), some (vi way_0), some (vl share_0), none, some (vl whole_0), none, some (vl (w32 (q_abi way_0))), none, some (vl value_10), none, some (vl rest_11), none, some (vi bit_12), none, none] [] σ 0 0) ?_
      rintro ⟨value_10, rest_11, bit_12⟩ o_17 H K_18 K_19
      refine z_iload (M := M_X8_pixelAt) dX8_pixelAt_55 rfl ?_
      rcases if_e H with ⟨h_20, H⟩ | ⟨h_20, H⟩
      · refine z_if_lt_f (M := M_X8_pixelAt) (tgt := 120) dX8_pixelAt_57 (by decide) rfl h_20 ?_
        refine z_ldc2 (M := M_X8_pixelAt) (n := 2) dX8_pixelAt_60 t_1448 (by decide +kernel) ?_
        refine z_lload (M := M_X8_pixelAt) dX8_pixelAt_63 rfl ?_
        refine z_lmul (M := M_X8_pixelAt) dX8_pixelAt_65 ?_
        have J_21 : YY l E M_X8_pixelAt 1 0 0 (pS (some (vi r)) σ) 83 [some (vi start_0), some (vi way_0), some (vl share_0), none, some (vl whole_0), none, some (vl (w32 (q_abi way_0))), none, some (vl value_10), none, some (vl rest_11), none, some (vi bit_12), none, none] [vl (if (w64 (q_lan (q_lsr (w32 (q_abi way_0)) bit_12) 1)) = 1 then share_0 else 0), vl (2 * rest_11)] σ 0 0 := by
          refine z_ladd (M := M_X8_pixelAt) dX8_pixelAt_83 ?_
          obtain ⟨x_22, x_22_e, H⟩ := lt_e H
          refine z_st (congrArg (fun z => vl z :: []) x_22_e) ?_
          refine z_lstore (M := M_X8_pixelAt) (lv' := [some (vi start_0), some (vi way_0), some (vl share_0), none, some (vl whole_0), none, some (vl (w32 (q_abi way_0))), none, some (vl value_10), none, some (vl x_22), none, some (vi bit_12), none, none]) dX8_pixelAt_84 (Nat.le_of_ble_eq_true rfl) rfl rfl ?_
          refine z_lload (M := M_X8_pixelAt) dX8_pixelAt_86 rfl ?_
          refine z_lload (M := M_X8_pixelAt) dX8_pixelAt_88 rfl ?_
          obtain ⟨hd_23, H⟩ := ck_e H
          refine z_ldiv (M := M_X8_pixelAt) dX8_pixelAt_90 hd_23 ?_
          refine z_lstore (M := M_X8_pixelAt) (lv' := [some (vi start_0), some (vi way_0), some (vl share_0), none, some (vl whole_0), none, some (vl (w32 (q_abi way_0))), none, some (vl value_10), none, some (vl x_22), none, some (vi bit_12), some (vl (q_ldv x_22 whole_0)), none]) dX8_pixelAt_91 (Nat.le_of_ble_eq_true rfl) rfl rfl ?_
          refine z_lload (M := M_X8_pixelAt) dX8_pixelAt_93 rfl ?_
          refine z_lload (M := M_X8_pixelAt) dX8_pixelAt_95 rfl ?_
          refine z_lload (M := M_X8_pixelAt) dX8_pixelAt_97 rfl ?_
          refine z_lmul (M := M_X8_pixelAt) dX8_pixelAt_99 ?_
          refine z_lsub (M := M_X8_pixelAt) dX8_pixelAt_100 ?_
          refine z_lstore (M := M_X8_pixelAt) (lv' := [some (vi start_0), some (vi way_0), some (vl share_0), none, some (vl whole_0), none, some (vl (w32 (q_abi way_0))), none, some (vl value_10), none, some (vl (x_22 - ((q_ldv x_22 whole_0) * whole_0))), none, some (vi bit_12), some (vl (q_ldv x_22 whole_0)), none]) dX8_pixelAt_101 (Nat.le_of_ble_eq_true rfl) rfl rfl ?_
          refine z_ldc2 (M := M_X8_pixelAt) (n := 2) dX8_pixelAt_103 t_1448 (by decide +kernel) ?_
          refine z_lload (M := M_X8_pixelAt) dX8_pixelAt_106 rfl ?_
          refine z_lmul (M := M_X8_pixelAt) dX8_pixelAt_108 ?_
          refine z_lload (M := M_X8_pixelAt) dX8_pixelAt_109 rfl ?_
          refine z_ladd (M := M_X8_pixelAt) dX8_pixelAt_111 ?_
          refine z_lstore (M := M_X8_pixelAt) (lv' := [some (vi start_0), some (vi way_0), some (vl share_0), none, some (vl whole_0), none, some (vl (w32 (q_abi way_0))), none, some (vl ((2 * value_10) + (q_ldv x_22 whole_0))), none, some (vl (x_22 - ((q_ldv x_22 whole_0) * whole_0))), none, some (vi bit_12), some (vl (q_ldv x_22 whole_0)), none]) dX8_pixelAt_112 (Nat.le_of_ble_eq_true rfl) rfl rfl ?_
          refine z_iinc (M := M_X8_pixelAt) (lv' := [some (vi start_0), some (vi way_0), some (vl share_0), none, some (vl whole_0), none, some (vl (w32 (q_abi way_0))), none, some (vl ((2 * value_10) + (q_ldv x_22 whole_0))), none, some (vl (x_22 - ((q_ldv x_22 whole_0) * whole_0))), none, some (vi (bit_12 + (-1))), some (vl (q_ldv x_22 whole_0)), none]) dX8_pixelAt_114 rfl (Nat.le_of_ble_eq_true rfl) rfl rfl ?_
          refine z_goto (M := M_X8_pixelAt) (tgt := 55) dX8_pixelAt_117 (by decide) ?_
          refine z_le (lv' := [some (vi start_0), some (vi way_0), some (vl share_0), none, some (vl whole_0), none, some (vl (w32 (q_abi way_0))), none, some (vl ((2 * value_10) + (q_ldv x_22 whole_0))), none, some (vl (x_22 - ((q_ldv x_22 whole_0) * whole_0))), none, some (vi (bit_12 + (-1))), none, none]) ⟨Or.inr rfl, Or.inr rfl, Or.inr rfl, Or.inl rfl, Or.inr rfl, Or.inl rfl, Or.inr rfl, Or.inl rfl, Or.inr rfl, Or.inl rfl, Or.inr rfl, Or.inl rfl, Or.inr rfl, Or.inl rfl, Or.inl rfl, trivial⟩ ?_
          exact K_18 _ (Option.some.inj H).symm
        refine z_lload (M := M_X8_pixelAt) dX8_pixelAt_66 rfl ?_
        refine z_iload (M := M_X8_pixelAt) dX8_pixelAt_68 rfl ?_
        refine z_lshr (M := M_X8_pixelAt) dX8_pixelAt_70 ?_
        refine z_lconst (M := M_X8_pixelAt) (m := 1) dX8_pixelAt_71 (by decide +kernel) ?_
        refine z_land (M := M_X8_pixelAt) dX8_pixelAt_72 ?_
        refine z_lconst (M := M_X8_pixelAt) (m := 1) dX8_pixelAt_73 (by decide +kernel) ?_
        refine z_lcmp (M := M_X8_pixelAt) dX8_pixelAt_74 ?_
        by_cases h_25 : (w64 (q_lan (q_lsr (w32 (q_abi way_0)) bit_12) 1)) = 1
        · refine z_lif_ne_f (M := M_X8_pixelAt) (tgt := 82) dX8_pixelAt_75 (by decide) rfl (by decide +kernel) h_25 ?_
          refine z_lload_n (M := M_X8_pixelAt) dX8_pixelAt_78 rfl ?_
          refine z_goto (M := M_X8_pixelAt) (tgt := 83) dX8_pixelAt_79 (by decide) ?_
          exact z_st (by rw [if_pos (c := (w64 (q_lan (q_lsr (w32 (q_abi way_0)) bit_12) 1)) = 1) h_25]) J_21
        · refine z_lif_ne_t (M := M_X8_pixelAt) (tgt := 82) dX8_pixelAt_75 (by decide) rfl (by decide +kernel) h_25 ?_
          refine z_lconst (M := M_X8_pixelAt) (m := 0) dX8_pixelAt_82 (by decide +kernel) ?_
          exact z_st (by rw [if_neg (c := (w64 (q_lan (q_lsr (w32 (q_abi way_0)) bit_12) 1)) = 1) h_25]) J_21
      · refine z_if_lt_t (M := M_X8_pixelAt) (tgt := 120) dX8_pixelAt_57 (by decide) rfl (Int.not_le.mp h_20) ?_
        exact J_31 _ _ _ (K_19 _ (Option.some.inj H).symm).symm
theorem c_X8_addCrossing (hl : l.stackTraces = false) {σ : SG} {i_0 : Int} {j_0 : Int} {r : Bool} {σ' : SG}  (H : fN_addCrossing σ i_0 j_0 = some (r, σ')) : en_S l E M_X8_addCrossing 5 0 0 [vr 193, vi i_0, vi j_0] σ (pS (some (zv r)) σ') := by
  unfold fN_addCrossing at H
  refine z_mk (lv := [some (vr 193), some (vi i_0), some (vi j_0), none, none, none, none, none, none, none, none, none, none, none, none, none, none]) m_X8_addCrossing rfl hl (Nat.le_of_ble_eq_true rfl) rfl ?_
  refine z_aload_n (M := M_X8_addCrossing) dX8_addCrossing_0 rfl ?_
  refine z_getR (M := M_X8_addCrossing) (ci := 11) (C := RX8) (T := TX8) (Nf := 13) (ty := tyX8) cl11 dX8_addCrossing_1 ly_193 0 (by decide) t_327 rfl ?_
  refine z_getR (M := M_X8_addCrossing) (ci := 8) (C := RX5) (T := TX5) (Nf := 8) (ty := tyX5) cl8 dX8_addCrossing_4 (ly_G (by decide)) 2 (by decide) t_243 rfl ?_
  refine z_iload_n (M := M_X8_addCrossing) dX8_addCrossing_7 rfl ?_
  obtain ⟨x_1, x_1_e, hi_2, H⟩ := rd_e H
  refine z_iald (M := M_X8_addCrossing) dX8_addCrossing_8 ly_197 rfl rfl rfl hi_2 x_1_e ?_
  refine z_aload_n (M := M_X8_addCrossing) dX8_addCrossing_9 rfl ?_
  refine z_getR (M := M_X8_addCrossing) (ci := 11) (C := RX8) (T := TX8) (Nf := 13) (ty := tyX8) cl11 dX8_addCrossing_10 ly_193 0 (by decide) t_327 rfl ?_
  refine z_getR (M := M_X8_addCrossing) (ci := 8) (C := RX5) (T := TX5) (Nf := 8) (ty := tyX5) cl8 dX8_addCrossing_13 (ly_G (by decide)) 0 (by decide) t_235 rfl ?_
  refine z_iload_n (M := M_X8_addCrossing) dX8_addCrossing_16 rfl ?_
  obtain ⟨x_3, x_3_e, hi_4, H⟩ := rd_e H
  refine z_iald (M := M_X8_addCrossing) dX8_addCrossing_17 ly_195 rfl rfl rfl hi_4 x_3_e ?_
  refine z_isub (M := M_X8_addCrossing) dX8_addCrossing_18 ?_
  refine z_istore_n (M := M_X8_addCrossing) (lv' := [some (vr 193), some (vi i_0), some (vi j_0), some (vi (x_1 - x_3)), none, none, none, none, none, none, none, none, none, none, none, none, none]) dX8_addCrossing_19 (Nat.le_of_ble_eq_true rfl) rfl rfl ?_
  refine z_aload_n (M := M_X8_addCrossing) dX8_addCrossing_20 rfl ?_
  refine z_getR (M := M_X8_addCrossing) (ci := 11) (C := RX8) (T := TX8) (Nf := 13) (ty := tyX8) cl11 dX8_addCrossing_21 ly_193 0 (by decide) t_327 rfl ?_
  refine z_getR (M := M_X8_addCrossing) (ci := 8) (C := RX5) (T := TX5) (Nf := 8) (ty := tyX5) cl8 dX8_addCrossing_24 (ly_G (by decide)) 3 (by decide) t_247 rfl ?_
  refine z_iload_n (M := M_X8_addCrossing) dX8_addCrossing_27 rfl ?_
  obtain ⟨x_5, x_5_e, hi_6, H⟩ := rd_e H
  refine z_iald (M := M_X8_addCrossing) dX8_addCrossing_28 ly_198 rfl rfl rfl hi_6 x_5_e ?_
  refine z_aload_n (M := M_X8_addCrossing) dX8_addCrossing_29 rfl ?_
  refine z_getR (M := M_X8_addCrossing) (ci := 11) (C := RX8) (T := TX8) (Nf := 13) (ty := tyX8) cl11 dX8_addCrossing_30 ly_193 0 (by decide) t_327 rfl ?_
  refine z_getR (M := M_X8_addCrossing) (ci := 8) (C := RX5) (T := TX5) (Nf := 8) (ty := tyX5) cl8 dX8_addCrossing_33 (ly_G (by decide)) 1 (by decide) t_239 rfl ?_
  refine z_iload_n (M := M_X8_addCrossing) dX8_addCrossing_36 rfl ?_
  obtain ⟨x_7, x_7_e, hi_8, H⟩ := rd_e H
  refine z_iald (M := M_X8_addCrossing) dX8_addCrossing_37 ly_196 rfl rfl rfl hi_8 x_7_e ?_
  refine z_isub (M := M_X8_addCrossing) dX8_addCrossing_38 ?_
  refine z_istore (M := M_X8_addCrossing) (lv' := [some (vr 193), some (vi i_0), some (vi j_0), some (vi (x_1 - x_3)), some (vi (x_5 - x_7)), none, none, none, none, none, none, none, none, none, none, none, none]) dX8_addCrossing_39 (Nat.le_of_ble_eq_true rfl) rfl rfl ?_
  refine z_aload_n (M := M_X8_addCrossing) dX8_addCrossing_41 rfl ?_
  refine z_getR (M := M_X8_addCrossing) (ci := 11) (C := RX8) (T := TX8) (Nf := 13) (ty := tyX8) cl11 dX8_addCrossing_42 ly_193 0 (by decide) t_327 rfl ?_
  refine z_getR (M := M_X8_addCrossing) (ci := 8) (C := RX5) (T := TX5) (Nf := 8) (ty := tyX5) cl8 dX8_addCrossing_45 (ly_G (by decide)) 2 (by decide) t_243 rfl ?_
  refine z_iload_n (M := M_X8_addCrossing) dX8_addCrossing_48 rfl ?_
  obtain ⟨x_9, x_9_e, hi_10, H⟩ := rd_e H
  refine z_iald (M := M_X8_addCrossing) dX8_addCrossing_49 ly_197 rfl rfl rfl hi_10 x_9_e ?_
  refine z_i2l (M := M_X8_addCrossing) dX8_addCrossing_50 ?_
  refine z_aload_n (M := M_X8_addCrossing) dX8_addCrossing_51 rfl ?_
  refine z_getR (M := M_X8_addCrossing) (ci := 11) (C := RX8) (T := TX8) (Nf := 13) (ty := tyX8) cl11 dX8_addCrossing_52 ly_193 0 (by decide) t_327 rfl ?_
  refine z_getR (M := M_X8_addCrossing) (ci := 8) (C := RX5) (T := TX5) (Nf := 8) (ty := tyX5) cl8 dX8_addCrossing_55 (ly_G (by decide)) 0 (by decide) t_235 rfl ?_
  refine z_iload_n (M := M_X8_addCrossing) dX8_addCrossing_58 rfl ?_
  obtain ⟨x_11, x_11_e, hi_12, H⟩ := rd_e H
  refine z_iald (M := M_X8_addCrossing) dX8_addCrossing_59 ly_195 rfl rfl rfl hi_12 x_11_e ?_
  refine z_i2l (M := M_X8_addCrossing) dX8_addCrossing_60 ?_
  refine z_lsub (M := M_X8_addCrossing) dX8_addCrossing_61 ?_
  refine z_lstore (M := M_X8_addCrossing) (lv' := [some (vr 193), some (vi i_0), some (vi j_0), some (vi (x_1 - x_3)), some (vi (x_5 - x_7)), some (vl ((w32 x_9) - (w32 x_11))), none, none, none, none, none, none, none, none, none, none, none]) dX8_addCrossing_62 (Nat.le_of_ble_eq_true rfl) rfl rfl ?_
  refine z_aload_n (M := M_X8_addCrossing) dX8_addCrossing_64 rfl ?_
  refine z_getR (M := M_X8_addCrossing) (ci := 11) (C := RX8) (T := TX8) (Nf := 13) (ty := tyX8) cl11 dX8_addCrossing_65 ly_193 0 (by decide) t_327 rfl ?_
  refine z_getR (M := M_X8_addCrossing) (ci := 8) (C := RX5) (T := TX5) (Nf := 8) (ty := tyX5) cl8 dX8_addCrossing_68 (ly_G (by decide)) 3 (by decide) t_247 rfl ?_
  refine z_iload_n (M := M_X8_addCrossing) dX8_addCrossing_71 rfl ?_
  obtain ⟨x_13, x_13_e, hi_14, H⟩ := rd_e H
  refine z_iald (M := M_X8_addCrossing) dX8_addCrossing_72 ly_198 rfl rfl rfl hi_14 x_13_e ?_
  refine z_i2l (M := M_X8_addCrossing) dX8_addCrossing_73 ?_
  refine z_aload_n (M := M_X8_addCrossing) dX8_addCrossing_74 rfl ?_
  refine z_getR (M := M_X8_addCrossing) (ci := 11) (C := RX8) (T := TX8) (Nf := 13) (ty := tyX8) cl11 dX8_addCrossing_75 ly_193 0 (by decide) t_327 rfl ?_
  refine z_getR (M := M_X8_addCrossing) (ci := 8) (C := RX5) (T := TX5) (Nf := 8) (ty := tyX5) cl8 dX8_addCrossing_78 (ly_G (by decide)) 1 (by decide) t_239 rfl ?_
  refine z_iload_n (M := M_X8_addCrossing) dX8_addCrossing_81 rfl ?_
  obtain ⟨x_15, x_15_e, hi_16, H⟩ := rd_e H
  refine z_iald (M := M_X8_addCrossing) dX8_addCrossing_82 ly_196 rfl rfl rfl hi_16 x_15_e ?_
  refine z_i2l (M := M_X8_addCrossing) dX8_addCrossing_83 ?_
  refine z_lsub (M := M_X8_addCrossing) dX8_addCrossing_84 ?_
  refine z_lstore (M := M_X8_addCrossing) (lv' := [some (vr 193), some (vi i_0), some (vi j_0), some (vi (x_1 - x_3)), some (vi (x_5 - x_7)), some (vl ((w32 x_9) - (w32 x_11))), none, some (vl ((w32 x_13) - (w32 x_15))), none, none, none, none, none, none, none, none, none]) dX8_addCrossing_85 (Nat.le_of_ble_eq_true rfl) rfl rfl ?_
  refine z_aload_n (M := M_X8_addCrossing) dX8_addCrossing_87 rfl ?_
  refine z_getR (M := M_X8_addCrossing) (ci := 11) (C := RX8) (T := TX8) (Nf := 13) (ty := tyX8) cl11 dX8_addCrossing_88 ly_193 0 (by decide) t_327 rfl ?_
  refine z_getR (M := M_X8_addCrossing) (ci := 8) (C := RX5) (T := TX5) (Nf := 8) (ty := tyX5) cl8 dX8_addCrossing_91 (ly_G (by decide)) 0 (by decide) t_235 rfl ?_
  refine z_iload_n (M := M_X8_addCrossing) dX8_addCrossing_94 rfl ?_
  obtain ⟨x_17, x_17_e, hi_18, H⟩ := rd_e H
  refine z_iald (M := M_X8_addCrossing) dX8_addCrossing_95 ly_195 rfl rfl rfl hi_18 x_17_e ?_
  refine z_i2l (M := M_X8_addCrossing) dX8_addCrossing_96 ?_
  refine z_aload_n (M := M_X8_addCrossing) dX8_addCrossing_97 rfl ?_
  refine z_getR (M := M_X8_addCrossing) (ci := 11) (C := RX8) (T := TX8) (Nf := 13) (ty := tyX8) cl11 dX8_addCrossing_98 ly_193 0 (by decide) t_327 rfl ?_
  refine z_getR (M := M_X8_addCrossing) (ci := 8) (C := RX5) (T := TX5) (Nf := 8) (ty := tyX5) cl8 dX8_addCrossing_101 (ly_G (by decide)) 0 (by decide) t_235 rfl ?_
  refine z_iload_n (M := M_X8_addCrossing) dX8_addCrossing_104 rfl ?_
  obtain ⟨x_19, x_19_e, hi_20, H⟩ := rd_e H
  refine z_iald (M := M_X8_addCrossing) dX8_addCrossing_105 ly_195 rfl rfl rfl hi_20 x_19_e ?_
  refine z_i2l (M := M_X8_addCrossing) dX8_addCrossing_106 ?_
  refine z_lsub (M := M_X8_addCrossing) dX8_addCrossing_107 ?_
  refine z_lstore (M := M_X8_addCrossing) (lv' := [some (vr 193), some (vi i_0), some (vi j_0), some (vi (x_1 - x_3)), some (vi (x_5 - x_7)), some (vl ((w32 x_9) - (w32 x_11))), none, some (vl ((w32 x_13) - (w32 x_15))), none, some (vl ((w32 x_17) - (w32 x_19))), none, none, none, none, none, none, none]) dX8_addCrossing_108 (Nat.le_of_ble_eq_true rfl) rfl rfl ?_
  refine z_aload_n (M := M_X8_addCrossing) dX8_addCrossing_110 rfl ?_
  refine z_getR (M := M_X8_addCrossing) (ci := 11) (C := RX8) (T := TX8) (Nf := 13) (ty := tyX8) cl11 dX8_addCrossing_111 ly_193 0 (by decide) t_327 rfl ?_
  refine z_getR (M := M_X8_addCrossing) (ci := 8) (C := RX5) (T := TX5) (Nf := 8) (ty := tyX5) cl8 dX8_addCrossing_114 (ly_G (by decide)) 1 (by decide) t_239 rfl ?_
  refine z_iload_n (M := M_X8_addCrossing) dX8_addCrossing_117 rfl ?_
  obtain ⟨x_21, x_21_e, hi_22, H⟩ := rd_e H
  refine z_iald (M := M_X8_addCrossing) dX8_addCrossing_118 ly_196 rfl rfl rfl hi_22 x_21_e ?_
  refine z_i2l (M := M_X8_addCrossing) dX8_addCrossing_119 ?_
  refine z_aload_n (M := M_X8_addCrossing) dX8_addCrossing_120 rfl ?_
  refine z_getR (M := M_X8_addCrossing) (ci := 11) (C := RX8) (T := TX8) (Nf := 13) (ty := tyX8) cl11 dX8_addCrossing_121 ly_193 0 (by decide) t_327 rfl ?_
  refine z_getR (M := M_X8_addCrossing) (ci := 8) (C := RX5) (T := TX5) (Nf := 8) (ty := tyX5) cl8 dX8_addCrossing_124 (ly_G (by decide)) 1 (by decide) t_239 rfl ?_
  refine z_iload_n (M := M_X8_addCrossing) dX8_addCrossing_127 rfl ?_
  obtain ⟨x_23, x_23_e, hi_24, H⟩ := rd_e H
  refine z_iald (M := M_X8_addCrossing) dX8_addCrossing_128 ly_196 rfl rfl rfl hi_24 x_23_e ?_
  refine z_i2l (M := M_X8_addCrossing) dX8_addCrossing_129 ?_
  refine z_lsub (M := M_X8_addCrossing) dX8_addCrossing_130 ?_
  refine z_lstore (M := M_X8_addCrossing) (lv' := [some (vr 193), some (vi i_0), some (vi j_0), some (vi (x_1 - x_3)), some (vi (x_5 - x_7)), some (vl ((w32 x_9) - (w32 x_11))), none, some (vl ((w32 x_13) - (w32 x_15))), none, some (vl ((w32 x_17) - (w32 x_19))), none, some (vl ((w32 x_21) - (w32 x_23))), none, none, none, none, none]) dX8_addCrossing_131 (Nat.le_of_ble_eq_true rfl) rfl rfl ?_
  refine z_iload_n (M := M_X8_addCrossing) dX8_addCrossing_133 rfl ?_
  refine z_i2l (M := M_X8_addCrossing) dX8_addCrossing_134 ?_
  refine z_lload (M := M_X8_addCrossing) dX8_addCrossing_135 rfl ?_
  refine z_lmul (M := M_X8_addCrossing) dX8_addCrossing_137 ?_
  refine z_iload (M := M_X8_addCrossing) dX8_addCrossing_138 rfl ?_
  refine z_i2l (M := M_X8_addCrossing) dX8_addCrossing_140 ?_
  refine z_lload (M := M_X8_addCrossing) dX8_addCrossing_141 rfl ?_
  refine z_lmul (M := M_X8_addCrossing) dX8_addCrossing_143 ?_
  refine z_lsub (M := M_X8_addCrossing) dX8_addCrossing_144 ?_
  refine z_labs (M := M_X8_addCrossing) dX8_addCrossing_145 t_1442 t_1131 t_20 t_1132 (Nat.le_of_ble_eq_true rfl) (Nat.le_of_ble_eq_true rfl) (Nat.le_of_ble_eq_true rfl) (Nat.le_of_ble_eq_true rfl) ?_
  obtain ⟨x_25, x_25_e, H⟩ := lt_e H
  refine z_st (congrArg (fun z => vl z :: []) x_25_e) ?_
  refine z_lstore (M := M_X8_addCrossing) (lv' := [some (vr 193), some (vi i_0), some (vi j_0), some (vi (x_1 - x_3)), some (vi (x_5 - x_7)), some (vl ((w32 x_9) - (w32 x_11))), none, some (vl ((w32 x_13) - (w32 x_15))), none, some (vl ((w32 x_17) - (w32 x_19))), none, some (vl ((w32 x_21) - (w32 x_23))), none, some (vl x_25), none, none, none]) dX8_addCrossing_148 (Nat.le_of_ble_eq_true rfl) rfl rfl ?_
  refine z_lload (M := M_X8_addCrossing) dX8_addCrossing_150 rfl ?_
  refine z_lload (M := M_X8_addCrossing) dX8_addCrossing_152 rfl ?_
  refine z_lmul (M := M_X8_addCrossing) dX8_addCrossing_154 ?_
  refine z_lload (M := M_X8_addCrossing) dX8_addCrossing_155 rfl ?_
  refine z_lload (M := M_X8_addCrossing) dX8_addCrossing_157 rfl ?_
  refine z_lmul (M := M_X8_addCrossing) dX8_addCrossing_159 ?_
  refine z_lsub (M := M_X8_addCrossing) dX8_addCrossing_160 ?_
  refine z_labs (M := M_X8_addCrossing) dX8_addCrossing_161 t_1442 t_1131 t_20 t_1132 (Nat.le_of_ble_eq_true rfl) (Nat.le_of_ble_eq_true rfl) (Nat.le_of_ble_eq_true rfl) (Nat.le_of_ble_eq_true rfl) ?_
  obtain ⟨x_26, x_26_e, H⟩ := lt_e H
  refine z_st (congrArg (fun z => vl z :: []) x_26_e) ?_
  refine z_lstore (M := M_X8_addCrossing) (lv' := [some (vr 193), some (vi i_0), some (vi j_0), some (vi (x_1 - x_3)), some (vi (x_5 - x_7)), some (vl ((w32 x_9) - (w32 x_11))), none, some (vl ((w32 x_13) - (w32 x_15))), none, some (vl ((w32 x_17) - (w32 x_19))), none, some (vl ((w32 x_21) - (w32 x_23))), none, some (vl x_25), none, some (vl x_26), none]) dX8_addCrossing_164 (Nat.le_of_ble_eq_true rfl) rfl rfl ?_
  refine z_aload_n (M := M_X8_addCrossing) dX8_addCrossing_166 rfl ?_
  refine z_aload_n (M := M_X8_addCrossing) dX8_addCrossing_167 rfl ?_
  refine z_getR (M := M_X8_addCrossing) (ci := 11) (C := RX8) (T := TX8) (Nf := 13) (ty := tyX8) cl11 dX8_addCrossing_168 ly_193 0 (by decide) t_327 rfl ?_
  refine z_getR (M := M_X8_addCrossing) (ci := 8) (C := RX5) (T := TX5) (Nf := 8) (ty := tyX5) cl8 dX8_addCrossing_171 (ly_G (by decide)) 0 (by decide) t_235 rfl ?_
  refine z_iload_n (M := M_X8_addCrossing) dX8_addCrossing_174 rfl ?_
  obtain ⟨x_27, x_27_e, hi_28, H⟩ := rd_e H
  refine z_iald (M := M_X8_addCrossing) dX8_addCrossing_175 ly_195 rfl rfl rfl hi_28 x_27_e ?_
  refine z_iload_n (M := M_X8_addCrossing) dX8_addCrossing_176 rfl ?_
  refine z_lload (M := M_X8_addCrossing) dX8_addCrossing_177 rfl ?_
  refine z_lload (M := M_X8_addCrossing) dX8_addCrossing_179 rfl ?_
  obtain ⟨x_30, hc_29, H⟩ := bd_e H
  refine z_callS (M := M_X8_addCrossing) (M' := M_X8_pixelAt) (as := [vi x_27, vi (x_1 - x_3), vl x_26, vl x_25]) (rest := [vr 193]) rfl rfl dX8_addCrossing_181 m_X8_pixelAt t_1443 t_1444 (c_X8_pixelAt hl  hc_29) rfl rfl (Nat.le_of_ble_eq_true rfl) (Nat.le_of_ble_eq_true rfl) (Nat.le_of_ble_eq_true rfl) (Nat.le_of_ble_eq_true rfl) ?_
  refine z_st (st' := [vi x_30, vr 193]) rfl ?_
  refine z_aload_n (M := M_X8_addCrossing) dX8_addCrossing_184 rfl ?_
  refine z_getR (M := M_X8_addCrossing) (ci := 11) (C := RX8) (T := TX8) (Nf := 13) (ty := tyX8) cl11 dX8_addCrossing_185 ly_193 0 (by decide) t_327 rfl ?_
  refine z_getR (M := M_X8_addCrossing) (ci := 8) (C := RX5) (T := TX5) (Nf := 8) (ty := tyX5) cl8 dX8_addCrossing_188 (ly_G (by decide)) 1 (by decide) t_239 rfl ?_
  refine z_iload_n (M := M_X8_addCrossing) dX8_addCrossing_191 rfl ?_
  obtain ⟨x_31, x_31_e, hi_32, H⟩ := rd_e H
  refine z_iald (M := M_X8_addCrossing) dX8_addCrossing_192 ly_196 rfl rfl rfl hi_32 x_31_e ?_
  refine z_iload (M := M_X8_addCrossing) dX8_addCrossing_193 rfl ?_
  refine z_lload (M := M_X8_addCrossing) dX8_addCrossing_195 rfl ?_
  refine z_lload (M := M_X8_addCrossing) dX8_addCrossing_197 rfl ?_
  obtain ⟨x_34, hc_33, H⟩ := bd_e H
  refine z_callS (M := M_X8_addCrossing) (M' := M_X8_pixelAt) (as := [vi x_31, vi (x_5 - x_7), vl x_26, vl x_25]) (rest := [vi x_30, vr 193]) rfl rfl dX8_addCrossing_199 m_X8_pixelAt t_1443 t_1444 (c_X8_pixelAt hl  hc_33) rfl rfl (Nat.le_of_ble_eq_true rfl) (Nat.le_of_ble_eq_true rfl) (Nat.le_of_ble_eq_true rfl) (Nat.le_of_ble_eq_true rfl) ?_
  refine z_st (st' := [vi x_34, vi x_30, vr 193]) rfl ?_
  obtain ⟨⟨x_37, σ_36⟩, hc_35, H⟩ := bd_e H
  refine z_callV (M := M_X8_addCrossing) (M' := M_X8_addHot) (as := [vi x_30, vi x_34]) (rest := []) rfl rfl dX8_addCrossing_202 m_X8_addHot t_1408 t_1410 s_70 (c_X8_addHot hl  hc_35) rfl rfl ly_193 rfl (Nat.le_of_ble_eq_true rfl) (Nat.le_of_ble_eq_true rfl) (Nat.le_of_ble_eq_true rfl) (Nat.le_of_ble_eq_true rfl) ?_
  refine z_st (st' := [zv x_37]) rfl ?_
  cases H
  exact z_zret (M := M_X8_addCrossing) dX8_addCrossing_205 rfl (Nat.le_of_ble_eq_true rfl) (Nat.le_of_ble_eq_true rfl) ⟨rfl, rfl⟩
theorem c_X8_addCrossings (hl : l.stackTraces = false) {σ : SG} {r : Bool} {σ' : SG}  (H : fN_addCrossings σ = some (r, σ')) : en_S l E M_X8_addCrossings 6 0 0 [vr 193] σ (pS (some (zv r)) σ') := by
  unfold fN_addCrossings at H
  refine z_mk (lv := [some (vr 193), none, none, none, none, none]) m_X8_addCrossings rfl hl (Nat.le_of_ble_eq_true rfl) rfl ?_
  refine z_iconst (M := M_X8_addCrossings) dX8_addCrossings_0 ?_
  refine z_istore_n (M := M_X8_addCrossings) (lv' := [some (vr 193), some (vi 0), none, none, none, none]) dX8_addCrossings_1 (Nat.le_of_ble_eq_true rfl) rfl rfl ?_
  obtain ⟨rl_6, hw_3, hk_4⟩ := bd_e H
  have J_90 : ∀ i_17 σ_18, rl_6 = (i_17, σ_18) → YY l E M_X8_addCrossings 6 0 0 (pS (some (zv r)) σ') 40 [some (vr 193), some (vi i_17), none, none, none, none] [] σ_18 0 0 := by
    intro i_17 σ_18 e
    have H := hk_4
    rw [e] at H
    refine z_aload_n (M := M_X8_addCrossings) dX8_addCrossings_40 rfl ?_
    refine z_getR (M := M_X8_addCrossings) (ci := 11) (C := RX8) (T := TX8) (Nf := 13) (ty := tyX8) cl11 dX8_addCrossings_41 ly_193 4 (by decide) t_331 rfl ?_
    refine z_aload_n (M := M_X8_addCrossings) dX8_addCrossings_44 rfl ?_
    refine z_getR (M := M_X8_addCrossings) (ci := 11) (C := RX8) (T := TX8) (Nf := 13) (ty := tyX8) cl11 dX8_addCrossings_45 ly_193 0 (by decide) t_327 rfl ?_
    refine z_getI (M := M_X8_addCrossings) (ci := 8) (C := RX5) (T := TX5) (Nf := 8) (ty := tyX5) cl8 dX8_addCrossings_48 (ly_G (by decide)) 5 (by decide) t_255 rfl rfl ?_
    obtain ⟨σ_20, hc_19, H⟩ := bd_e H
    refine z_callSN (M := M_X8_addCrossings) (M' := M_X11_sortRow) (as := [vr 201, vi (σ_18 (kE_size 194) 0)]) (rest := []) rfl rfl dX8_addCrossings_51 m_X11_sortRow n_1416 t_1417 (c_X11_sortRow hl ly_201 hc_19) rfl rfl (Nat.le_of_ble_eq_true rfl) (Nat.le_of_ble_eq_true rfl) (Nat.le_of_ble_eq_true rfl) (Nat.le_of_ble_eq_true rfl) ?_
    refine z_st (st' := []) rfl ?_
    refine z_iconst (M := M_X8_addCrossings) dX8_addCrossings_54 ?_
    refine z_istore_n (M := M_X8_addCrossings) (lv' := [some (vr 193), some (vi 0), none, none, none, none]) dX8_addCrossings_55 (Nat.le_of_ble_eq_true rfl) rfl rfl ?_
    obtain ⟨rl_26, hw_23, hk_24, hk_25⟩ := bx_e H
    have J_89 : ∀ a_87 σ_88, rl_26 = (.inl (a_87, σ_88)) → YY l E M_X8_addCrossings 6 0 0 (pS (some (zv r)) σ') 165 [some (vr 193), some (vi a_87), none, none, none, none] [] σ_88 0 0 := by
      intro a_87 σ_88 e
      have H := hk_24 _ e
      refine z_zconst (M := M_X8_addCrossings) (b := true) dX8_addCrossings_165 rfl ?_
      cases H
      exact z_zret (M := M_X8_addCrossings) dX8_addCrossings_166 rfl (Nat.le_of_ble_eq_true rfl) (Nat.le_of_ble_eq_true rfl) ⟨rfl, rfl⟩
    refine whl_go hw_23 (fun (a_21, σ_22) => YY l E M_X8_addCrossings 6 0 0 (pS (some (zv r)) σ') 56 [some (vr 193), some (vi a_21), none, none, none, none] [] σ_22 0 0) ?_
    rintro ⟨a_21, σ_22⟩ o_27 H K_28 K_29
    refine z_iload_n (M := M_X8_addCrossings) dX8_addCrossings_56 rfl ?_
    refine z_aload_n (M := M_X8_addCrossings) dX8_addCrossings_57 rfl ?_
    refine z_getR (M := M_X8_addCrossings) (ci := 11) (C := RX8) (T := TX8) (Nf := 13) (ty := tyX8) cl11 dX8_addCrossings_58 ly_193 0 (by decide) t_327 rfl ?_
    refine z_getI (M := M_X8_addCrossings) (ci := 8) (C := RX5) (T := TX5) (Nf := 8) (ty := tyX5) cl8 dX8_addCrossings_61 (ly_G (by decide)) 5 (by decide) t_255 rfl rfl ?_
    rcases if_e H with ⟨h_30, H⟩ | ⟨h_30, H⟩
    · refine z_icmp_ge_f (M := M_X8_addCrossings) (tgt := 165) dX8_addCrossings_64 (by decide) rfl rfl h_30 ?_
      refine z_aload_n (M := M_X8_addCrossings) dX8_addCrossings_67 rfl ?_
      refine z_getR (M := M_X8_addCrossings) (ci := 11) (C := RX8) (T := TX8) (Nf := 13) (ty := tyX8) cl11 dX8_addCrossings_68 ly_193 4 (by decide) t_331 rfl ?_
      refine z_iload_n (M := M_X8_addCrossings) dX8_addCrossings_71 rfl ?_
      obtain ⟨x_31, x_31_e, hi_32, H⟩ := rd_e H
      refine z_lald (M := M_X8_addCrossings) dX8_addCrossings_72 ly_201 rfl rfl rfl hi_32 x_31_e ?_
      refine z_l2i (M := M_X8_addCrossings) dX8_addCrossings_73 ?_
      refine z_istore_n (M := M_X8_addCrossings) (lv' := [some (vr 193), some (vi a_21), some (vi x_31), none, none, none]) dX8_addCrossings_74 (Nat.le_of_ble_eq_true rfl) rfl rfl ?_
      refine z_aload_n (M := M_X8_addCrossings) dX8_addCrossings_75 rfl ?_
      refine z_getR (M := M_X8_addCrossings) (ci := 11) (C := RX8) (T := TX8) (Nf := 13) (ty := tyX8) cl11 dX8_addCrossings_76 ly_193 0 (by decide) t_327 rfl ?_
      refine z_iload_n (M := M_X8_addCrossings) dX8_addCrossings_79 rfl ?_
      obtain ⟨x_34, hc_33, H⟩ := bd_e H
      refine z_callV (M := M_X8_addCrossings) (M' := M_X5_highX) (as := [vi x_31]) (rest := []) rfl rfl dX8_addCrossings_80 m_X5_highX t_1436 t_1239 t_1240 (c_X5_highX hl (by decide) hc_33) rfl rfl (ly_G (by decide)) rfl (Nat.le_of_ble_eq_true rfl) (Nat.le_of_ble_eq_true rfl) (Nat.le_of_ble_eq_true rfl) (Nat.le_of_ble_eq_true rfl) ?_
      refine z_st (st' := [vi x_34]) rfl ?_
      refine z_istore_n (M := M_X8_addCrossings) (lv' := [some (vr 193), some (vi a_21), some (vi x_31), some (vi x_34), none, none]) dX8_addCrossings_83 (Nat.le_of_ble_eq_true rfl) rfl rfl ?_
      refine z_iload_n (M := M_X8_addCrossings) dX8_addCrossings_84 rfl ?_
      refine z_iconst (M := M_X8_addCrossings) dX8_addCrossings_85 ?_
      refine z_iadd (M := M_X8_addCrossings) dX8_addCrossings_86 ?_
      refine z_istore (M := M_X8_addCrossings) (lv' := [some (vr 193), some (vi a_21), some (vi x_31), some (vi x_34), some (vi (a_21 + 1)), none]) dX8_addCrossings_87 (Nat.le_of_ble_eq_true rfl) rfl rfl ?_
      obtain ⟨rl_40, hw_37, hk_38, hk_39⟩ := bx_e H
      have J_85 : ∀ b_82 σ_83, rl_40 = (.inl (b_82, σ_83)) → YY l E M_X8_addCrossings 6 0 0 (pS (some (zv r)) σ') 159 [some (vr 193), some (vi a_21), some (vi x_31), some (vi x_34), some (vi b_82), none] [] σ_83 0 0 := by
        intro b_82 σ_83 e
        have H := hk_38 _ e
        refine z_iinc (M := M_X8_addCrossings) (lv' := [some (vr 193), some (vi (a_21 + 1)), some (vi x_31), some (vi x_34), some (vi b_82), none]) dX8_addCrossings_159 rfl (Nat.le_of_ble_eq_true rfl) rfl rfl ?_
        refine z_goto (M := M_X8_addCrossings) (tgt := 56) dX8_addCrossings_162 (by decide) ?_
        refine z_le (lv' := [some (vr 193), some (vi (a_21 + 1)), none, none, none, none]) ⟨Or.inr rfl, Or.inr rfl, Or.inl rfl, Or.inl rfl, Or.inl rfl, Or.inl rfl, trivial⟩ ?_
        exact K_28 _ (Option.some.inj H).symm
      refine whl_go hw_37 (fun (b_35, σ_36) => YY l E M_X8_addCrossings 6 0 0 (pS (some (zv r)) σ') 89 [some (vr 193), some (vi a_21), some (vi x_31), some (vi x_34), some (vi b_35), none] [] σ_36 0 0) ?_
      rintro ⟨b_35, σ_36⟩ o_41 H K_42 K_43
      refine z_iload (M := M_X8_addCrossings) dX8_addCrossings_89 rfl ?_
      refine z_aload_n (M := M_X8_addCrossings) dX8_addCrossings_91 rfl ?_
      refine z_getR (M := M_X8_addCrossings) (ci := 11) (C := RX8) (T := TX8) (Nf := 13) (ty := tyX8) cl11 dX8_addCrossings_92 ly_193 0 (by decide) t_327 rfl ?_
      refine z_getI (M := M_X8_addCrossings) (ci := 8) (C := RX5) (T := TX5) (Nf := 8) (ty := tyX5) cl8 dX8_addCrossings_95 (ly_G (by decide)) 5 (by decide) t_255 rfl rfl ?_
      rcases if_e H with ⟨h_52, H⟩ | ⟨h_52, H⟩
      · refine z_icmp_ge_f (M := M_X8_addCrossings) (tgt := 159) dX8_addCrossings_98 (by decide) rfl rfl h_52 ?_
        refine z_aload_n (M := M_X8_addCrossings) dX8_addCrossings_101 rfl ?_
        refine z_getR (M := M_X8_addCrossings) (ci := 11) (C := RX8) (T := TX8) (Nf := 13) (ty := tyX8) cl11 dX8_addCrossings_102 ly_193 4 (by decide) t_331 rfl ?_
        refine z_iload (M := M_X8_addCrossings) dX8_addCrossings_105 rfl ?_
        obtain ⟨x_53, x_53_e, hi_54, H⟩ := rd_e H
        refine z_lald (M := M_X8_addCrossings) dX8_addCrossings_107 ly_201 rfl rfl rfl hi_54 x_53_e ?_
        refine z_bipush (M := M_X8_addCrossings) dX8_addCrossings_108 (by decide +kernel) ?_
        refine z_lshr (M := M_X8_addCrossings) dX8_addCrossings_110 ?_
        refine z_iload_n (M := M_X8_addCrossings) dX8_addCrossings_111 rfl ?_
        refine z_i2l (M := M_X8_addCrossings) dX8_addCrossings_112 ?_
        refine z_lcmp (M := M_X8_addCrossings) dX8_addCrossings_113 ?_
        rcases if_e H with ⟨h_55, H⟩ | ⟨h_55, H⟩
        · refine z_lif_gt_f (M := M_X8_addCrossings) (tgt := 159) dX8_addCrossings_114 (by decide) rfl rfl h_55 ?_
          refine z_aload_n (M := M_X8_addCrossings) dX8_addCrossings_117 rfl ?_
          refine z_getR (M := M_X8_addCrossings) (ci := 11) (C := RX8) (T := TX8) (Nf := 13) (ty := tyX8) cl11 dX8_addCrossings_118 ly_193 4 (by decide) t_331 rfl ?_
          refine z_iload (M := M_X8_addCrossings) dX8_addCrossings_121 rfl ?_
          obtain ⟨x_56, x_56_e, hi_57, H⟩ := rd_e H
          refine z_lald (M := M_X8_addCrossings) dX8_addCrossings_123 ly_201 rfl rfl rfl hi_57 x_56_e ?_
          refine z_l2i (M := M_X8_addCrossings) dX8_addCrossings_124 ?_
          refine z_istore (M := M_X8_addCrossings) (lv' := [some (vr 193), some (vi a_21), some (vi x_31), some (vi x_34), some (vi b_35), some (vi x_56)]) dX8_addCrossings_125 (Nat.le_of_ble_eq_true rfl) rfl rfl ?_
          refine z_aload_n (M := M_X8_addCrossings) dX8_addCrossings_127 rfl ?_
          refine z_getR (M := M_X8_addCrossings) (ci := 11) (C := RX8) (T := TX8) (Nf := 13) (ty := tyX8) cl11 dX8_addCrossings_128 ly_193 0 (by decide) t_327 rfl ?_
          refine z_iload_n (M := M_X8_addCrossings) dX8_addCrossings_131 rfl ?_
          refine z_iload (M := M_X8_addCrossings) dX8_addCrossings_132 rfl ?_
          obtain ⟨⟨x_72, σ_71⟩, hc_70, H⟩ := bd_e H
          refine z_callV (M := M_X8_addCrossings) (M' := M_X5_meet) (as := [vi x_31, vi x_56]) (rest := []) rfl rfl dX8_addCrossings_134 m_X5_meet t_1437 t_1256 t_1257 (c_X5_meet hl (by decide) hc_70) rfl rfl (ly_G (by decide)) rfl (Nat.le_of_ble_eq_true rfl) (Nat.le_of_ble_eq_true rfl) (Nat.le_of_ble_eq_true rfl) (Nat.le_of_ble_eq_true rfl) ?_
          refine z_st (st' := [vi x_72]) rfl ?_
          refine z_iconst (M := M_X8_addCrossings) dX8_addCrossings_137 ?_
          rcases if_e H with ⟨h_73, H⟩ | ⟨h_73, H⟩
          · refine z_icmp_ne_f (M := M_X8_addCrossings) (tgt := 153) dX8_addCrossings_138 (by decide) rfl (by decide +kernel) h_73 ?_
            refine z_aload_n (M := M_X8_addCrossings) dX8_addCrossings_141 rfl ?_
            refine z_iload_n (M := M_X8_addCrossings) dX8_addCrossings_142 rfl ?_
            refine z_iload (M := M_X8_addCrossings) dX8_addCrossings_143 rfl ?_
            obtain ⟨⟨x_76, σ_75⟩, hc_74, H⟩ := bd_e H
            refine z_callV (M := M_X8_addCrossings) (M' := M_X8_addCrossing) (as := [vi x_31, vi x_56]) (rest := []) rfl rfl dX8_addCrossings_145 m_X8_addCrossing t_1438 t_1440 s_73 (c_X8_addCrossing hl  hc_74) rfl rfl ly_193 rfl (Nat.le_of_ble_eq_true rfl) (Nat.le_of_ble_eq_true rfl) (Nat.le_of_ble_eq_true rfl) (Nat.le_of_ble_eq_true rfl) ?_
            refine z_st (st' := [zv x_76]) rfl ?_
            rcases if_e H with ⟨h_77, H⟩ | ⟨h_77, H⟩
            · refine z_zne_t (M := M_X8_addCrossings) (tgt := 153) dX8_addCrossings_148 (by decide) h_77 ?_
              refine z_iinc (M := M_X8_addCrossings) (lv' := [some (vr 193), some (vi a_21), some (vi x_31), some (vi x_34), some (vi (b_35 + 1)), some (vi x_56)]) dX8_addCrossings_153 rfl (Nat.le_of_ble_eq_true rfl) rfl rfl ?_
              refine z_goto (M := M_X8_addCrossings) (tgt := 89) dX8_addCrossings_156 (by decide) ?_
              refine z_le (lv' := [some (vr 193), some (vi a_21), some (vi x_31), some (vi x_34), some (vi (b_35 + 1)), none]) ⟨Or.inr rfl, Or.inr rfl, Or.inr rfl, Or.inr rfl, Or.inr rfl, Or.inl rfl, trivial⟩ ?_
              exact K_42 _ (Option.some.inj H).symm
            · refine z_zne_f (M := M_X8_addCrossings) (tgt := 153) dX8_addCrossings_148 (by decide) h_77 ?_
              refine z_zconst (M := M_X8_addCrossings) (b := false) dX8_addCrossings_151 rfl ?_
              have H := congrArg some (hk_39 _ ((K_43 _ (Option.some.inj H).symm).symm))
              have H := congrArg some (hk_25 _ ((K_29 _ (Option.some.inj H).symm).symm))
              cases H
              exact z_zret (M := M_X8_addCrossings) dX8_addCrossings_152 rfl (Nat.le_of_ble_eq_true rfl) (Nat.le_of_ble_eq_true rfl) ⟨rfl, rfl⟩
          · refine z_icmp_ne_t (M := M_X8_addCrossings) (tgt := 153) dX8_addCrossings_138 (by decide) rfl (by decide +kernel) h_73 ?_
            refine z_iinc (M := M_X8_addCrossings) (lv' := [some (vr 193), some (vi a_21), some (vi x_31), some (vi x_34), some (vi (b_35 + 1)), some (vi x_56)]) dX8_addCrossings_153 rfl (Nat.le_of_ble_eq_true rfl) rfl rfl ?_
            refine z_goto (M := M_X8_addCrossings) (tgt := 89) dX8_addCrossings_156 (by decide) ?_
            refine z_le (lv' := [some (vr 193), some (vi a_21), some (vi x_31), some (vi x_34), some (vi (b_35 + 1)), none]) ⟨Or.inr rfl, Or.inr rfl, Or.inr rfl, Or.inr rfl, Or.inr rfl, Or.inl rfl, trivial⟩ ?_
            exact K_42 _ (Option.some.inj H).symm
        · refine z_lif_gt_t (M := M_X8_addCrossings) (tgt := 159) dX8_addCrossings_114 (by decide) rfl rfl (Int.not_le.mp h_55) ?_
          exact J_85 _ _ (K_43 _ (Option.some.inj H).symm).symm
      · refine z_icmp_ge_t (M := M_X8_addCrossings) (tgt := 159) dX8_addCrossings_98 (by decide) rfl rfl (Int.not_lt.mp h_52) ?_
        exact J_85 _ _ (K_43 _ (Option.some.inj H).symm).symm
    · refine z_icmp_ge_t (M := M_X8_addCrossings) (tgt := 165) dX8_addCrossings_64 (by decide) rfl rfl (Int.not_lt.mp h_30) ?_
      exact J_89 _ _ (K_29 _ (Option.some.inj H).symm).symm
  refine whl_go hw_3 (fun (i_1, σ_2) => YY l E M_X8_addCrossings 6 0 0 (pS (some (zv r)) σ') 2 [some (vr 193), some (vi i_1), none, none, none, none] [] σ_2 0 0) ?_
  rintro ⟨i_1, σ_2⟩ o_7 H K_8 K_9
  refine z_iload_n (M := M_X8_addCrossings) dX8_addCrossings_2 rfl ?_
  refine z_aload_n (M := M_X8_addCrossings) dX8_addCrossings_3 rfl ?_
  refine z_getR (M := M_X8_addCrossings) (ci := 11) (C := RX8) (T := TX8) (Nf := 13) (ty := tyX8) cl11 dX8_addCrossings_4 ly_193 0 (by decide) t_327 rfl ?_
  refine z_getI (M := M_X8_addCrossings) (ci := 8) (C := RX5) (T := TX5) (Nf := 8) (ty := tyX5) cl8 dX8_addCrossings_7 (ly_G (by decide)) 5 (by decide) t_255 rfl rfl ?_
  rcases if_e H with ⟨h_10, H⟩ | ⟨h_10, H⟩
  · refine z_icmp_ge_f (M := M_X8_addCrossings) (tgt := 40) dX8_addCrossings_10 (by decide) rfl rfl h_10 ?_
    refine z_aload_n (M := M_X8_addCrossings) dX8_addCrossings_13 rfl ?_
    refine z_getR (M := M_X8_addCrossings) (ci := 11) (C := RX8) (T := TX8) (Nf := 13) (ty := tyX8) cl11 dX8_addCrossings_14 ly_193 4 (by decide) t_331 rfl ?_
    refine z_iload_n (M := M_X8_addCrossings) dX8_addCrossings_17 rfl ?_
    refine z_aload_n (M := M_X8_addCrossings) dX8_addCrossings_18 rfl ?_
    refine z_getR (M := M_X8_addCrossings) (ci := 11) (C := RX8) (T := TX8) (Nf := 13) (ty := tyX8) cl11 dX8_addCrossings_19 ly_193 0 (by decide) t_327 rfl ?_
    refine z_iload_n (M := M_X8_addCrossings) dX8_addCrossings_22 rfl ?_
    obtain ⟨x_12, hc_11, H⟩ := bd_e H
    refine z_callV (M := M_X8_addCrossings) (M' := M_X5_lowX) (as := [vi i_1]) (rest := [vi i_1, vr 201]) rfl rfl dX8_addCrossings_23 m_X5_lowX t_1435 t_1234 t_1235 (c_X5_lowX hl (by decide) hc_11) rfl rfl (ly_G (by decide)) rfl (Nat.le_of_ble_eq_true rfl) (Nat.le_of_ble_eq_true rfl) (Nat.le_of_ble_eq_true rfl) (Nat.le_of_ble_eq_true rfl) ?_
    refine z_st (st' := [vi x_12, vi i_1, vr 201]) rfl ?_
    refine z_i2l (M := M_X8_addCrossings) dX8_addCrossings_26 ?_
    refine z_bipush (M := M_X8_addCrossings) dX8_addCrossings_27 (by decide +kernel) ?_
    refine z_lshl (M := M_X8_addCrossings) dX8_addCrossings_29 ?_
    refine z_iload_n (M := M_X8_addCrossings) dX8_addCrossings_30 rfl ?_
    refine z_i2l (M := M_X8_addCrossings) dX8_addCrossings_31 ?_
    refine z_lor (M := M_X8_addCrossings) dX8_addCrossings_32 ?_
    obtain ⟨σ_13, σ_13_e, hi_14, H⟩ := wa_e H
    refine z_last (M := M_X8_addCrossings) dX8_addCrossings_33 ly_201 rfl rfl rfl hi_14 σ_13_e ?_
    refine z_iinc (M := M_X8_addCrossings) (lv' := [some (vr 193), some (vi (i_1 + 1)), none, none, none, none]) dX8_addCrossings_34 rfl (Nat.le_of_ble_eq_true rfl) rfl rfl ?_
    refine z_goto (M := M_X8_addCrossings) (tgt := 2) dX8_addCrossings_37 (by decide) ?_
    exact K_8 _ (Option.some.inj H).symm
  · refine z_icmp_ge_t (M := M_X8_addCrossings) (tgt := 40) dX8_addCrossings_10 (by decide) rfl rfl (Int.not_lt.mp h_10) ?_
    exact J_90 _ _ (K_9 _ (Option.some.inj H).symm).symm
theorem c_X8_addSegment (hl : l.stackTraces = false) {σ : SG} {shape_0 : Nat} {i_0 : Int} {mask_0 : Int} {r : Bool} {σ' : SG} (h_shape : isS shape_0) (H : fN_addSegment σ shape_0 i_0 mask_0 = some (r, σ')) : en_S l E M_X8_addSegment 5 0 0 [vr 193, vr shape_0, vi i_0, vi mask_0] σ (pS (some (zv r)) σ') := by
  unfold fN_addSegment at H
  refine z_mk (lv := [some (vr 193), some (vr shape_0), some (vi i_0), some (vi mask_0)]) m_X8_addSegment rfl hl (Nat.le_of_ble_eq_true rfl) rfl ?_
  refine z_aload_n (M := M_X8_addSegment) dX8_addSegment_0 rfl ?_
  refine z_getR (M := M_X8_addSegment) (ci := 11) (C := RX8) (T := TX8) (Nf := 13) (ty := tyX8) cl11 dX8_addSegment_1 ly_193 0 (by decide) t_327 rfl ?_
  refine z_getI (M := M_X8_addSegment) (ci := 8) (C := RX5) (T := TX5) (Nf := 8) (ty := tyX5) cl8 dX8_addSegment_4 (ly_G (by decide)) 5 (by decide) t_255 rfl rfl ?_
  refine z_aload_n (M := M_X8_addSegment) dX8_addSegment_7 rfl ?_
  refine z_getI (M := M_X8_addSegment) (ci := 11) (C := RX8) (T := TX8) (Nf := 13) (ty := tyX8) cl11 dX8_addSegment_8 ly_193 1 (by decide) t_328 rfl rfl ?_
  refine z_iadd (M := M_X8_addSegment) dX8_addSegment_11 ?_
  refine z_sipush (M := M_X8_addSegment) dX8_addSegment_12 (by decide +kernel) ?_
  rcases if_e H with ⟨h_1, H⟩ | ⟨h_1, H⟩
  · refine z_icmp_lt_f (M := M_X8_addSegment) (tgt := 20) dX8_addSegment_15 (by decide) rfl (by decide +kernel) h_1 ?_
    refine z_zconst (M := M_X8_addSegment) (b := false) dX8_addSegment_18 rfl ?_
    cases H
    exact z_zret (M := M_X8_addSegment) dX8_addSegment_19 rfl (Nat.le_of_ble_eq_true rfl) (Nat.le_of_ble_eq_true rfl) ⟨rfl, rfl⟩
  · refine z_icmp_lt_t (M := M_X8_addSegment) (tgt := 20) dX8_addSegment_15 (by decide) rfl (by decide +kernel) (Int.not_le.mp h_1) ?_
    obtain ⟨v_5, he_2, hk_3⟩ := bd_e H
    have J_41 : ∀ σ_15, v_5 = σ_15 → YY l E M_X8_addSegment 5 0 0 (pS (some (zv r)) σ') 58 [some (vr 193), some (vr shape_0), some (vi i_0), some (vi mask_0)] [] σ_15 0 0 := by
      intro σ_15 e
      have H := hk_3
      rw [e] at H
      obtain ⟨v_37, he_38, hk_39⟩ := bd_e H
      have J_40 : ∀ x_35 σ_36, v_37 = (x_35, σ_36) → YY l E M_X8_addSegment 5 0 0 (pS (some (zv r)) σ') 105 [some (vr 193), some (vr shape_0), some (vi i_0), some (vi mask_0)] [zv x_35] σ_36 0 0 := by
        intro x_35 σ_36 e
        have H := hk_39
        rw [e] at H
        cases H
        exact z_zret (M := M_X8_addSegment) dX8_addSegment_105 rfl (Nat.le_of_ble_eq_true rfl) (Nat.le_of_ble_eq_true rfl) ⟨rfl, rfl⟩
      have H := he_38
      refine z_aload_n (M := M_X8_addSegment) dX8_addSegment_58 rfl ?_
      refine z_aload_n (M := M_X8_addSegment) dX8_addSegment_59 rfl ?_
      refine z_getR (M := M_X8_addSegment) (ci := 9) (C := RX6) (T := TX6) (Nf := 5) (ty := tyX6) cl9 dX8_addSegment_60 (ly_S h_shape) 1 (by decide) t_61 rfl ?_
      refine z_iload_n (M := M_X8_addSegment) dX8_addSegment_63 rfl ?_
      obtain ⟨x_16, x_16_e, hi_17, H⟩ := rd_e H
      refine z_iald (M := M_X8_addSegment) dX8_addSegment_64 (ly_Sx h_shape) rfl rfl rfl hi_17 x_16_e ?_
      refine z_aload_n (M := M_X8_addSegment) dX8_addSegment_65 rfl ?_
      refine z_getR (M := M_X8_addSegment) (ci := 9) (C := RX6) (T := TX6) (Nf := 5) (ty := tyX6) cl9 dX8_addSegment_66 (ly_S h_shape) 2 (by decide) t_68 rfl ?_
      refine z_iload_n (M := M_X8_addSegment) dX8_addSegment_69 rfl ?_
      obtain ⟨x_18, x_18_e, hi_19, H⟩ := rd_e H
      refine z_iald (M := M_X8_addSegment) dX8_addSegment_70 (ly_Sy h_shape) rfl rfl rfl hi_19 x_18_e ?_
      obtain ⟨⟨x_22, σ_21⟩, hc_20, H⟩ := bd_e H
      refine z_callV (M := M_X8_addSegment) (M' := M_X8_addHot) (as := [vi x_16, vi x_18]) (rest := []) rfl rfl dX8_addSegment_71 m_X8_addHot t_1408 t_1410 s_70 (c_X8_addHot hl  hc_20) rfl rfl ly_193 rfl (Nat.le_of_ble_eq_true rfl) (Nat.le_of_ble_eq_true rfl) (Nat.le_of_ble_eq_true rfl) (Nat.le_of_ble_eq_true rfl) ?_
      refine z_st (st' := [zv x_22]) rfl ?_
      rcases if_e H with ⟨h_23, H⟩ | ⟨h_23, H⟩
      · refine z_zeq_f (M := M_X8_addSegment) (tgt := 104) dX8_addSegment_74 (by decide) h_23 ?_
        refine z_aload_n (M := M_X8_addSegment) dX8_addSegment_77 rfl ?_
        refine z_aload_n (M := M_X8_addSegment) dX8_addSegment_78 rfl ?_
        refine z_getR (M := M_X8_addSegment) (ci := 9) (C := RX6) (T := TX6) (Nf := 5) (ty := tyX6) cl9 dX8_addSegment_79 (ly_S h_shape) 1 (by decide) t_61 rfl ?_
        refine z_iload_n (M := M_X8_addSegment) dX8_addSegment_82 rfl ?_
        refine z_iconst (M := M_X8_addSegment) dX8_addSegment_83 ?_
        refine z_iadd (M := M_X8_addSegment) dX8_addSegment_84 ?_
        obtain ⟨x_24, x_24_e, hi_25, H⟩ := rd_e H
        refine z_iald (M := M_X8_addSegment) dX8_addSegment_85 (ly_Sx h_shape) rfl rfl rfl hi_25 x_24_e ?_
        refine z_aload_n (M := M_X8_addSegment) dX8_addSegment_86 rfl ?_
        refine z_getR (M := M_X8_addSegment) (ci := 9) (C := RX6) (T := TX6) (Nf := 5) (ty := tyX6) cl9 dX8_addSegment_87 (ly_S h_shape) 2 (by decide) t_68 rfl ?_
        refine z_iload_n (M := M_X8_addSegment) dX8_addSegment_90 rfl ?_
        refine z_iconst (M := M_X8_addSegment) dX8_addSegment_91 ?_
        refine z_iadd (M := M_X8_addSegment) dX8_addSegment_92 ?_
        obtain ⟨x_26, x_26_e, hi_27, H⟩ := rd_e H
        refine z_iald (M := M_X8_addSegment) dX8_addSegment_93 (ly_Sy h_shape) rfl rfl rfl hi_27 x_26_e ?_
        obtain ⟨⟨x_30, σ_29⟩, hc_28, H⟩ := bd_e H
        refine z_callV (M := M_X8_addSegment) (M' := M_X8_addHot) (as := [vi x_24, vi x_26]) (rest := []) rfl rfl dX8_addSegment_94 m_X8_addHot t_1408 t_1410 s_70 (c_X8_addHot hl  hc_28) rfl rfl ly_193 rfl (Nat.le_of_ble_eq_true rfl) (Nat.le_of_ble_eq_true rfl) (Nat.le_of_ble_eq_true rfl) (Nat.le_of_ble_eq_true rfl) ?_
        refine z_st (st' := [zv x_30]) rfl ?_
        rcases if_e H with ⟨h_31, H⟩ | ⟨h_31, H⟩
        · refine z_zeq_f (M := M_X8_addSegment) (tgt := 104) dX8_addSegment_97 (by decide) h_31 ?_
          refine z_zconst (M := M_X8_addSegment) (b := true) dX8_addSegment_100 rfl ?_
          refine z_goto (M := M_X8_addSegment) (tgt := 105) dX8_addSegment_101 (by decide) ?_
          exact J_40 _ _ (Option.some.inj H).symm
        · refine z_zeq_t (M := M_X8_addSegment) (tgt := 104) dX8_addSegment_97 (by decide) h_31 ?_
          refine z_zconst (M := M_X8_addSegment) (b := false) dX8_addSegment_104 rfl ?_
          exact J_40 _ _ (Option.some.inj H).symm
      · refine z_zeq_t (M := M_X8_addSegment) (tgt := 104) dX8_addSegment_74 (by decide) h_23 ?_
        refine z_zconst (M := M_X8_addSegment) (b := false) dX8_addSegment_104 rfl ?_
        exact J_40 _ _ (Option.some.inj H).symm
    have H := he_2
    refine z_aload_n (M := M_X8_addSegment) dX8_addSegment_20 rfl ?_
    refine z_iload_n (M := M_X8_addSegment) dX8_addSegment_21 rfl ?_
    refine z_iload_n (M := M_X8_addSegment) dX8_addSegment_22 rfl ?_
    refine z_iconst (M := M_X8_addSegment) dX8_addSegment_23 ?_
    refine z_iadd (M := M_X8_addSegment) dX8_addSegment_24 ?_
    obtain ⟨x_7, hc_6, H⟩ := bd_e H
    refine z_callV (M := M_X8_addSegment) (M' := M_X6_areLike) (as := [vi i_0, vi (i_0 + 1)]) (rest := []) rfl rfl dX8_addSegment_25 m_X6_areLike t_1406 t_1188 t_1189 (c_X6_areLike hl h_shape hc_6) rfl rfl (ly_S h_shape) rfl (Nat.le_of_ble_eq_true rfl) (Nat.le_of_ble_eq_true rfl) (Nat.le_of_ble_eq_true rfl) (Nat.le_of_ble_eq_true rfl) ?_
    refine z_st (st' := [zv x_7]) rfl ?_
    rcases if_e H with ⟨h_8, H⟩ | ⟨h_8, H⟩
    · refine z_zeq_f (M := M_X8_addSegment) (tgt := 44) dX8_addSegment_28 (by decide) h_8 ?_
      refine z_aload_n (M := M_X8_addSegment) dX8_addSegment_31 rfl ?_
      refine z_dup (M := M_X8_addSegment) dX8_addSegment_32 rfl ?_
      refine z_getI (M := M_X8_addSegment) (ci := 11) (C := RX8) (T := TX8) (Nf := 13) (ty := tyX8) cl11 dX8_addSegment_33 ly_193 1 (by decide) t_328 rfl rfl ?_
      refine z_iconst (M := M_X8_addSegment) dX8_addSegment_36 ?_
      refine z_iadd (M := M_X8_addSegment) dX8_addSegment_37 ?_
      obtain ⟨σ_9, σ_9_e, H⟩ := wf_e H
      refine z_putI (M := M_X8_addSegment) (ci := 11) (C := RX8) (T := TX8) (Nf := 13) (ty := tyX8) cl11 dX8_addSegment_38 ly_193 1 (by decide) t_328 rfl rfl rfl rfl σ_9_e ?_
      refine z_goto (M := M_X8_addSegment) (tgt := 58) dX8_addSegment_41 (by decide) ?_
      exact J_41 _ (Option.some.inj H).symm
    · refine z_zeq_t (M := M_X8_addSegment) (tgt := 44) dX8_addSegment_28 (by decide) h_8 ?_
      refine z_aload_n (M := M_X8_addSegment) dX8_addSegment_44 rfl ?_
      refine z_getR (M := M_X8_addSegment) (ci := 11) (C := RX8) (T := TX8) (Nf := 13) (ty := tyX8) cl11 dX8_addSegment_45 ly_193 0 (by decide) t_327 rfl ?_
      refine z_aload_n (M := M_X8_addSegment) dX8_addSegment_48 rfl ?_
      refine z_iload_n (M := M_X8_addSegment) dX8_addSegment_49 rfl ?_
      refine z_iload_n (M := M_X8_addSegment) dX8_addSegment_50 rfl ?_
      refine z_iconst (M := M_X8_addSegment) dX8_addSegment_51 ?_
      refine z_iadd (M := M_X8_addSegment) dX8_addSegment_52 ?_
      refine z_iload_n (M := M_X8_addSegment) dX8_addSegment_53 rfl ?_
      obtain ⟨⟨x_13, σ_12⟩, hc_11, H⟩ := bd_e H
      refine z_callV (M := M_X8_addSegment) (M' := M_X5_add) (as := [vr shape_0, vi i_0, vi (i_0 + 1), vi mask_0]) (rest := []) rfl rfl dX8_addSegment_54 m_X5_add t_1407 t_1218 t_1219 (c_X5_add hl (by decide) h_shape hc_11) rfl rfl (ly_G (by decide)) rfl (Nat.le_of_ble_eq_true rfl) (Nat.le_of_ble_eq_true rfl) (Nat.le_of_ble_eq_true rfl) (Nat.le_of_ble_eq_true rfl) ?_
      refine z_st (st' := [zv x_13]) rfl ?_
      refine z_pop (M := M_X8_addSegment) dX8_addSegment_57 rfl ?_
      exact J_41 _ (Option.some.inj H).symm
theorem c_X8_collect (hl : l.stackTraces = false) {σ : SG} {shape_0 : Nat} {mask_0 : Int} {r : Bool} {σ' : SG} (h_shape : isS shape_0) (H : fN_collect σ shape_0 mask_0 = some (r, σ')) : en_S l E M_X8_collect 6 0 0 [vr 193, vr shape_0, vi mask_0] σ (pS (some (zv r)) σ') := by
  unfold fN_collect at H
  refine z_mk (lv := [some (vr 193), some (vr shape_0), some (vi mask_0), none, none, none, none, none]) m_X8_collect rfl hl (Nat.le_of_ble_eq_true rfl) rfl ?_
  refine z_iconst (M := M_X8_collect) dX8_collect_0 ?_
  refine z_istore_n (M := M_X8_collect) (lv' := [some (vr 193), some (vr shape_0), some (vi mask_0), some (vi 0), none, none, none, none]) dX8_collect_1 (Nat.le_of_ble_eq_true rfl) rfl rfl ?_
  refine z_iconst (M := M_X8_collect) dX8_collect_2 ?_
  refine z_istore (M := M_X8_collect) (lv' := [some (vr 193), some (vr shape_0), some (vi mask_0), some (vi 0), some (vi 0), none, none, none]) dX8_collect_3 (Nat.le_of_ble_eq_true rfl) rfl rfl ?_
  obtain ⟨rl_7, hw_4, hk_5, hk_6⟩ := bx_e H
  have J_59 : ∀ from_56 at_57 σ_58, rl_7 = (.inl (from_56, at_57, σ_58)) → YY l E M_X8_collect 6 0 0 (pS (some (zv r)) σ') 95 [some (vr 193), some (vr shape_0), some (vi mask_0), some (vi from_56), some (vi at_57), none, none, none] [] σ_58 0 0 := by
    intro from_56 at_57 σ_58 e
    have H := hk_5 _ e
    refine z_zconst (M := M_X8_collect) (b := true) dX8_collect_95 rfl ?_
    cases H
    exact z_zret (M := M_X8_collect) dX8_collect_96 rfl (Nat.le_of_ble_eq_true rfl) (Nat.le_of_ble_eq_true rfl) ⟨rfl, rfl⟩
  refine whl_go hw_4 (fun (from_1, at_2, σ_3) => YY l E M_X8_collect 6 0 0 (pS (some (zv r)) σ') 5 [some (vr 193), some (vr shape_0), some (vi mask_0), some (vi from_1), some (vi at_2), none, none, none] [] σ_3 0 0) ?_
  rintro ⟨from_1, at_2, σ_3⟩ o_8 H K_9 K_10
  refine z_iload (M := M_X8_collect) dX8_collect_5 rfl ?_
  refine z_iconst (M := M_X8_collect) dX8_collect_7 ?_
  refine z_iadd (M := M_X8_collect) dX8_collect_8 ?_
  refine z_aload_n (M := M_X8_collect) dX8_collect_9 rfl ?_
  refine z_getI (M := M_X8_collect) (ci := 9) (C := RX6) (T := TX6) (Nf := 5) (ty := tyX6) cl9 dX8_collect_10 (ly_S h_shape) 3 (by decide) t_74 rfl rfl ?_
  rcases if_e H with ⟨h_11, H⟩ | ⟨h_11, H⟩
  · refine z_icmp_ge_f (M := M_X8_collect) (tgt := 95) dX8_collect_13 (by decide) rfl rfl h_11 ?_
    refine z_iconst (M := M_X8_collect) dX8_collect_16 ?_
    refine z_istore (M := M_X8_collect) (lv' := [some (vr 193), some (vr shape_0), some (vi mask_0), some (vi from_1), some (vi at_2), some (vi 0), none, none]) dX8_collect_17 (Nat.le_of_ble_eq_true rfl) rfl rfl ?_
    obtain ⟨rl_18, hw_15, hk_16, hk_17⟩ := bx_e H
    have J_54 : ∀ from_48 row_49 σ_50, rl_18 = (.inl (from_48, row_49, σ_50)) → YY l E M_X8_collect 6 0 0 (pS (some (zv r)) σ') 84 [some (vr 193), some (vr shape_0), some (vi mask_0), some (vi from_48), some (vi at_2), some (vi row_49), none, none] [] σ_50 0 0 := by
      intro from_48 row_49 σ_50 e
      have H := hk_16 _ e
      refine z_aload_n (M := M_X8_collect) dX8_collect_84 rfl ?_
      refine z_iload (M := M_X8_collect) dX8_collect_85 rfl ?_
      obtain ⟨x_52, hc_51, H⟩ := bd_e H
      refine z_callV (M := M_X8_collect) (M' := M_X6_behind) (as := [vi at_2]) (rest := []) rfl rfl dX8_collect_87 m_X6_behind t_1430 t_1107 t_1108 (c_X6_behind hl h_shape hc_51) rfl rfl (ly_S h_shape) rfl (Nat.le_of_ble_eq_true rfl) (Nat.le_of_ble_eq_true rfl) (Nat.le_of_ble_eq_true rfl) (Nat.le_of_ble_eq_true rfl) ?_
      refine z_st (st' := [vi x_52]) rfl ?_
      refine z_istore (M := M_X8_collect) (lv' := [some (vr 193), some (vr shape_0), some (vi mask_0), some (vi from_48), some (vi x_52), some (vi row_49), none, none]) dX8_collect_90 (Nat.le_of_ble_eq_true rfl) rfl rfl ?_
      refine z_goto (M := M_X8_collect) (tgt := 5) dX8_collect_92 (by decide) ?_
      refine z_le (lv' := [some (vr 193), some (vr shape_0), some (vi mask_0), some (vi from_48), some (vi x_52), none, none, none]) ⟨Or.inr rfl, Or.inr rfl, Or.inr rfl, Or.inr rfl, Or.inr rfl, Or.inl rfl, Or.inl rfl, Or.inl rfl, trivial⟩ ?_
      exact K_9 _ (Option.some.inj H).symm
    refine whl_go hw_15 (fun (from_12, row_13, σ_14) => YY l E M_X8_collect 6 0 0 (pS (some (zv r)) σ') 19 [some (vr 193), some (vr shape_0), some (vi mask_0), some (vi from_12), some (vi at_2), some (vi row_13), none, none] [] σ_14 0 0) ?_
    rintro ⟨from_12, row_13, σ_14⟩ o_19 H K_20 K_21
    refine z_iload (M := M_X8_collect) dX8_collect_19 rfl ?_
    refine z_aload_n (M := M_X8_collect) dX8_collect_21 rfl ?_
    refine z_iload (M := M_X8_collect) dX8_collect_22 rfl ?_
    obtain ⟨x_23, hc_22, H⟩ := bd_e H
    refine z_callV (M := M_X8_collect) (M' := M_X6_rows) (as := [vi at_2]) (rest := [vi row_13]) rfl rfl dX8_collect_24 m_X6_rows t_1400 t_1075 t_1076 (c_X6_rows hl h_shape hc_22) rfl rfl (ly_S h_shape) rfl (Nat.le_of_ble_eq_true rfl) (Nat.le_of_ble_eq_true rfl) (Nat.le_of_ble_eq_true rfl) (Nat.le_of_ble_eq_true rfl) ?_
    refine z_st (st' := [vi x_23, vi row_13]) rfl ?_
    rcases if_e H with ⟨h_24, H⟩ | ⟨h_24, H⟩
    · refine z_icmp_ge_f (M := M_X8_collect) (tgt := 84) dX8_collect_27 (by decide) rfl rfl h_24 ?_
      refine z_aload_n (M := M_X8_collect) dX8_collect_30 rfl ?_
      refine z_iload (M := M_X8_collect) dX8_collect_31 rfl ?_
      refine z_iload (M := M_X8_collect) dX8_collect_33 rfl ?_
      obtain ⟨x_26, hc_25, H⟩ := bd_e H
      refine z_callV (M := M_X8_collect) (M' := M_X6_rowLength) (as := [vi at_2, vi row_13]) (rest := []) rfl rfl dX8_collect_35 m_X6_rowLength t_1401 t_1080 t_1081 (c_X6_rowLength hl h_shape hc_25) rfl rfl (ly_S h_shape) rfl (Nat.le_of_ble_eq_true rfl) (Nat.le_of_ble_eq_true rfl) (Nat.le_of_ble_eq_true rfl) (Nat.le_of_ble_eq_true rfl) ?_
      refine z_st (st' := [vi x_26]) rfl ?_
      refine z_istore (M := M_X8_collect) (lv' := [some (vr 193), some (vr shape_0), some (vi mask_0), some (vi from_12), some (vi at_2), some (vi row_13), some (vi x_26), none]) dX8_collect_38 (Nat.le_of_ble_eq_true rfl) rfl rfl ?_
      refine z_iload_n (M := M_X8_collect) dX8_collect_40 rfl ?_
      refine z_istore (M := M_X8_collect) (lv' := [some (vr 193), some (vr shape_0), some (vi mask_0), some (vi from_12), some (vi at_2), some (vi row_13), some (vi x_26), some (vi from_12)]) dX8_collect_41 (Nat.le_of_ble_eq_true rfl) rfl rfl ?_
      obtain ⟨rl_32, hw_29, hk_30, hk_31⟩ := bx_e H
      have J_46 : ∀ i_43 σ_44, rl_32 = (.inl (i_43, σ_44)) → YY l E M_X8_collect 6 0 0 (pS (some (zv r)) σ') 73 [some (vr 193), some (vr shape_0), some (vi mask_0), some (vi from_12), some (vi at_2), some (vi row_13), some (vi x_26), some (vi i_43)] [] σ_44 0 0 := by
        intro i_43 σ_44 e
        have H := hk_30 _ e
        refine z_iload_n (M := M_X8_collect) dX8_collect_73 rfl ?_
        refine z_iload (M := M_X8_collect) dX8_collect_74 rfl ?_
        refine z_iadd (M := M_X8_collect) dX8_collect_76 ?_
        refine z_istore_n (M := M_X8_collect) (lv' := [some (vr 193), some (vr shape_0), some (vi mask_0), some (vi (from_12 + x_26)), some (vi at_2), some (vi row_13), some (vi x_26), some (vi i_43)]) dX8_collect_77 (Nat.le_of_ble_eq_true rfl) rfl rfl ?_
        refine z_iinc (M := M_X8_collect) (lv' := [some (vr 193), some (vr shape_0), some (vi mask_0), some (vi (from_12 + x_26)), some (vi at_2), some (vi (row_13 + 1)), some (vi x_26), some (vi i_43)]) dX8_collect_78 rfl (Nat.le_of_ble_eq_true rfl) rfl rfl ?_
        refine z_goto (M := M_X8_collect) (tgt := 19) dX8_collect_81 (by decide) ?_
        refine z_le (lv' := [some (vr 193), some (vr shape_0), some (vi mask_0), some (vi (from_12 + x_26)), some (vi at_2), some (vi (row_13 + 1)), none, none]) ⟨Or.inr rfl, Or.inr rfl, Or.inr rfl, Or.inr rfl, Or.inr rfl, Or.inr rfl, Or.inl rfl, Or.inl rfl, trivial⟩ ?_
        exact K_20 _ (Option.some.inj H).symm
      refine whl_go hw_29 (fun (i_27, σ_28) => YY l E M_X8_collect 6 0 0 (pS (some (zv r)) σ') 43 [some (vr 193), some (vr shape_0), some (vi mask_0), some (vi from_12), some (vi at_2), some (vi row_13), some (vi x_26), some (vi i_27)] [] σ_28 0 0) ?_
      rintro ⟨i_27, σ_28⟩ o_33 H K_34 K_35
      refine z_iload (M := M_X8_collect) dX8_collect_43 rfl ?_
      refine z_iconst (M := M_X8_collect) dX8_collect_45 ?_
      refine z_iadd (M := M_X8_collect) dX8_collect_46 ?_
      refine z_iload_n (M := M_X8_collect) dX8_collect_47 rfl ?_
      refine z_iload (M := M_X8_collect) dX8_collect_48 rfl ?_
      refine z_iadd (M := M_X8_collect) dX8_collect_50 ?_
      rcases if_e H with ⟨h_36, H⟩ | ⟨h_36, H⟩
      · refine z_icmp_ge_f (M := M_X8_collect) (tgt := 73) dX8_collect_51 (by decide) rfl rfl h_36 ?_
        refine z_aload_n (M := M_X8_collect) dX8_collect_54 rfl ?_
        refine z_aload_n (M := M_X8_collect) dX8_collect_55 rfl ?_
        refine z_iload (M := M_X8_collect) dX8_collect_56 rfl ?_
        refine z_iload_n (M := M_X8_collect) dX8_collect_58 rfl ?_
        obtain ⟨⟨x_39, σ_38⟩, hc_37, H⟩ := bd_e H
        refine z_callV (M := M_X8_collect) (M' := M_X8_addSegment) (as := [vr shape_0, vi i_27, vi mask_0]) (rest := []) rfl rfl dX8_collect_59 m_X8_addSegment t_1402 t_1404 s_69 (c_X8_addSegment hl h_shape hc_37) rfl rfl ly_193 rfl (Nat.le_of_ble_eq_true rfl) (Nat.le_of_ble_eq_true rfl) (Nat.le_of_ble_eq_true rfl) (Nat.le_of_ble_eq_true rfl) ?_
        refine z_st (st' := [zv x_39]) rfl ?_
        rcases if_e H with ⟨h_40, H⟩ | ⟨h_40, H⟩
        · refine z_zne_t (M := M_X8_collect) (tgt := 67) dX8_collect_62 (by decide) h_40 ?_
          refine z_iinc (M := M_X8_collect) (lv' := [some (vr 193), some (vr shape_0), some (vi mask_0), some (vi from_12), some (vi at_2), some (vi row_13), some (vi x_26), some (vi (i_27 + 1))]) dX8_collect_67 rfl (Nat.le_of_ble_eq_true rfl) rfl rfl ?_
          refine z_goto (M := M_X8_collect) (tgt := 43) dX8_collect_70 (by decide) ?_
          exact K_34 _ (Option.some.inj H).symm
        · refine z_zne_f (M := M_X8_collect) (tgt := 67) dX8_collect_62 (by decide) h_40 ?_
          refine z_zconst (M := M_X8_collect) (b := false) dX8_collect_65 rfl ?_
          have H := congrArg some (hk_31 _ ((K_35 _ (Option.some.inj H).symm).symm))
          have H := congrArg some (hk_17 _ ((K_21 _ (Option.some.inj H).symm).symm))
          have H := congrArg some (hk_6 _ ((K_10 _ (Option.some.inj H).symm).symm))
          cases H
          exact z_zret (M := M_X8_collect) dX8_collect_66 rfl (Nat.le_of_ble_eq_true rfl) (Nat.le_of_ble_eq_true rfl) ⟨rfl, rfl⟩
      · refine z_icmp_ge_t (M := M_X8_collect) (tgt := 73) dX8_collect_51 (by decide) rfl rfl (Int.not_lt.mp h_36) ?_
        exact J_46 _ _ (K_35 _ (Option.some.inj H).symm).symm
    · refine z_icmp_ge_t (M := M_X8_collect) (tgt := 84) dX8_collect_27 (by decide) rfl rfl (Int.not_lt.mp h_24) ?_
      exact J_54 _ _ _ (K_21 _ (Option.some.inj H).symm).symm
  · refine z_icmp_ge_t (M := M_X8_collect) (tgt := 95) dX8_collect_13 (by decide) rfl rfl (Int.not_lt.mp h_11) ?_
    exact J_59 _ _ _ (K_10 _ (Option.some.inj H).symm).symm
end LFAH
