section LFAA
variable {l : Launch} {E : EE}
theorem c_X11_layOnTape (hl : l.stackTraces = false) {σ : SG} {four_0 : Int} {σ' : SG}  (H : fQ_layOnTape σ four_0 = some σ') : en_S l E M_X11_layOnTape 1 0 0 [vr 32, vi four_0] σ (pS (none) σ') := by
  unfold fQ_layOnTape at H
  refine z_mk (lv := [some (vr 32), some (vi four_0), none]) m_X11_layOnTape rfl hl (Nat.le_of_ble_eq_true rfl) rfl ?_
  refine z_bipush (M := M_X11_layOnTape) dX11_layOnTape_0 (by decide +kernel) ?_
  refine z_istore_n (M := M_X11_layOnTape) (lv' := [some (vr 32), some (vi four_0), some (vi 24)]) dX11_layOnTape_2 (Nat.le_of_ble_eq_true rfl) rfl rfl ?_
  obtain ⟨rl_6, hw_3, hk_4⟩ := bd_e H
  have J_24 : ∀ shift_22 σ_23, rl_6 = (shift_22, σ_23) → YY l E M_X11_layOnTape 1 0 0 (pS (none) σ') 45 [some (vr 32), some (vi four_0), some (vi shift_22)] [] σ_23 0 0 := by
    intro shift_22 σ_23 e
    have H := hk_4
    rw [e] at H
    cases H
    exact z_vret (M := M_X11_layOnTape) dX11_layOnTape_45 rfl (Nat.le_of_ble_eq_true rfl) (Nat.le_of_ble_eq_true rfl) ⟨rfl, rfl⟩
  refine whl_go hw_3 (fun (shift_1, σ_2) => YY l E M_X11_layOnTape 1 0 0 (pS (none) σ') 3 [some (vr 32), some (vi four_0), some (vi shift_1)] [] σ_2 0 0) ?_
  rintro ⟨shift_1, σ_2⟩ o_7 H K_8 K_9
  rcases if_e H with ⟨h_15, H⟩ | ⟨h_15, H⟩
  · have J_16 : YY l E M_X11_layOnTape 1 0 0 (pS (none) σ') 16 [some (vr 32), some (vi four_0), some (vi shift_1)] [] σ_2 0 0 := by
      refine z_aload_n (M := M_X11_layOnTape) dX11_layOnTape_16 rfl ?_
      refine z_getR (M := M_X11_layOnTape) (ci := 14) (C := RX11) (T := TX11) (Nf := 19) (ty := tyX11) cl14 dX11_layOnTape_17 ly_32 2 (by decide) t_565 rfl ?_
      refine z_aload_n (M := M_X11_layOnTape) dX11_layOnTape_20 rfl ?_
      refine z_getI (M := M_X11_layOnTape) (ci := 14) (C := RX11) (T := TX11) (Nf := 19) (ty := tyX11) cl14 dX11_layOnTape_21 ly_32 3 (by decide) t_566 rfl rfl ?_
      refine z_iload_n (M := M_X11_layOnTape) dX11_layOnTape_24 rfl ?_
      refine z_iload_n (M := M_X11_layOnTape) dX11_layOnTape_25 rfl ?_
      refine z_iushr (M := M_X11_layOnTape) dX11_layOnTape_26 ?_
      refine z_i2b (M := M_X11_layOnTape) dX11_layOnTape_27 ?_
      obtain ⟨σ_10, σ_10_e, hi_11, H⟩ := wa_e H
      refine z_bast (M := M_X11_layOnTape) dX11_layOnTape_28 ly_166 rfl rfl rfl hi_11 σ_10_e ?_
      refine z_aload_n (M := M_X11_layOnTape) dX11_layOnTape_29 rfl ?_
      refine z_dup (M := M_X11_layOnTape) dX11_layOnTape_30 rfl ?_
      refine z_getI (M := M_X11_layOnTape) (ci := 14) (C := RX11) (T := TX11) (Nf := 19) (ty := tyX11) cl14 dX11_layOnTape_31 ly_32 3 (by decide) t_566 rfl rfl ?_
      refine z_iconst (M := M_X11_layOnTape) dX11_layOnTape_34 ?_
      refine z_iadd (M := M_X11_layOnTape) dX11_layOnTape_35 ?_
      obtain ⟨σ_12, σ_12_e, H⟩ := wf_e H
      refine z_putI (M := M_X11_layOnTape) (ci := 14) (C := RX11) (T := TX11) (Nf := 19) (ty := tyX11) cl14 dX11_layOnTape_36 ly_32 3 (by decide) t_566 rfl rfl rfl rfl σ_12_e ?_
      refine z_iinc (M := M_X11_layOnTape) (lv' := [some (vr 32), some (vi four_0), some (vi (shift_1 + (-8)))]) dX11_layOnTape_39 rfl (Nat.le_of_ble_eq_true rfl) rfl rfl ?_
      refine z_goto (M := M_X11_layOnTape) (tgt := 3) dX11_layOnTape_42 (by decide) ?_
      exact K_8 _ (Option.some.inj H).symm
    refine z_iload_n (M := M_X11_layOnTape) dX11_layOnTape_3 rfl ?_
    by_cases h_18 : 0 ≤ (w32 shift_1)
    · refine z_if_lt_f (M := M_X11_layOnTape) (tgt := 45) dX11_layOnTape_4 (by decide) rfl h_18 ?_
      refine z_aload_n (M := M_X11_layOnTape) dX11_layOnTape_7 rfl ?_
      refine z_getI (M := M_X11_layOnTape) (ci := 14) (C := RX11) (T := TX11) (Nf := 19) (ty := tyX11) cl14 dX11_layOnTape_8 ly_32 3 (by decide) t_566 rfl rfl ?_
      refine z_ldc (M := M_X11_layOnTape) (n := 65536) dX11_layOnTape_11 t_98 (by decide +kernel) ?_
      by_cases h_19 : (w32 (σ_2 kQ_tapeSize 0)) < 65536
      · refine z_icmp_ge_f (M := M_X11_layOnTape) (tgt := 45) dX11_layOnTape_13 (by decide) rfl (by decide +kernel) h_19 ?_
        exact J_16
      · refine z_icmp_ge_t (M := M_X11_layOnTape) (tgt := 45) dX11_layOnTape_13 (by decide) rfl (by decide +kernel) (Int.not_lt.mp h_19) ?_
        exact absurd h_15 (fun q => h_19 q.2)
    · refine z_if_lt_t (M := M_X11_layOnTape) (tgt := 45) dX11_layOnTape_4 (by decide) rfl (Int.not_le.mp h_18) ?_
      exact absurd h_15 (fun q => h_18 q.1)
  · have J_17 : YY l E M_X11_layOnTape 1 0 0 (pS (none) σ') 45 [some (vr 32), some (vi four_0), some (vi shift_1)] [] σ_2 0 0 := by
      exact J_24 _ _ (K_9 _ (Option.some.inj H).symm).symm
    refine z_iload_n (M := M_X11_layOnTape) dX11_layOnTape_3 rfl ?_
    by_cases h_20 : 0 ≤ (w32 shift_1)
    · refine z_if_lt_f (M := M_X11_layOnTape) (tgt := 45) dX11_layOnTape_4 (by decide) rfl h_20 ?_
      refine z_aload_n (M := M_X11_layOnTape) dX11_layOnTape_7 rfl ?_
      refine z_getI (M := M_X11_layOnTape) (ci := 14) (C := RX11) (T := TX11) (Nf := 19) (ty := tyX11) cl14 dX11_layOnTape_8 ly_32 3 (by decide) t_566 rfl rfl ?_
      refine z_ldc (M := M_X11_layOnTape) (n := 65536) dX11_layOnTape_11 t_98 (by decide +kernel) ?_
      by_cases h_21 : (w32 (σ_2 kQ_tapeSize 0)) < 65536
      · refine z_icmp_ge_f (M := M_X11_layOnTape) (tgt := 45) dX11_layOnTape_13 (by decide) rfl (by decide +kernel) h_21 ?_
        exact absurd ⟨h_20, h_21⟩ h_15
      · refine z_icmp_ge_t (M := M_X11_layOnTape) (tgt := 45) dX11_layOnTape_13 (by decide) rfl (by decide +kernel) (Int.not_lt.mp h_21) ?_
        exact J_17
    · refine z_if_lt_t (M := M_X11_layOnTape) (tgt := 45) dX11_layOnTape_4 (by decide) rfl (Int.not_le.mp h_20) ?_
      exact J_17
theorem c_X11_feed (hl : l.stackTraces = false) {σ : SG} {a_0 : Int} {b_0 : Int} {c_0 : Int} {d_0 : Int} {e_0 : Int} {r : Int ⊕ Nat} {σ' : SG}  (H : fQ_feed σ a_0 b_0 c_0 d_0 e_0 = some (r, σ')) : en_S l E M_X11_feed 6 1 6 [vr 32, vi a_0, vi b_0, vi c_0, vi d_0, vi e_0] σ (pT (riT r) σ') := by
  unfold fQ_feed at H
  refine z_mk (lv := [some (vr 32), some (vi a_0), some (vi b_0), some (vi c_0), some (vi d_0), some (vi e_0)]) m_X11_feed rfl hl (Nat.le_of_ble_eq_true rfl) rfl ?_
  refine z_aload_n (M := M_X11_feed) dX11_feed_0 rfl ?_
  refine z_getI (M := M_X11_feed) (ci := 14) (C := RX11) (T := TX11) (Nf := 19) (ty := tyX11) cl14 dX11_feed_1 ly_32 3 (by decide) t_566 rfl rfl ?_
  refine z_ldc (M := M_X11_feed) (n := 65516) dX11_feed_4 t_642 (by decide +kernel) ?_
  rcases if_e H with ⟨h_1, H⟩ | ⟨h_1, H⟩
  · refine z_icmp_le_f (M := M_X11_feed) (tgt := 17) dX11_feed_6 (by decide) rfl (by decide +kernel) h_1 ?_
    cases H
    exact z_throw (M := M_X11_feed) (names := en_nm) rfl dX11_feed_9 dX11_feed_12 dX11_feed_13 dX11_feed_16 (by decide +kernel) en_nm_ok (Or.inl t_643) (Or.inl t_18) at_X11_IllegalStateException_112 (Nat.le_of_ble_eq_true rfl) (Nat.le_of_ble_eq_true rfl) (Nat.le_of_ble_eq_true rfl) (Nat.le_of_ble_eq_true rfl) ⟨rfl, rfl⟩
  · refine z_icmp_le_t (M := M_X11_feed) (tgt := 17) dX11_feed_6 (by decide) rfl (by decide +kernel) (Int.not_lt.mp h_1) ?_
    refine z_aload_n (M := M_X11_feed) dX11_feed_17 rfl ?_
    refine z_iload_n (M := M_X11_feed) dX11_feed_18 rfl ?_
    obtain ⟨σ_3, hc_2, H⟩ := bd_e H
    refine z_callV (M := M_X11_feed) (M' := M_X11_layOnTape) (as := [vi a_0]) (rest := []) rfl rfl dX11_feed_19 m_X11_layOnTape t_709 t_711 s_1 (c_X11_layOnTape hl  hc_2) rfl rfl ly_32 rfl (Nat.le_of_ble_eq_true rfl) (Nat.le_of_ble_eq_true rfl) (Nat.le_of_ble_eq_true rfl) (Nat.le_of_ble_eq_true rfl) ?_
    refine z_st (st' := []) rfl ?_
    refine z_aload_n (M := M_X11_feed) dX11_feed_22 rfl ?_
    refine z_iload_n (M := M_X11_feed) dX11_feed_23 rfl ?_
    obtain ⟨σ_5, hc_4, H⟩ := bd_e H
    refine z_callV (M := M_X11_feed) (M' := M_X11_layOnTape) (as := [vi b_0]) (rest := []) rfl rfl dX11_feed_24 m_X11_layOnTape t_709 t_711 s_1 (c_X11_layOnTape hl  hc_4) rfl rfl ly_32 rfl (Nat.le_of_ble_eq_true rfl) (Nat.le_of_ble_eq_true rfl) (Nat.le_of_ble_eq_true rfl) (Nat.le_of_ble_eq_true rfl) ?_
    refine z_st (st' := []) rfl ?_
    refine z_aload_n (M := M_X11_feed) dX11_feed_27 rfl ?_
    refine z_iload_n (M := M_X11_feed) dX11_feed_28 rfl ?_
    obtain ⟨σ_7, hc_6, H⟩ := bd_e H
    refine z_callV (M := M_X11_feed) (M' := M_X11_layOnTape) (as := [vi c_0]) (rest := []) rfl rfl dX11_feed_29 m_X11_layOnTape t_709 t_711 s_1 (c_X11_layOnTape hl  hc_6) rfl rfl ly_32 rfl (Nat.le_of_ble_eq_true rfl) (Nat.le_of_ble_eq_true rfl) (Nat.le_of_ble_eq_true rfl) (Nat.le_of_ble_eq_true rfl) ?_
    refine z_st (st' := []) rfl ?_
    refine z_aload_n (M := M_X11_feed) dX11_feed_32 rfl ?_
    refine z_iload (M := M_X11_feed) dX11_feed_33 rfl ?_
    obtain ⟨σ_9, hc_8, H⟩ := bd_e H
    refine z_callV (M := M_X11_feed) (M' := M_X11_layOnTape) (as := [vi d_0]) (rest := []) rfl rfl dX11_feed_35 m_X11_layOnTape t_709 t_711 s_1 (c_X11_layOnTape hl  hc_8) rfl rfl ly_32 rfl (Nat.le_of_ble_eq_true rfl) (Nat.le_of_ble_eq_true rfl) (Nat.le_of_ble_eq_true rfl) (Nat.le_of_ble_eq_true rfl) ?_
    refine z_st (st' := []) rfl ?_
    refine z_aload_n (M := M_X11_feed) dX11_feed_38 rfl ?_
    refine z_iload (M := M_X11_feed) dX11_feed_39 rfl ?_
    obtain ⟨σ_11, hc_10, H⟩ := bd_e H
    refine z_callV (M := M_X11_feed) (M' := M_X11_layOnTape) (as := [vi e_0]) (rest := []) rfl rfl dX11_feed_41 m_X11_layOnTape t_709 t_711 s_1 (c_X11_layOnTape hl  hc_10) rfl rfl ly_32 rfl (Nat.le_of_ble_eq_true rfl) (Nat.le_of_ble_eq_true rfl) (Nat.le_of_ble_eq_true rfl) (Nat.le_of_ble_eq_true rfl) ?_
    refine z_st (st' := []) rfl ?_
    refine z_aload_n (M := M_X11_feed) dX11_feed_44 rfl ?_
    refine z_getI (M := M_X11_feed) (ci := 14) (C := RX11) (T := TX11) (Nf := 19) (ty := tyX11) cl14 dX11_feed_45 ly_32 3 (by decide) t_566 rfl rfl ?_
    cases H
    exact z_iret (M := M_X11_feed) dX11_feed_48 rfl (Nat.le_of_ble_eq_true rfl) (Nat.le_of_ble_eq_true rfl) ⟨rfl, rfl⟩
theorem c_X11_end (hl : l.stackTraces = false) {σ : SG} {n_0 : Int} {r : Int ⊕ Nat} {σ' : SG}  (H : fQ_end σ n_0 = some (r, σ')) : en_S l E M_X11_end 6 1 6 [vr 32, vi n_0] σ (pT (riT r) σ') := by
  unfold fQ_end at H
  refine z_mk (lv := [some (vr 32), some (vi n_0)]) m_X11_end rfl hl (Nat.le_of_ble_eq_true rfl) rfl ?_
  rcases if_e H with ⟨h_3, H⟩ | ⟨h_3, H⟩
  · have J_4 : YY l E M_X11_end 6 1 6 (pT (riT r) σ') 10 [some (vr 32), some (vi n_0)] [] σ 0 0 := by
      cases H
      exact z_throw (M := M_X11_end) (names := en_nm) rfl dX11_end_10 dX11_end_13 dX11_end_14 dX11_end_17 (by decide +kernel) en_nm_ok (Or.inl t_721) (Or.inl t_19) at_X11_IllegalArgumentException_118 (Nat.le_of_ble_eq_true rfl) (Nat.le_of_ble_eq_true rfl) (Nat.le_of_ble_eq_true rfl) (Nat.le_of_ble_eq_true rfl) ⟨rfl, rfl⟩
    refine z_iload_n (M := M_X11_end) dX11_end_0 rfl ?_
    by_cases h_6 : (w32 n_0) < 0
    · refine z_if_lt_t (M := M_X11_end) (tgt := 10) dX11_end_1 (by decide) rfl h_6 ?_
      exact J_4
    · refine z_if_lt_f (M := M_X11_end) (tgt := 10) dX11_end_1 (by decide) rfl (Int.not_lt.mp h_6) ?_
      refine z_iload_n (M := M_X11_end) dX11_end_4 rfl ?_
      refine z_bipush (M := M_X11_end) dX11_end_5 (by decide +kernel) ?_
      by_cases h_7 : 20 < (w32 n_0)
      · refine z_icmp_le_f (M := M_X11_end) (tgt := 18) dX11_end_7 (by decide) rfl (by decide +kernel) h_7 ?_
        exact J_4
      · refine z_icmp_le_t (M := M_X11_end) (tgt := 18) dX11_end_7 (by decide) rfl (by decide +kernel) (Int.not_lt.mp h_7) ?_
        exact absurd h_3 (fun q => q.elim h_6 h_7)
  · have J_5 : YY l E M_X11_end 6 1 6 (pT (riT r) σ') 18 [some (vr 32), some (vi n_0)] [] σ 0 0 := by
      refine z_aload_n (M := M_X11_end) dX11_end_18 rfl ?_
      refine z_getI (M := M_X11_end) (ci := 14) (C := RX11) (T := TX11) (Nf := 19) (ty := tyX11) cl14 dX11_end_19 ly_32 3 (by decide) t_566 rfl rfl ?_
      refine z_bipush (M := M_X11_end) dX11_end_22 (by decide +kernel) ?_
      rcases if_e H with ⟨h_1, H⟩ | ⟨h_1, H⟩
      · refine z_icmp_ge_f (M := M_X11_end) (tgt := 35) dX11_end_24 (by decide) rfl (by decide +kernel) h_1 ?_
        cases H
        exact z_throw (M := M_X11_end) (names := en_nm) rfl dX11_end_27 dX11_end_30 dX11_end_31 dX11_end_34 (by decide +kernel) en_nm_ok (Or.inl t_643) (Or.inl t_18) at_X11_IllegalStateException_112 (Nat.le_of_ble_eq_true rfl) (Nat.le_of_ble_eq_true rfl) (Nat.le_of_ble_eq_true rfl) (Nat.le_of_ble_eq_true rfl) ⟨rfl, rfl⟩
      · refine z_icmp_ge_t (M := M_X11_end) (tgt := 35) dX11_end_24 (by decide) rfl (by decide +kernel) (Int.not_lt.mp h_1) ?_
        refine z_aload_n (M := M_X11_end) dX11_end_35 rfl ?_
        refine z_dup (M := M_X11_end) dX11_end_36 rfl ?_
        refine z_getI (M := M_X11_end) (ci := 14) (C := RX11) (T := TX11) (Nf := 19) (ty := tyX11) cl14 dX11_end_37 ly_32 3 (by decide) t_566 rfl rfl ?_
        refine z_bipush (M := M_X11_end) dX11_end_40 (by decide +kernel) ?_
        refine z_iload_n (M := M_X11_end) dX11_end_42 rfl ?_
        refine z_isub (M := M_X11_end) dX11_end_43 ?_
        refine z_isub (M := M_X11_end) dX11_end_44 ?_
        obtain ⟨σ_2, σ_2_e, H⟩ := wf_e H
        refine z_putI (M := M_X11_end) (ci := 14) (C := RX11) (T := TX11) (Nf := 19) (ty := tyX11) cl14 dX11_end_45 ly_32 3 (by decide) t_566 rfl rfl rfl rfl σ_2_e ?_
        refine z_aload_n (M := M_X11_end) dX11_end_48 rfl ?_
        refine z_getI (M := M_X11_end) (ci := 14) (C := RX11) (T := TX11) (Nf := 19) (ty := tyX11) cl14 dX11_end_49 ly_32 3 (by decide) t_566 rfl rfl ?_
        cases H
        exact z_iret (M := M_X11_end) dX11_end_52 rfl (Nat.le_of_ble_eq_true rfl) (Nat.le_of_ble_eq_true rfl) ⟨rfl, rfl⟩
    refine z_iload_n (M := M_X11_end) dX11_end_0 rfl ?_
    by_cases h_8 : (w32 n_0) < 0
    · refine z_if_lt_t (M := M_X11_end) (tgt := 10) dX11_end_1 (by decide) rfl h_8 ?_
      exact absurd (Or.inl h_8) h_3
    · refine z_if_lt_f (M := M_X11_end) (tgt := 10) dX11_end_1 (by decide) rfl (Int.not_lt.mp h_8) ?_
      refine z_iload_n (M := M_X11_end) dX11_end_4 rfl ?_
      refine z_bipush (M := M_X11_end) dX11_end_5 (by decide +kernel) ?_
      by_cases h_9 : 20 < (w32 n_0)
      · refine z_icmp_le_f (M := M_X11_end) (tgt := 18) dX11_end_7 (by decide) rfl (by decide +kernel) h_9 ?_
        exact absurd (Or.inr h_9) h_3
      · refine z_icmp_le_t (M := M_X11_end) (tgt := 18) dX11_end_7 (by decide) rfl (by decide +kernel) (Int.not_lt.mp h_9) ?_
        exact J_5
theorem c_X11_again (hl : l.stackTraces = false) {σ : SG} {r : Int} {σ' : SG}  (H : fQ_again σ = some (r, σ')) : en_S l E M_X11_again 1 0 0 [vr 32] σ (pS (some (vi r)) σ') := by
  unfold fQ_again at H
  refine z_mk (lv := [some (vr 32)]) m_X11_again rfl hl (Nat.le_of_ble_eq_true rfl) rfl ?_
  refine z_aload_n (M := M_X11_again) dX11_again_0 rfl ?_
  refine z_aload_n (M := M_X11_again) dX11_again_1 rfl ?_
  refine z_getR (M := M_X11_again) (ci := 14) (C := RX11) (T := TX11) (Nf := 19) (ty := tyX11) cl14 dX11_again_2 ly_32 8 (by decide) t_571 rfl ?_
  refine z_getI (M := M_X11_again) (ci := 13) (C := RX10) (T := TX10) (Nf := 6) (ty := tyX10) cl13 dX11_again_5 ly_173 5 (by decide) t_208 rfl rfl ?_
  refine z_ldc (M := M_X11_again) (n := 65536) dX11_again_8 t_98 (by decide +kernel) ?_
  refine z_mmin (M := M_X11_again) dX11_again_10 t_625 t_626 t_20 t_627 (Nat.le_of_ble_eq_true rfl) (Nat.le_of_ble_eq_true rfl) (Nat.le_of_ble_eq_true rfl) (Nat.le_of_ble_eq_true rfl) ?_
  obtain ⟨σ_1, σ_1_e, H⟩ := wf_e H
  refine z_putI (M := M_X11_again) (ci := 14) (C := RX11) (T := TX11) (Nf := 19) (ty := tyX11) cl14 dX11_again_13 ly_32 3 (by decide) t_566 rfl rfl rfl rfl σ_1_e ?_
  refine z_aload_n (M := M_X11_again) dX11_again_16 rfl ?_
  refine z_getR (M := M_X11_again) (ci := 14) (C := RX11) (T := TX11) (Nf := 19) (ty := tyX11) cl14 dX11_again_17 ly_32 8 (by decide) t_571 rfl ?_
  refine z_getR (M := M_X11_again) (ci := 13) (C := RX10) (T := TX10) (Nf := 6) (ty := tyX10) cl13 dX11_again_20 ly_173 4 (by decide) t_206 rfl ?_
  refine z_iconst (M := M_X11_again) dX11_again_23 ?_
  refine z_aload_n (M := M_X11_again) dX11_again_24 rfl ?_
  refine z_getR (M := M_X11_again) (ci := 14) (C := RX11) (T := TX11) (Nf := 19) (ty := tyX11) cl14 dX11_again_25 ly_32 2 (by decide) t_565 rfl ?_
  refine z_iconst (M := M_X11_again) dX11_again_28 ?_
  refine z_aload_n (M := M_X11_again) dX11_again_29 rfl ?_
  refine z_getI (M := M_X11_again) (ci := 14) (C := RX11) (T := TX11) (Nf := 19) (ty := tyX11) cl14 dX11_again_30 ly_32 3 (by decide) t_566 rfl rfl ?_
  obtain ⟨σ_2, σ_2_e, hi_3, H⟩ := cp_e H
  refine z_acopyB (M := M_X11_again) dX11_again_33 t_628 t_630 t_629 t_21 ly_176 ly_166 rfl rfl rfl rfl (by decide +kernel) (by decide +kernel) rfl hi_3 σ_2_e (Nat.le_of_ble_eq_true rfl) (Nat.le_of_ble_eq_true rfl) ?_
  refine z_aload_n (M := M_X11_again) dX11_again_36 rfl ?_
  refine z_getI (M := M_X11_again) (ci := 14) (C := RX11) (T := TX11) (Nf := 19) (ty := tyX11) cl14 dX11_again_37 ly_32 3 (by decide) t_566 rfl rfl ?_
  cases H
  exact z_iret (M := M_X11_again) dX11_again_40 rfl (Nat.le_of_ble_eq_true rfl) (Nat.le_of_ble_eq_true rfl) ⟨rfl, rfl⟩
theorem c_X11_byteAt (hl : l.stackTraces = false) {σ : SG} {i_0 : Int} {r : Int ⊕ Nat} {σ' : SG}  (H : fQ_byteAt σ i_0 = some (r, σ')) : en_S l E M_X11_byteAt 6 1 6 [vr 32, vi i_0] σ (pT (riT r) σ') := by
  unfold fQ_byteAt at H
  refine z_mk (lv := [some (vr 32), some (vi i_0)]) m_X11_byteAt rfl hl (Nat.le_of_ble_eq_true rfl) rfl ?_
  rcases if_e H with ⟨h_3, H⟩ | ⟨h_3, H⟩
  · have J_4 : YY l E M_X11_byteAt 6 1 6 (pT (riT r) σ') 15 [some (vr 32), some (vi i_0)] [] σ 0 0 := by
      cases H
      exact z_throw (M := M_X11_byteAt) (names := en_nm) rfl dX11_byteAt_15 dX11_byteAt_18 dX11_byteAt_19 dX11_byteAt_22 (by decide +kernel) en_nm_ok (Or.inl t_748) (Or.inl t_22) at_X11_IndexOutOfBoundsException_139 (Nat.le_of_ble_eq_true rfl) (Nat.le_of_ble_eq_true rfl) (Nat.le_of_ble_eq_true rfl) (Nat.le_of_ble_eq_true rfl) ⟨rfl, rfl⟩
    refine z_iload_n (M := M_X11_byteAt) dX11_byteAt_0 rfl ?_
    by_cases h_6 : (w32 i_0) < 0
    · refine z_if_lt_t (M := M_X11_byteAt) (tgt := 15) dX11_byteAt_1 (by decide) rfl h_6 ?_
      exact J_4
    · refine z_if_lt_f (M := M_X11_byteAt) (tgt := 15) dX11_byteAt_1 (by decide) rfl (Int.not_lt.mp h_6) ?_
      refine z_iload_n (M := M_X11_byteAt) dX11_byteAt_4 rfl ?_
      refine z_aload_n (M := M_X11_byteAt) dX11_byteAt_5 rfl ?_
      refine z_getR (M := M_X11_byteAt) (ci := 14) (C := RX11) (T := TX11) (Nf := 19) (ty := tyX11) cl14 dX11_byteAt_6 ly_32 8 (by decide) t_571 rfl ?_
      refine z_getI (M := M_X11_byteAt) (ci := 13) (C := RX10) (T := TX10) (Nf := 6) (ty := tyX10) cl13 dX11_byteAt_9 ly_173 5 (by decide) t_208 rfl rfl ?_
      by_cases h_7 : (w32 (σ kO_size 0)) ≤ (w32 i_0)
      · refine z_icmp_lt_f (M := M_X11_byteAt) (tgt := 23) dX11_byteAt_12 (by decide) rfl rfl h_7 ?_
        exact J_4
      · refine z_icmp_lt_t (M := M_X11_byteAt) (tgt := 23) dX11_byteAt_12 (by decide) rfl rfl (Int.not_le.mp h_7) ?_
        exact absurd h_3 (fun q => q.elim h_6 h_7)
  · have J_5 : YY l E M_X11_byteAt 6 1 6 (pT (riT r) σ') 23 [some (vr 32), some (vi i_0)] [] σ 0 0 := by
      refine z_aload_n (M := M_X11_byteAt) dX11_byteAt_23 rfl ?_
      refine z_getR (M := M_X11_byteAt) (ci := 14) (C := RX11) (T := TX11) (Nf := 19) (ty := tyX11) cl14 dX11_byteAt_24 ly_32 8 (by decide) t_571 rfl ?_
      refine z_getR (M := M_X11_byteAt) (ci := 13) (C := RX10) (T := TX10) (Nf := 6) (ty := tyX10) cl13 dX11_byteAt_27 ly_173 4 (by decide) t_206 rfl ?_
      refine z_iload_n (M := M_X11_byteAt) dX11_byteAt_30 rfl ?_
      obtain ⟨x_1, x_1_e, hi_2, H⟩ := rd_e H
      refine z_bald (M := M_X11_byteAt) dX11_byteAt_31 ly_176 rfl rfl rfl hi_2 x_1_e ?_
      refine z_sipush (M := M_X11_byteAt) dX11_byteAt_32 (by decide +kernel) ?_
      refine z_iand (M := M_X11_byteAt) dX11_byteAt_35 ?_
      cases H
      exact z_iret (M := M_X11_byteAt) dX11_byteAt_36 rfl (Nat.le_of_ble_eq_true rfl) (Nat.le_of_ble_eq_true rfl) ⟨rfl, rfl⟩
    refine z_iload_n (M := M_X11_byteAt) dX11_byteAt_0 rfl ?_
    by_cases h_8 : (w32 i_0) < 0
    · refine z_if_lt_t (M := M_X11_byteAt) (tgt := 15) dX11_byteAt_1 (by decide) rfl h_8 ?_
      exact absurd (Or.inl h_8) h_3
    · refine z_if_lt_f (M := M_X11_byteAt) (tgt := 15) dX11_byteAt_1 (by decide) rfl (Int.not_lt.mp h_8) ?_
      refine z_iload_n (M := M_X11_byteAt) dX11_byteAt_4 rfl ?_
      refine z_aload_n (M := M_X11_byteAt) dX11_byteAt_5 rfl ?_
      refine z_getR (M := M_X11_byteAt) (ci := 14) (C := RX11) (T := TX11) (Nf := 19) (ty := tyX11) cl14 dX11_byteAt_6 ly_32 8 (by decide) t_571 rfl ?_
      refine z_getI (M := M_X11_byteAt) (ci := 13) (C := RX10) (T := TX10) (Nf := 6) (ty := tyX10) cl13 dX11_byteAt_9 ly_173 5 (by decide) t_208 rfl rfl ?_
      by_cases h_9 : (w32 (σ kO_size 0)) ≤ (w32 i_0)
      · refine z_icmp_lt_f (M := M_X11_byteAt) (tgt := 23) dX11_byteAt_12 (by decide) rfl rfl h_9 ?_
        exact absurd (Or.inr h_9) h_3
      · refine z_icmp_lt_t (M := M_X11_byteAt) (tgt := 23) dX11_byteAt_12 (by decide) rfl rfl (Int.not_le.mp h_9) ?_
        exact J_5
theorem c_X6_clear (hl : l.stackTraces = false) {σ : SG} {this_0 : Nat} {σ' : SG} (h_this : isS this_0) (H : fA_clear σ this_0 = some σ') : en_S l E M_X6_clear 1 0 0 [vr this_0] σ (pS (none) σ') := by
  unfold fA_clear at H
  refine z_mk (lv := [some (vr this_0)]) m_X6_clear rfl hl (Nat.le_of_ble_eq_true rfl) rfl ?_
  refine z_aload_n (M := M_X6_clear) dX6_clear_0 rfl ?_
  refine z_iconst (M := M_X6_clear) dX6_clear_1 ?_
  obtain ⟨σ_1, σ_1_e, H⟩ := wf_e H
  refine z_putI (M := M_X6_clear) (ci := 9) (C := RX6) (T := TX6) (Nf := 5) (ty := tyX6) cl9 dX6_clear_2 (ly_S h_this) 3 (by decide) t_72 rfl rfl rfl rfl σ_1_e ?_
  refine z_aload_n (M := M_X6_clear) dX6_clear_5 rfl ?_
  refine z_iconst (M := M_X6_clear) dX6_clear_6 ?_
  obtain ⟨σ_2, σ_2_e, H⟩ := wf_e H
  refine z_putI (M := M_X6_clear) (ci := 9) (C := RX6) (T := TX6) (Nf := 5) (ty := tyX6) cl9 dX6_clear_7 (ly_S h_this) 4 (by decide) t_83 rfl rfl rfl rfl σ_2_e ?_
  cases H
  exact z_vret (M := M_X6_clear) dX6_clear_10 rfl (Nat.le_of_ble_eq_true rfl) (Nat.le_of_ble_eq_true rfl) ⟨rfl, rfl⟩
theorem c_X9_fail (hl : l.stackTraces = false) {σ : SG} {code_0 : Int} {r : Bool} {σ' : SG}  (H : fW_fail σ code_0 = some (r, σ')) : en_S l E M_X9_fail 1 0 0 [vr 167, vi code_0] σ (pS (some (zv r)) σ') := by
  unfold fW_fail at H
  refine z_mk (lv := [some (vr 167), some (vi code_0)]) m_X9_fail rfl hl (Nat.le_of_ble_eq_true rfl) rfl ?_
  refine z_aload_n (M := M_X9_fail) dX9_fail_0 rfl ?_
  refine z_iload_n (M := M_X9_fail) dX9_fail_1 rfl ?_
  obtain ⟨σ_1, σ_1_e, H⟩ := wf_e H
  refine z_putI (M := M_X9_fail) (ci := 12) (C := RX9) (T := TX9) (Nf := 12) (ty := tyX9) cl12 dX9_fail_2 ly_167 10 (by decide) t_115 rfl rfl rfl rfl σ_1_e ?_
  refine z_aload_n (M := M_X9_fail) dX9_fail_5 rfl ?_
  refine z_aload_n (M := M_X9_fail) dX9_fail_6 rfl ?_
  refine z_getI (M := M_X9_fail) (ci := 12) (C := RX9) (T := TX9) (Nf := 12) (ty := tyX9) cl12 dX9_fail_7 ly_167 6 (by decide) t_111 rfl rfl ?_
  obtain ⟨σ_2, σ_2_e, H⟩ := wf_e H
  refine z_putI (M := M_X9_fail) (ci := 12) (C := RX9) (T := TX9) (Nf := 12) (ty := tyX9) cl12 dX9_fail_10 ly_167 11 (by decide) t_117 rfl rfl rfl rfl σ_2_e ?_
  refine z_zconst (M := M_X9_fail) (b := false) dX9_fail_13 rfl ?_
  cases H
  exact z_zret (M := M_X9_fail) dX9_fail_14 rfl (Nat.le_of_ble_eq_true rfl) (Nat.le_of_ble_eq_true rfl) ⟨rfl, rfl⟩
theorem c_X9_signAt (hl : l.stackTraces = false) {σ : SG} {i_0 : Int} {r : Int}  (H : fW_signAt σ i_0 = some r) : en_S l E M_X9_signAt 1 0 0 [vr 167, vi i_0] σ (pS (some (vi r)) σ) := by
  unfold fW_signAt at H
  refine z_mk (lv := [some (vr 167), some (vi i_0)]) m_X9_signAt rfl hl (Nat.le_of_ble_eq_true rfl) rfl ?_
  obtain ⟨v_15, he_16, hk_17⟩ := bd_e H
  have J_18 : ∀ x_14, v_15 = x_14 → YY l E M_X9_signAt 1 0 0 (pS (some (vi r)) σ) 26 [some (vr 167), some (vi i_0)] [vi x_14] σ 0 0 := by
    intro x_14 e
    have H := hk_17
    rw [e] at H
    cases H
    exact z_iret (M := M_X9_signAt) dX9_signAt_26 rfl (Nat.le_of_ble_eq_true rfl) (Nat.le_of_ble_eq_true rfl) ⟨rfl, rfl⟩
  have H := he_16
  rcases if_e H with ⟨h_7, H⟩ | ⟨h_7, H⟩
  · have J_8 : YY l E M_X9_signAt 1 0 0 (pS (some (vi r)) σ) 12 [some (vr 167), some (vi i_0)] [] σ 0 0 := by
      refine z_aload_n (M := M_X9_signAt) dX9_signAt_12 rfl ?_
      refine z_getR (M := M_X9_signAt) (ci := 12) (C := RX9) (T := TX9) (Nf := 12) (ty := tyX9) cl12 dX9_signAt_13 ly_167 1 (by decide) t_106 rfl ?_
      refine z_iload_n (M := M_X9_signAt) dX9_signAt_16 rfl ?_
      obtain ⟨x_3, x_3_e, hi_4, H⟩ := rd_e H
      refine z_bald (M := M_X9_signAt) dX9_signAt_17 ly_166 rfl rfl rfl hi_4 x_3_e ?_
      refine z_sipush (M := M_X9_signAt) dX9_signAt_18 (by decide +kernel) ?_
      refine z_iand (M := M_X9_signAt) dX9_signAt_21 ?_
      refine z_goto (M := M_X9_signAt) (tgt := 26) dX9_signAt_22 (by decide) ?_
      exact J_18 _ (Option.some.inj H).symm
    refine z_iload_n (M := M_X9_signAt) dX9_signAt_0 rfl ?_
    by_cases h_10 : 0 ≤ (w32 i_0)
    · refine z_if_lt_f (M := M_X9_signAt) (tgt := 25) dX9_signAt_1 (by decide) rfl h_10 ?_
      refine z_iload_n (M := M_X9_signAt) dX9_signAt_4 rfl ?_
      refine z_aload_n (M := M_X9_signAt) dX9_signAt_5 rfl ?_
      refine z_getI (M := M_X9_signAt) (ci := 12) (C := RX9) (T := TX9) (Nf := 12) (ty := tyX9) cl12 dX9_signAt_6 ly_167 5 (by decide) t_110 rfl rfl ?_
      by_cases h_11 : (w32 i_0) < (w32 (σ kW_length 0))
      · refine z_icmp_ge_f (M := M_X9_signAt) (tgt := 25) dX9_signAt_9 (by decide) rfl rfl h_11 ?_
        exact J_8
      · refine z_icmp_ge_t (M := M_X9_signAt) (tgt := 25) dX9_signAt_9 (by decide) rfl rfl (Int.not_lt.mp h_11) ?_
        exact absurd h_7 (fun q => h_11 q.2)
    · refine z_if_lt_t (M := M_X9_signAt) (tgt := 25) dX9_signAt_1 (by decide) rfl (Int.not_le.mp h_10) ?_
      exact absurd h_7 (fun q => h_10 q.1)
  · have J_9 : YY l E M_X9_signAt 1 0 0 (pS (some (vi r)) σ) 25 [some (vr 167), some (vi i_0)] [] σ 0 0 := by
      refine z_iconst (M := M_X9_signAt) dX9_signAt_25 ?_
      exact J_18 _ (Option.some.inj H).symm
    refine z_iload_n (M := M_X9_signAt) dX9_signAt_0 rfl ?_
    by_cases h_12 : 0 ≤ (w32 i_0)
    · refine z_if_lt_f (M := M_X9_signAt) (tgt := 25) dX9_signAt_1 (by decide) rfl h_12 ?_
      refine z_iload_n (M := M_X9_signAt) dX9_signAt_4 rfl ?_
      refine z_aload_n (M := M_X9_signAt) dX9_signAt_5 rfl ?_
      refine z_getI (M := M_X9_signAt) (ci := 12) (C := RX9) (T := TX9) (Nf := 12) (ty := tyX9) cl12 dX9_signAt_6 ly_167 5 (by decide) t_110 rfl rfl ?_
      by_cases h_13 : (w32 i_0) < (w32 (σ kW_length 0))
      · refine z_icmp_ge_f (M := M_X9_signAt) (tgt := 25) dX9_signAt_9 (by decide) rfl rfl h_13 ?_
        exact absurd ⟨h_12, h_13⟩ h_7
      · refine z_icmp_ge_t (M := M_X9_signAt) (tgt := 25) dX9_signAt_9 (by decide) rfl rfl (Int.not_lt.mp h_13) ?_
        exact J_9
    · refine z_if_lt_t (M := M_X9_signAt) (tgt := 25) dX9_signAt_1 (by decide) rfl (Int.not_le.mp h_12) ?_
      exact J_9
theorem c_X9_isBlank (hl : l.stackTraces = false) {σ : SG} {c_0 : Int} {r : Bool}  (H : fW_isBlank c_0 = r) : en_S l E M_X9_isBlank 1 0 0 [vi c_0] σ (pS (some (zv r)) σ) := by
  unfold fW_isBlank at H
  refine z_mk (lv := [some (vi c_0)]) m_X9_isBlank rfl hl (Nat.le_of_ble_eq_true rfl) rfl ?_
  have J_1 : YY l E M_X9_isBlank 1 0 0 (pS (some (zv r)) σ) 29 [some (vi c_0)] [zv (decide (((((w32 c_0) = 32) ∨ ((w32 c_0) = 9)) ∨ ((w32 c_0) = 10)) ∨ ((w32 c_0) = 13)))] σ 0 0 := by
    cases H
    exact z_zret (M := M_X9_isBlank) dX9_isBlank_29 rfl (Nat.le_of_ble_eq_true rfl) (Nat.le_of_ble_eq_true rfl) ⟨rfl, rfl⟩
  refine z_iload_n (M := M_X9_isBlank) dX9_isBlank_0 rfl ?_
  refine z_bipush (M := M_X9_isBlank) dX9_isBlank_1 (by decide +kernel) ?_
  by_cases h_2 : (w32 c_0) = 32
  · refine z_icmp_eq_t (M := M_X9_isBlank) (tgt := 24) dX9_isBlank_3 (by decide) rfl (by decide +kernel) h_2 ?_
    refine z_iconst (M := M_X9_isBlank) dX9_isBlank_24 ?_
    refine z_goto (M := M_X9_isBlank) (tgt := 29) dX9_isBlank_25 (by decide) ?_
    exact z_st (by rw [zv_t (p := ((((w32 c_0) = 32) ∨ ((w32 c_0) = 9)) ∨ ((w32 c_0) = 10)) ∨ ((w32 c_0) = 13)) (Or.inl (Or.inl (Or.inl h_2)))]) J_1
  · refine z_icmp_eq_f (M := M_X9_isBlank) (tgt := 24) dX9_isBlank_3 (by decide) rfl (by decide +kernel) h_2 ?_
    refine z_iload_n (M := M_X9_isBlank) dX9_isBlank_6 rfl ?_
    refine z_bipush (M := M_X9_isBlank) dX9_isBlank_7 (by decide +kernel) ?_
    by_cases h_3 : (w32 c_0) = 9
    · refine z_icmp_eq_t (M := M_X9_isBlank) (tgt := 24) dX9_isBlank_9 (by decide) rfl (by decide +kernel) h_3 ?_
      refine z_iconst (M := M_X9_isBlank) dX9_isBlank_24 ?_
      refine z_goto (M := M_X9_isBlank) (tgt := 29) dX9_isBlank_25 (by decide) ?_
      exact z_st (by rw [zv_t (p := ((((w32 c_0) = 32) ∨ ((w32 c_0) = 9)) ∨ ((w32 c_0) = 10)) ∨ ((w32 c_0) = 13)) (Or.inl (Or.inl (Or.inr h_3)))]) J_1
    · refine z_icmp_eq_f (M := M_X9_isBlank) (tgt := 24) dX9_isBlank_9 (by decide) rfl (by decide +kernel) h_3 ?_
      refine z_iload_n (M := M_X9_isBlank) dX9_isBlank_12 rfl ?_
      refine z_bipush (M := M_X9_isBlank) dX9_isBlank_13 (by decide +kernel) ?_
      by_cases h_4 : (w32 c_0) = 10
      · refine z_icmp_eq_t (M := M_X9_isBlank) (tgt := 24) dX9_isBlank_15 (by decide) rfl (by decide +kernel) h_4 ?_
        refine z_iconst (M := M_X9_isBlank) dX9_isBlank_24 ?_
        refine z_goto (M := M_X9_isBlank) (tgt := 29) dX9_isBlank_25 (by decide) ?_
        exact z_st (by rw [zv_t (p := ((((w32 c_0) = 32) ∨ ((w32 c_0) = 9)) ∨ ((w32 c_0) = 10)) ∨ ((w32 c_0) = 13)) (Or.inl (Or.inr h_4))]) J_1
      · refine z_icmp_eq_f (M := M_X9_isBlank) (tgt := 24) dX9_isBlank_15 (by decide) rfl (by decide +kernel) h_4 ?_
        refine z_iload_n (M := M_X9_isBlank) dX9_isBlank_18 rfl ?_
        refine z_bipush (M := M_X9_isBlank) dX9_isBlank_19 (by decide +kernel) ?_
        by_cases h_5 : (w32 c_0) = 13
        · refine z_icmp_ne_f (M := M_X9_isBlank) (tgt := 28) dX9_isBlank_21 (by decide) rfl (by decide +kernel) h_5 ?_
          refine z_iconst (M := M_X9_isBlank) dX9_isBlank_24 ?_
          refine z_goto (M := M_X9_isBlank) (tgt := 29) dX9_isBlank_25 (by decide) ?_
          exact z_st (by rw [zv_t (p := ((((w32 c_0) = 32) ∨ ((w32 c_0) = 9)) ∨ ((w32 c_0) = 10)) ∨ ((w32 c_0) = 13)) (Or.inr h_5)]) J_1
        · refine z_icmp_ne_t (M := M_X9_isBlank) (tgt := 28) dX9_isBlank_21 (by decide) rfl (by decide +kernel) h_5 ?_
          refine z_iconst (M := M_X9_isBlank) dX9_isBlank_28 ?_
          exact z_st (by rw [zv_f (p := ((((w32 c_0) = 32) ∨ ((w32 c_0) = 9)) ∨ ((w32 c_0) = 10)) ∨ ((w32 c_0) = 13)) (fun q => q.elim (fun q => q.elim (fun q => q.elim h_2 h_3) h_4) h_5)]) J_1
theorem c_X9_skipBlanks (hl : l.stackTraces = false) {σ : SG} {σ' : SG}  (H : fW_skipBlanks σ = some σ') : en_S l E M_X9_skipBlanks 2 0 0 [vr 167] σ (pS (none) σ') := by
  unfold fW_skipBlanks at H
  refine z_mk (lv := [some (vr 167)]) m_X9_skipBlanks rfl hl (Nat.le_of_ble_eq_true rfl) rfl ?_
  obtain ⟨rl_5, hw_2, hk_3⟩ := bd_e H
  have J_26 : ∀ σ_25, rl_5 = σ_25 → YY l E M_X9_skipBlanks 2 0 0 (pS (none) σ') 39 [some (vr 167)] [] σ_25 0 0 := by
    intro σ_25 e
    have H := hk_3
    rw [e] at H
    cases H
    exact z_vret (M := M_X9_skipBlanks) dX9_skipBlanks_39 rfl (Nat.le_of_ble_eq_true rfl) (Nat.le_of_ble_eq_true rfl) ⟨rfl, rfl⟩
  refine whl_go hw_2 (fun σ_1 => YY l E M_X9_skipBlanks 2 0 0 (pS (none) σ') 0 [some (vr 167)] [] σ_1 0 0) ?_
  rintro σ_1 o_6 H K_7 K_8
  refine z_aload_n (M := M_X9_skipBlanks) dX9_skipBlanks_0 rfl ?_
  refine z_getI (M := M_X9_skipBlanks) (ci := 12) (C := RX9) (T := TX9) (Nf := 12) (ty := tyX9) cl12 dX9_skipBlanks_1 ly_167 6 (by decide) t_111 rfl rfl ?_
  refine z_aload_n (M := M_X9_skipBlanks) dX9_skipBlanks_4 rfl ?_
  refine z_getI (M := M_X9_skipBlanks) (ci := 12) (C := RX9) (T := TX9) (Nf := 12) (ty := tyX9) cl12 dX9_skipBlanks_5 ly_167 5 (by decide) t_110 rfl rfl ?_
  rcases if_e H with ⟨h_17, H⟩ | ⟨h_17, H⟩
  · refine z_icmp_ge_f (M := M_X9_skipBlanks) (tgt := 39) dX9_skipBlanks_8 (by decide) rfl rfl h_17 ?_
    refine z_aload_n (M := M_X9_skipBlanks) dX9_skipBlanks_11 rfl ?_
    refine z_getR (M := M_X9_skipBlanks) (ci := 12) (C := RX9) (T := TX9) (Nf := 12) (ty := tyX9) cl12 dX9_skipBlanks_12 ly_167 1 (by decide) t_106 rfl ?_
    refine z_aload_n (M := M_X9_skipBlanks) dX9_skipBlanks_15 rfl ?_
    refine z_getI (M := M_X9_skipBlanks) (ci := 12) (C := RX9) (T := TX9) (Nf := 12) (ty := tyX9) cl12 dX9_skipBlanks_16 ly_167 6 (by decide) t_111 rfl rfl ?_
    obtain ⟨x_18, x_18_e, hi_19, H⟩ := rd_e H
    refine z_bald (M := M_X9_skipBlanks) dX9_skipBlanks_19 ly_166 rfl rfl rfl hi_19 x_18_e ?_
    refine z_callS (M := M_X9_skipBlanks) (M' := M_X9_isBlank) (as := [vi (w8 x_18)]) (rest := []) rfl rfl dX9_skipBlanks_20 m_X9_isBlank t_780 t_781 (c_X9_isBlank hl  rfl) rfl rfl (Nat.le_of_ble_eq_true rfl) (Nat.le_of_ble_eq_true rfl) (Nat.le_of_ble_eq_true rfl) (Nat.le_of_ble_eq_true rfl) ?_
    refine z_st (st' := [zv (fW_isBlank (w8 x_18))]) rfl ?_
    rcases if_e H with ⟨h_20, H⟩ | ⟨h_20, H⟩
    · refine z_zeq_f (M := M_X9_skipBlanks) (tgt := 39) dX9_skipBlanks_23 (by decide) h_20 ?_
      refine z_aload_n (M := M_X9_skipBlanks) dX9_skipBlanks_26 rfl ?_
      refine z_dup (M := M_X9_skipBlanks) dX9_skipBlanks_27 rfl ?_
      refine z_getI (M := M_X9_skipBlanks) (ci := 12) (C := RX9) (T := TX9) (Nf := 12) (ty := tyX9) cl12 dX9_skipBlanks_28 ly_167 6 (by decide) t_111 rfl rfl ?_
      refine z_iconst (M := M_X9_skipBlanks) dX9_skipBlanks_31 ?_
      refine z_iadd (M := M_X9_skipBlanks) dX9_skipBlanks_32 ?_
      obtain ⟨σ_21, σ_21_e, H⟩ := wf_e H
      refine z_putI (M := M_X9_skipBlanks) (ci := 12) (C := RX9) (T := TX9) (Nf := 12) (ty := tyX9) cl12 dX9_skipBlanks_33 ly_167 6 (by decide) t_111 rfl rfl rfl rfl σ_21_e ?_
      refine z_goto (M := M_X9_skipBlanks) (tgt := 0) dX9_skipBlanks_36 (by decide) ?_
      exact K_7 _ (Option.some.inj H).symm
    · refine z_zeq_t (M := M_X9_skipBlanks) (tgt := 39) dX9_skipBlanks_23 (by decide) h_20 ?_
      exact J_26 _ (K_8 _ (Option.some.inj H).symm).symm
  · refine z_icmp_ge_t (M := M_X9_skipBlanks) (tgt := 39) dX9_skipBlanks_8 (by decide) rfl rfl (Int.not_lt.mp h_17) ?_
    exact J_26 _ (K_8 _ (Option.some.inj H).symm).symm
theorem c_X9_beginsNumber (hl : l.stackTraces = false) {σ : SG} {c_0 : Int} {r : Bool}  (H : fW_beginsNumber c_0 = r) : en_S l E M_X9_beginsNumber 1 0 0 [vi c_0] σ (pS (some (zv r)) σ) := by
  unfold fW_beginsNumber at H
  refine z_mk (lv := [some (vi c_0)]) m_X9_beginsNumber rfl hl (Nat.le_of_ble_eq_true rfl) rfl ?_
  have J_1 : YY l E M_X9_beginsNumber 1 0 0 (pS (some (zv r)) σ) 35 [some (vi c_0)] [zv (decide (((((48 ≤ (w32 c_0)) ∧ ((w32 c_0) ≤ 57)) ∨ ((w32 c_0) = 43)) ∨ ((w32 c_0) = 45)) ∨ ((w32 c_0) = 46)))] σ 0 0 := by
    cases H
    exact z_zret (M := M_X9_beginsNumber) dX9_beginsNumber_35 rfl (Nat.le_of_ble_eq_true rfl) (Nat.le_of_ble_eq_true rfl) ⟨rfl, rfl⟩
  refine z_iload_n (M := M_X9_beginsNumber) dX9_beginsNumber_0 rfl ?_
  refine z_bipush (M := M_X9_beginsNumber) dX9_beginsNumber_1 (by decide +kernel) ?_
  by_cases h_2 : 48 ≤ (w32 c_0)
  · refine z_icmp_lt_f (M := M_X9_beginsNumber) (tgt := 12) dX9_beginsNumber_3 (by decide) rfl (by decide +kernel) h_2 ?_
    refine z_iload_n (M := M_X9_beginsNumber) dX9_beginsNumber_6 rfl ?_
    refine z_bipush (M := M_X9_beginsNumber) dX9_beginsNumber_7 (by decide +kernel) ?_
    by_cases h_3 : (w32 c_0) ≤ 57
    · refine z_icmp_le_t (M := M_X9_beginsNumber) (tgt := 30) dX9_beginsNumber_9 (by decide) rfl (by decide +kernel) h_3 ?_
      refine z_iconst (M := M_X9_beginsNumber) dX9_beginsNumber_30 ?_
      refine z_goto (M := M_X9_beginsNumber) (tgt := 35) dX9_beginsNumber_31 (by decide) ?_
      exact z_st (by rw [zv_t (p := ((((48 ≤ (w32 c_0)) ∧ ((w32 c_0) ≤ 57)) ∨ ((w32 c_0) = 43)) ∨ ((w32 c_0) = 45)) ∨ ((w32 c_0) = 46)) (Or.inl (Or.inl (Or.inl ⟨h_2, h_3⟩)))]) J_1
    · refine z_icmp_le_f (M := M_X9_beginsNumber) (tgt := 30) dX9_beginsNumber_9 (by decide) rfl (by decide +kernel) (Int.not_le.mp h_3) ?_
      refine z_iload_n (M := M_X9_beginsNumber) dX9_beginsNumber_12 rfl ?_
      refine z_bipush (M := M_X9_beginsNumber) dX9_beginsNumber_13 (by decide +kernel) ?_
      by_cases h_4 : (w32 c_0) = 43
      · refine z_icmp_eq_t (M := M_X9_beginsNumber) (tgt := 30) dX9_beginsNumber_15 (by decide) rfl (by decide +kernel) h_4 ?_
        refine z_iconst (M := M_X9_beginsNumber) dX9_beginsNumber_30 ?_
        refine z_goto (M := M_X9_beginsNumber) (tgt := 35) dX9_beginsNumber_31 (by decide) ?_
        exact z_st (by rw [zv_t (p := ((((48 ≤ (w32 c_0)) ∧ ((w32 c_0) ≤ 57)) ∨ ((w32 c_0) = 43)) ∨ ((w32 c_0) = 45)) ∨ ((w32 c_0) = 46)) (Or.inl (Or.inl (Or.inr h_4)))]) J_1
      · refine z_icmp_eq_f (M := M_X9_beginsNumber) (tgt := 30) dX9_beginsNumber_15 (by decide) rfl (by decide +kernel) h_4 ?_
        refine z_iload_n (M := M_X9_beginsNumber) dX9_beginsNumber_18 rfl ?_
        refine z_bipush (M := M_X9_beginsNumber) dX9_beginsNumber_19 (by decide +kernel) ?_
        by_cases h_5 : (w32 c_0) = 45
        · refine z_icmp_eq_t (M := M_X9_beginsNumber) (tgt := 30) dX9_beginsNumber_21 (by decide) rfl (by decide +kernel) h_5 ?_
          refine z_iconst (M := M_X9_beginsNumber) dX9_beginsNumber_30 ?_
          refine z_goto (M := M_X9_beginsNumber) (tgt := 35) dX9_beginsNumber_31 (by decide) ?_
          exact z_st (by rw [zv_t (p := ((((48 ≤ (w32 c_0)) ∧ ((w32 c_0) ≤ 57)) ∨ ((w32 c_0) = 43)) ∨ ((w32 c_0) = 45)) ∨ ((w32 c_0) = 46)) (Or.inl (Or.inr h_5))]) J_1
        · refine z_icmp_eq_f (M := M_X9_beginsNumber) (tgt := 30) dX9_beginsNumber_21 (by decide) rfl (by decide +kernel) h_5 ?_
          refine z_iload_n (M := M_X9_beginsNumber) dX9_beginsNumber_24 rfl ?_
          refine z_bipush (M := M_X9_beginsNumber) dX9_beginsNumber_25 (by decide +kernel) ?_
          by_cases h_6 : (w32 c_0) = 46
          · refine z_icmp_ne_f (M := M_X9_beginsNumber) (tgt := 34) dX9_beginsNumber_27 (by decide) rfl (by decide +kernel) h_6 ?_
            refine z_iconst (M := M_X9_beginsNumber) dX9_beginsNumber_30 ?_
            refine z_goto (M := M_X9_beginsNumber) (tgt := 35) dX9_beginsNumber_31 (by decide) ?_
            exact z_st (by rw [zv_t (p := ((((48 ≤ (w32 c_0)) ∧ ((w32 c_0) ≤ 57)) ∨ ((w32 c_0) = 43)) ∨ ((w32 c_0) = 45)) ∨ ((w32 c_0) = 46)) (Or.inr h_6)]) J_1
          · refine z_icmp_ne_t (M := M_X9_beginsNumber) (tgt := 34) dX9_beginsNumber_27 (by decide) rfl (by decide +kernel) h_6 ?_
            refine z_iconst (M := M_X9_beginsNumber) dX9_beginsNumber_34 ?_
            exact z_st (by rw [zv_f (p := ((((48 ≤ (w32 c_0)) ∧ ((w32 c_0) ≤ 57)) ∨ ((w32 c_0) = 43)) ∨ ((w32 c_0) = 45)) ∨ ((w32 c_0) = 46)) (fun q => q.elim (fun q => q.elim (fun q => q.elim (fun q => h_3 q.2) h_4) h_5) h_6)]) J_1
  · refine z_icmp_lt_t (M := M_X9_beginsNumber) (tgt := 12) dX9_beginsNumber_3 (by decide) rfl (by decide +kernel) (Int.not_le.mp h_2) ?_
    refine z_iload_n (M := M_X9_beginsNumber) dX9_beginsNumber_12 rfl ?_
    refine z_bipush (M := M_X9_beginsNumber) dX9_beginsNumber_13 (by decide +kernel) ?_
    by_cases h_7 : (w32 c_0) = 43
    · refine z_icmp_eq_t (M := M_X9_beginsNumber) (tgt := 30) dX9_beginsNumber_15 (by decide) rfl (by decide +kernel) h_7 ?_
      refine z_iconst (M := M_X9_beginsNumber) dX9_beginsNumber_30 ?_
      refine z_goto (M := M_X9_beginsNumber) (tgt := 35) dX9_beginsNumber_31 (by decide) ?_
      exact z_st (by rw [zv_t (p := ((((48 ≤ (w32 c_0)) ∧ ((w32 c_0) ≤ 57)) ∨ ((w32 c_0) = 43)) ∨ ((w32 c_0) = 45)) ∨ ((w32 c_0) = 46)) (Or.inl (Or.inl (Or.inr h_7)))]) J_1
    · refine z_icmp_eq_f (M := M_X9_beginsNumber) (tgt := 30) dX9_beginsNumber_15 (by decide) rfl (by decide +kernel) h_7 ?_
      refine z_iload_n (M := M_X9_beginsNumber) dX9_beginsNumber_18 rfl ?_
      refine z_bipush (M := M_X9_beginsNumber) dX9_beginsNumber_19 (by decide +kernel) ?_
      by_cases h_8 : (w32 c_0) = 45
      · refine z_icmp_eq_t (M := M_X9_beginsNumber) (tgt := 30) dX9_beginsNumber_21 (by decide) rfl (by decide +kernel) h_8 ?_
        refine z_iconst (M := M_X9_beginsNumber) dX9_beginsNumber_30 ?_
        refine z_goto (M := M_X9_beginsNumber) (tgt := 35) dX9_beginsNumber_31 (by decide) ?_
        exact z_st (by rw [zv_t (p := ((((48 ≤ (w32 c_0)) ∧ ((w32 c_0) ≤ 57)) ∨ ((w32 c_0) = 43)) ∨ ((w32 c_0) = 45)) ∨ ((w32 c_0) = 46)) (Or.inl (Or.inr h_8))]) J_1
      · refine z_icmp_eq_f (M := M_X9_beginsNumber) (tgt := 30) dX9_beginsNumber_21 (by decide) rfl (by decide +kernel) h_8 ?_
        refine z_iload_n (M := M_X9_beginsNumber) dX9_beginsNumber_24 rfl ?_
        refine z_bipush (M := M_X9_beginsNumber) dX9_beginsNumber_25 (by decide +kernel) ?_
        by_cases h_9 : (w32 c_0) = 46
        · refine z_icmp_ne_f (M := M_X9_beginsNumber) (tgt := 34) dX9_beginsNumber_27 (by decide) rfl (by decide +kernel) h_9 ?_
          refine z_iconst (M := M_X9_beginsNumber) dX9_beginsNumber_30 ?_
          refine z_goto (M := M_X9_beginsNumber) (tgt := 35) dX9_beginsNumber_31 (by decide) ?_
          exact z_st (by rw [zv_t (p := ((((48 ≤ (w32 c_0)) ∧ ((w32 c_0) ≤ 57)) ∨ ((w32 c_0) = 43)) ∨ ((w32 c_0) = 45)) ∨ ((w32 c_0) = 46)) (Or.inr h_9)]) J_1
        · refine z_icmp_ne_t (M := M_X9_beginsNumber) (tgt := 34) dX9_beginsNumber_27 (by decide) rfl (by decide +kernel) h_9 ?_
          refine z_iconst (M := M_X9_beginsNumber) dX9_beginsNumber_34 ?_
          exact z_st (by rw [zv_f (p := ((((48 ≤ (w32 c_0)) ∧ ((w32 c_0) ≤ 57)) ∨ ((w32 c_0) = 43)) ∨ ((w32 c_0) = 45)) ∨ ((w32 c_0) = 46)) (fun q => q.elim (fun q => q.elim (fun q => q.elim (fun q => h_2 q.1) h_7) h_8) h_9)]) J_1
theorem c_X9_isLetter (hl : l.stackTraces = false) {σ : SG} {c_0 : Int} {r : Bool}  (H : fW_isLetter c_0 = r) : en_S l E M_X9_isLetter 1 0 0 [vi c_0] σ (pS (some (zv r)) σ) := by
  unfold fW_isLetter at H
  refine z_mk (lv := [some (vi c_0)]) m_X9_isLetter rfl hl (Nat.le_of_ble_eq_true rfl) rfl ?_
  have J_1 : YY l E M_X9_isLetter 1 0 0 (pS (some (zv r)) σ) 29 [some (vi c_0)] [zv (decide (((65 ≤ (w32 c_0)) ∧ ((w32 c_0) ≤ 90)) ∨ ((97 ≤ (w32 c_0)) ∧ ((w32 c_0) ≤ 122))))] σ 0 0 := by
    cases H
    exact z_zret (M := M_X9_isLetter) dX9_isLetter_29 rfl (Nat.le_of_ble_eq_true rfl) (Nat.le_of_ble_eq_true rfl) ⟨rfl, rfl⟩
  refine z_iload_n (M := M_X9_isLetter) dX9_isLetter_0 rfl ?_
  refine z_bipush (M := M_X9_isLetter) dX9_isLetter_1 (by decide +kernel) ?_
  by_cases h_2 : 65 ≤ (w32 c_0)
  · refine z_icmp_lt_f (M := M_X9_isLetter) (tgt := 12) dX9_isLetter_3 (by decide) rfl (by decide +kernel) h_2 ?_
    refine z_iload_n (M := M_X9_isLetter) dX9_isLetter_6 rfl ?_
    refine z_bipush (M := M_X9_isLetter) dX9_isLetter_7 (by decide +kernel) ?_
    by_cases h_3 : (w32 c_0) ≤ 90
    · refine z_icmp_le_t (M := M_X9_isLetter) (tgt := 24) dX9_isLetter_9 (by decide) rfl (by decide +kernel) h_3 ?_
      refine z_iconst (M := M_X9_isLetter) dX9_isLetter_24 ?_
      refine z_goto (M := M_X9_isLetter) (tgt := 29) dX9_isLetter_25 (by decide) ?_
      exact z_st (by rw [zv_t (p := ((65 ≤ (w32 c_0)) ∧ ((w32 c_0) ≤ 90)) ∨ ((97 ≤ (w32 c_0)) ∧ ((w32 c_0) ≤ 122))) (Or.inl ⟨h_2, h_3⟩)]) J_1
    · refine z_icmp_le_f (M := M_X9_isLetter) (tgt := 24) dX9_isLetter_9 (by decide) rfl (by decide +kernel) (Int.not_le.mp h_3) ?_
      refine z_iload_n (M := M_X9_isLetter) dX9_isLetter_12 rfl ?_
      refine z_bipush (M := M_X9_isLetter) dX9_isLetter_13 (by decide +kernel) ?_
      by_cases h_4 : 97 ≤ (w32 c_0)
      · refine z_icmp_lt_f (M := M_X9_isLetter) (tgt := 28) dX9_isLetter_15 (by decide) rfl (by decide +kernel) h_4 ?_
        refine z_iload_n (M := M_X9_isLetter) dX9_isLetter_18 rfl ?_
        refine z_bipush (M := M_X9_isLetter) dX9_isLetter_19 (by decide +kernel) ?_
        by_cases h_5 : (w32 c_0) ≤ 122
        · refine z_icmp_gt_f (M := M_X9_isLetter) (tgt := 28) dX9_isLetter_21 (by decide) rfl (by decide +kernel) h_5 ?_
          refine z_iconst (M := M_X9_isLetter) dX9_isLetter_24 ?_
          refine z_goto (M := M_X9_isLetter) (tgt := 29) dX9_isLetter_25 (by decide) ?_
          exact z_st (by rw [zv_t (p := ((65 ≤ (w32 c_0)) ∧ ((w32 c_0) ≤ 90)) ∨ ((97 ≤ (w32 c_0)) ∧ ((w32 c_0) ≤ 122))) (Or.inr ⟨h_4, h_5⟩)]) J_1
        · refine z_icmp_gt_t (M := M_X9_isLetter) (tgt := 28) dX9_isLetter_21 (by decide) rfl (by decide +kernel) (Int.not_le.mp h_5) ?_
          refine z_iconst (M := M_X9_isLetter) dX9_isLetter_28 ?_
          exact z_st (by rw [zv_f (p := ((65 ≤ (w32 c_0)) ∧ ((w32 c_0) ≤ 90)) ∨ ((97 ≤ (w32 c_0)) ∧ ((w32 c_0) ≤ 122))) (fun q => q.elim (fun q => h_3 q.2) (fun q => h_5 q.2))]) J_1
      · refine z_icmp_lt_t (M := M_X9_isLetter) (tgt := 28) dX9_isLetter_15 (by decide) rfl (by decide +kernel) (Int.not_le.mp h_4) ?_
        refine z_iconst (M := M_X9_isLetter) dX9_isLetter_28 ?_
        exact z_st (by rw [zv_f (p := ((65 ≤ (w32 c_0)) ∧ ((w32 c_0) ≤ 90)) ∨ ((97 ≤ (w32 c_0)) ∧ ((w32 c_0) ≤ 122))) (fun q => q.elim (fun q => h_3 q.2) (fun q => h_4 q.1))]) J_1
  · refine z_icmp_lt_t (M := M_X9_isLetter) (tgt := 12) dX9_isLetter_3 (by decide) rfl (by decide +kernel) (Int.not_le.mp h_2) ?_
    refine z_iload_n (M := M_X9_isLetter) dX9_isLetter_12 rfl ?_
    refine z_bipush (M := M_X9_isLetter) dX9_isLetter_13 (by decide +kernel) ?_
    by_cases h_6 : 97 ≤ (w32 c_0)
    · refine z_icmp_lt_f (M := M_X9_isLetter) (tgt := 28) dX9_isLetter_15 (by decide) rfl (by decide +kernel) h_6 ?_
      refine z_iload_n (M := M_X9_isLetter) dX9_isLetter_18 rfl ?_
      refine z_bipush (M := M_X9_isLetter) dX9_isLetter_19 (by decide +kernel) ?_
      by_cases h_7 : (w32 c_0) ≤ 122
      · refine z_icmp_gt_f (M := M_X9_isLetter) (tgt := 28) dX9_isLetter_21 (by decide) rfl (by decide +kernel) h_7 ?_
        refine z_iconst (M := M_X9_isLetter) dX9_isLetter_24 ?_
        refine z_goto (M := M_X9_isLetter) (tgt := 29) dX9_isLetter_25 (by decide) ?_
        exact z_st (by rw [zv_t (p := ((65 ≤ (w32 c_0)) ∧ ((w32 c_0) ≤ 90)) ∨ ((97 ≤ (w32 c_0)) ∧ ((w32 c_0) ≤ 122))) (Or.inr ⟨h_6, h_7⟩)]) J_1
      · refine z_icmp_gt_t (M := M_X9_isLetter) (tgt := 28) dX9_isLetter_21 (by decide) rfl (by decide +kernel) (Int.not_le.mp h_7) ?_
        refine z_iconst (M := M_X9_isLetter) dX9_isLetter_28 ?_
        exact z_st (by rw [zv_f (p := ((65 ≤ (w32 c_0)) ∧ ((w32 c_0) ≤ 90)) ∨ ((97 ≤ (w32 c_0)) ∧ ((w32 c_0) ≤ 122))) (fun q => q.elim (fun q => h_2 q.1) (fun q => h_7 q.2))]) J_1
    · refine z_icmp_lt_t (M := M_X9_isLetter) (tgt := 28) dX9_isLetter_15 (by decide) rfl (by decide +kernel) (Int.not_le.mp h_6) ?_
      refine z_iconst (M := M_X9_isLetter) dX9_isLetter_28 ?_
      exact z_st (by rw [zv_f (p := ((65 ≤ (w32 c_0)) ∧ ((w32 c_0) ≤ 90)) ∨ ((97 ≤ (w32 c_0)) ∧ ((w32 c_0) ≤ 122))) (fun q => q.elim (fun q => h_2 q.1) (fun q => h_6 q.1))]) J_1
theorem c_X9_unexpected (hl : l.stackTraces = false) {σ : SG} {r : Bool} {σ' : SG}  (H : fW_unexpected σ = some (r, σ')) : en_S l E M_X9_unexpected 2 0 0 [vr 167] σ (pS (some (zv r)) σ') := by
  unfold fW_unexpected at H
  refine z_mk (lv := [some (vr 167), none, none]) m_X9_unexpected rfl hl (Nat.le_of_ble_eq_true rfl) rfl ?_
  refine z_aload_n (M := M_X9_unexpected) dX9_unexpected_0 rfl ?_
  refine z_aload_n (M := M_X9_unexpected) dX9_unexpected_1 rfl ?_
  refine z_getI (M := M_X9_unexpected) (ci := 12) (C := RX9) (T := TX9) (Nf := 12) (ty := tyX9) cl12 dX9_unexpected_2 ly_167 6 (by decide) t_111 rfl rfl ?_
  obtain ⟨x_2, hc_1, H⟩ := bd_e H
  refine z_callV (M := M_X9_unexpected) (M' := M_X9_signAt) (as := [vi (σ kW_at 0)]) (rest := []) rfl rfl dX9_unexpected_5 m_X9_signAt t_783 t_785 s_5 (c_X9_signAt hl  hc_1) rfl rfl ly_167 rfl (Nat.le_of_ble_eq_true rfl) (Nat.le_of_ble_eq_true rfl) (Nat.le_of_ble_eq_true rfl) (Nat.le_of_ble_eq_true rfl) ?_
  refine z_st (st' := [vi x_2]) rfl ?_
  refine z_istore_n (M := M_X9_unexpected) (lv' := [some (vr 167), some (vi x_2), none]) dX9_unexpected_8 (Nat.le_of_ble_eq_true rfl) rfl rfl ?_
  have J_3 : YY l E M_X9_unexpected 2 0 0 (pS (some (zv r)) σ') 50 [some (vr 167), some (vi x_2), none] [zv (decide (((((((w32 x_2) < 0) ∨ ((fW_isLetter x_2) = true)) ∨ ((fW_beginsNumber x_2) = true)) ∨ ((w32 x_2) = 40)) ∨ ((w32 x_2) = 41)) ∨ ((w32 x_2) = 44)))] σ 0 0 := by
    obtain ⟨x_4, x_4_e, H⟩ := lt_e H
    refine z_st (congrArg (fun z => zv z :: []) x_4_e) ?_
    refine z_zstore_n (M := M_X9_unexpected) (lv' := [some (vr 167), some (vi x_2), some (zv x_4)]) dX9_unexpected_50 (Nat.le_of_ble_eq_true rfl) rfl rfl ?_
    refine z_aload_n (M := M_X9_unexpected) dX9_unexpected_51 rfl ?_
    have J_5 : YY l E M_X9_unexpected 2 0 0 (pS (some (zv r)) σ') 61 [some (vr 167), some (vi x_2), some (zv x_4)] [vi (if x_4 = true then 3 else 1), vr 167] σ 0 0 := by
      obtain ⟨⟨x_8, σ_7⟩, hc_6, H⟩ := bd_e H
      refine z_callV (M := M_X9_unexpected) (M' := M_X9_fail) (as := [vi (if x_4 = true then 3 else 1)]) (rest := []) rfl rfl dX9_unexpected_61 m_X9_fail t_797 t_799 s_7 (c_X9_fail hl  hc_6) rfl rfl ly_167 rfl (Nat.le_of_ble_eq_true rfl) (Nat.le_of_ble_eq_true rfl) (Nat.le_of_ble_eq_true rfl) (Nat.le_of_ble_eq_true rfl) ?_
      refine z_st (st' := [zv x_8]) rfl ?_
      cases H
      exact z_zret (M := M_X9_unexpected) dX9_unexpected_64 rfl (Nat.le_of_ble_eq_true rfl) (Nat.le_of_ble_eq_true rfl) ⟨rfl, rfl⟩
    refine z_zload_n (M := M_X9_unexpected) dX9_unexpected_52 rfl ?_
    by_cases h_9 : x_4 = true
    · refine z_zeq_f (M := M_X9_unexpected) (tgt := 60) dX9_unexpected_53 (by decide) h_9 ?_
      refine z_iconst (M := M_X9_unexpected) dX9_unexpected_56 ?_
      refine z_goto (M := M_X9_unexpected) (tgt := 61) dX9_unexpected_57 (by decide) ?_
      exact z_st (by rw [if_pos (c := x_4 = true) h_9]) J_5
    · refine z_zeq_t (M := M_X9_unexpected) (tgt := 60) dX9_unexpected_53 (by decide) h_9 ?_
      refine z_iconst (M := M_X9_unexpected) dX9_unexpected_60 ?_
      exact z_st (by rw [if_neg (c := x_4 = true) h_9]) J_5
  refine z_iload_n (M := M_X9_unexpected) dX9_unexpected_9 rfl ?_
  by_cases h_10 : (w32 x_2) < 0
  · refine z_if_lt_t (M := M_X9_unexpected) (tgt := 45) dX9_unexpected_10 (by decide) rfl h_10 ?_
    refine z_iconst (M := M_X9_unexpected) dX9_unexpected_45 ?_
    refine z_goto (M := M_X9_unexpected) (tgt := 50) dX9_unexpected_46 (by decide) ?_
    exact z_st (by rw [zv_t (p := ((((((w32 x_2) < 0) ∨ ((fW_isLetter x_2) = true)) ∨ ((fW_beginsNumber x_2) = true)) ∨ ((w32 x_2) = 40)) ∨ ((w32 x_2) = 41)) ∨ ((w32 x_2) = 44)) (Or.inl (Or.inl (Or.inl (Or.inl (Or.inl h_10)))))]) J_3
  · refine z_if_lt_f (M := M_X9_unexpected) (tgt := 45) dX9_unexpected_10 (by decide) rfl (Int.not_lt.mp h_10) ?_
    refine z_iload_n (M := M_X9_unexpected) dX9_unexpected_13 rfl ?_
    refine z_callS (M := M_X9_unexpected) (M' := M_X9_isLetter) (as := [vi x_2]) (rest := []) rfl rfl dX9_unexpected_14 m_X9_isLetter t_787 t_788 (c_X9_isLetter hl  rfl) rfl rfl (Nat.le_of_ble_eq_true rfl) (Nat.le_of_ble_eq_true rfl) (Nat.le_of_ble_eq_true rfl) (Nat.le_of_ble_eq_true rfl) ?_
    refine z_st (st' := [zv (fW_isLetter x_2)]) rfl ?_
    by_cases h_11 : (fW_isLetter x_2) = true
    · refine z_zne_t (M := M_X9_unexpected) (tgt := 45) dX9_unexpected_17 (by decide) h_11 ?_
      refine z_iconst (M := M_X9_unexpected) dX9_unexpected_45 ?_
      refine z_goto (M := M_X9_unexpected) (tgt := 50) dX9_unexpected_46 (by decide) ?_
      exact z_st (by rw [zv_t (p := ((((((w32 x_2) < 0) ∨ ((fW_isLetter x_2) = true)) ∨ ((fW_beginsNumber x_2) = true)) ∨ ((w32 x_2) = 40)) ∨ ((w32 x_2) = 41)) ∨ ((w32 x_2) = 44)) (Or.inl (Or.inl (Or.inl (Or.inl (Or.inr h_11)))))]) J_3
    · refine z_zne_f (M := M_X9_unexpected) (tgt := 45) dX9_unexpected_17 (by decide) h_11 ?_
      refine z_iload_n (M := M_X9_unexpected) dX9_unexpected_20 rfl ?_
      refine z_callS (M := M_X9_unexpected) (M' := M_X9_beginsNumber) (as := [vi x_2]) (rest := []) rfl rfl dX9_unexpected_21 m_X9_beginsNumber t_794 t_795 (c_X9_beginsNumber hl  rfl) rfl rfl (Nat.le_of_ble_eq_true rfl) (Nat.le_of_ble_eq_true rfl) (Nat.le_of_ble_eq_true rfl) (Nat.le_of_ble_eq_true rfl) ?_
      refine z_st (st' := [zv (fW_beginsNumber x_2)]) rfl ?_
      by_cases h_12 : (fW_beginsNumber x_2) = true
      · refine z_zne_t (M := M_X9_unexpected) (tgt := 45) dX9_unexpected_24 (by decide) h_12 ?_
        refine z_iconst (M := M_X9_unexpected) dX9_unexpected_45 ?_
        refine z_goto (M := M_X9_unexpected) (tgt := 50) dX9_unexpected_46 (by decide) ?_
        exact z_st (by rw [zv_t (p := ((((((w32 x_2) < 0) ∨ ((fW_isLetter x_2) = true)) ∨ ((fW_beginsNumber x_2) = true)) ∨ ((w32 x_2) = 40)) ∨ ((w32 x_2) = 41)) ∨ ((w32 x_2) = 44)) (Or.inl (Or.inl (Or.inl (Or.inr h_12))))]) J_3
      · refine z_zne_f (M := M_X9_unexpected) (tgt := 45) dX9_unexpected_24 (by decide) h_12 ?_
        refine z_iload_n (M := M_X9_unexpected) dX9_unexpected_27 rfl ?_
        refine z_bipush (M := M_X9_unexpected) dX9_unexpected_28 (by decide +kernel) ?_
        by_cases h_13 : (w32 x_2) = 40
        · refine z_icmp_eq_t (M := M_X9_unexpected) (tgt := 45) dX9_unexpected_30 (by decide) rfl (by decide +kernel) h_13 ?_
          refine z_iconst (M := M_X9_unexpected) dX9_unexpected_45 ?_
          refine z_goto (M := M_X9_unexpected) (tgt := 50) dX9_unexpected_46 (by decide) ?_
          exact z_st (by rw [zv_t (p := ((((((w32 x_2) < 0) ∨ ((fW_isLetter x_2) = true)) ∨ ((fW_beginsNumber x_2) = true)) ∨ ((w32 x_2) = 40)) ∨ ((w32 x_2) = 41)) ∨ ((w32 x_2) = 44)) (Or.inl (Or.inl (Or.inr h_13)))]) J_3
        · refine z_icmp_eq_f (M := M_X9_unexpected) (tgt := 45) dX9_unexpected_30 (by decide) rfl (by decide +kernel) h_13 ?_
          refine z_iload_n (M := M_X9_unexpected) dX9_unexpected_33 rfl ?_
          refine z_bipush (M := M_X9_unexpected) dX9_unexpected_34 (by decide +kernel) ?_
          by_cases h_14 : (w32 x_2) = 41
          · refine z_icmp_eq_t (M := M_X9_unexpected) (tgt := 45) dX9_unexpected_36 (by decide) rfl (by decide +kernel) h_14 ?_
            refine z_iconst (M := M_X9_unexpected) dX9_unexpected_45 ?_
            refine z_goto (M := M_X9_unexpected) (tgt := 50) dX9_unexpected_46 (by decide) ?_
            exact z_st (by rw [zv_t (p := ((((((w32 x_2) < 0) ∨ ((fW_isLetter x_2) = true)) ∨ ((fW_beginsNumber x_2) = true)) ∨ ((w32 x_2) = 40)) ∨ ((w32 x_2) = 41)) ∨ ((w32 x_2) = 44)) (Or.inl (Or.inr h_14))]) J_3
          · refine z_icmp_eq_f (M := M_X9_unexpected) (tgt := 45) dX9_unexpected_36 (by decide) rfl (by decide +kernel) h_14 ?_
            refine z_iload_n (M := M_X9_unexpected) dX9_unexpected_39 rfl ?_
            refine z_bipush (M := M_X9_unexpected) dX9_unexpected_40 (by decide +kernel) ?_
            by_cases h_15 : (w32 x_2) = 44
            · refine z_icmp_ne_f (M := M_X9_unexpected) (tgt := 49) dX9_unexpected_42 (by decide) rfl (by decide +kernel) h_15 ?_
              refine z_iconst (M := M_X9_unexpected) dX9_unexpected_45 ?_
              refine z_goto (M := M_X9_unexpected) (tgt := 50) dX9_unexpected_46 (by decide) ?_
              exact z_st (by rw [zv_t (p := ((((((w32 x_2) < 0) ∨ ((fW_isLetter x_2) = true)) ∨ ((fW_beginsNumber x_2) = true)) ∨ ((w32 x_2) = 40)) ∨ ((w32 x_2) = 41)) ∨ ((w32 x_2) = 44)) (Or.inr h_15)]) J_3
            · refine z_icmp_ne_t (M := M_X9_unexpected) (tgt := 49) dX9_unexpected_42 (by decide) rfl (by decide +kernel) h_15 ?_
              refine z_iconst (M := M_X9_unexpected) dX9_unexpected_49 ?_
              exact z_st (by rw [zv_f (p := ((((((w32 x_2) < 0) ∨ ((fW_isLetter x_2) = true)) ∨ ((fW_beginsNumber x_2) = true)) ∨ ((w32 x_2) = 40)) ∨ ((w32 x_2) = 41)) ∨ ((w32 x_2) = 44)) (fun q => q.elim (fun q => q.elim (fun q => q.elim (fun q => q.elim (fun q => q.elim h_10 h_11) h_12) h_13) h_14) h_15)]) J_3
theorem c_X9_goOnBehindItem (hl : l.stackTraces = false) {σ : SG} {r : Bool} {σ' : SG}  (H : fW_goOnBehindItem σ = some (r, σ')) : en_S l E M_X9_goOnBehindItem 3 0 0 [vr 167] σ (pS (some (zv r)) σ') := by
  unfold fW_goOnBehindItem at H
  refine z_mk (lv := [some (vr 167), none, none]) m_X9_goOnBehindItem rfl hl (Nat.le_of_ble_eq_true rfl) rfl ?_
  obtain ⟨rl_5, hw_2, hk_3, hk_4⟩ := bx_e H
  have J_43 : ∀ σ_42, rl_5 = (.inl σ_42) → YY l E M_X9_goOnBehindItem 3 0 0 (pS (some (zv r)) σ') 105 [some (vr 167), none, none] [] σ_42 0 0 := by
    intro σ_42 e
    have H := hk_3 _ e
    refine z_zconst (M := M_X9_goOnBehindItem) (b := true) dX9_goOnBehindItem_105 rfl ?_
    cases H
    exact z_zret (M := M_X9_goOnBehindItem) dX9_goOnBehindItem_106 rfl (Nat.le_of_ble_eq_true rfl) (Nat.le_of_ble_eq_true rfl) ⟨rfl, rfl⟩
  refine whl_go hw_2 (fun σ_1 => YY l E M_X9_goOnBehindItem 3 0 0 (pS (some (zv r)) σ') 0 [some (vr 167), none, none] [] σ_1 0 0) ?_
  rintro σ_1 o_6 H K_7 K_8
  refine z_aload_n (M := M_X9_goOnBehindItem) dX9_goOnBehindItem_0 rfl ?_
  refine z_getI (M := M_X9_goOnBehindItem) (ci := 12) (C := RX9) (T := TX9) (Nf := 12) (ty := tyX9) cl12 dX9_goOnBehindItem_1 ly_167 7 (by decide) t_112 rfl rfl ?_
  rcases if_e H with ⟨h_9, H⟩ | ⟨h_9, H⟩
  · refine z_if_le_f (M := M_X9_goOnBehindItem) (tgt := 105) dX9_goOnBehindItem_4 (by decide) rfl h_9 ?_
    refine z_aload_n (M := M_X9_goOnBehindItem) dX9_goOnBehindItem_7 rfl ?_
    obtain ⟨σ_11, hc_10, H⟩ := bd_e H
    refine z_callV (M := M_X9_goOnBehindItem) (M' := M_X9_skipBlanks) (as := []) (rest := []) rfl rfl dX9_goOnBehindItem_8 m_X9_skipBlanks t_776 t_778 s_4 (c_X9_skipBlanks hl  hc_10) rfl rfl ly_167 rfl (Nat.le_of_ble_eq_true rfl) (Nat.le_of_ble_eq_true rfl) (Nat.le_of_ble_eq_true rfl) (Nat.le_of_ble_eq_true rfl) ?_
    refine z_st (st' := []) rfl ?_
    refine z_aload_n (M := M_X9_goOnBehindItem) dX9_goOnBehindItem_11 rfl ?_
    refine z_getR (M := M_X9_goOnBehindItem) (ci := 12) (C := RX9) (T := TX9) (Nf := 12) (ty := tyX9) cl12 dX9_goOnBehindItem_12 ly_167 2 (by decide) t_107 rfl ?_
    refine z_aload_n (M := M_X9_goOnBehindItem) dX9_goOnBehindItem_15 rfl ?_
    refine z_getI (M := M_X9_goOnBehindItem) (ci := 12) (C := RX9) (T := TX9) (Nf := 12) (ty := tyX9) cl12 dX9_goOnBehindItem_16 ly_167 7 (by decide) t_112 rfl rfl ?_
    refine z_iconst (M := M_X9_goOnBehindItem) dX9_goOnBehindItem_19 ?_
    refine z_isub (M := M_X9_goOnBehindItem) dX9_goOnBehindItem_20 ?_
    obtain ⟨x_12, x_12_e, hi_13, H⟩ := rd_e H
    refine z_iald (M := M_X9_goOnBehindItem) dX9_goOnBehindItem_21 ly_168 rfl rfl rfl hi_13 x_12_e ?_
    refine z_istore_n (M := M_X9_goOnBehindItem) (lv' := [some (vr 167), some (vi x_12), none]) dX9_goOnBehindItem_22 (Nat.le_of_ble_eq_true rfl) rfl rfl ?_
    refine z_aload_n (M := M_X9_goOnBehindItem) dX9_goOnBehindItem_23 rfl ?_
    refine z_aload_n (M := M_X9_goOnBehindItem) dX9_goOnBehindItem_24 rfl ?_
    refine z_getI (M := M_X9_goOnBehindItem) (ci := 12) (C := RX9) (T := TX9) (Nf := 12) (ty := tyX9) cl12 dX9_goOnBehindItem_25 ly_167 6 (by decide) t_111 rfl rfl ?_
    obtain ⟨x_15, hc_14, H⟩ := bd_e H
    refine z_callV (M := M_X9_goOnBehindItem) (M' := M_X9_signAt) (as := [vi (σ_11 kW_at 0)]) (rest := []) rfl rfl dX9_goOnBehindItem_28 m_X9_signAt t_783 t_785 s_5 (c_X9_signAt hl  hc_14) rfl rfl ly_167 rfl (Nat.le_of_ble_eq_true rfl) (Nat.le_of_ble_eq_true rfl) (Nat.le_of_ble_eq_true rfl) (Nat.le_of_ble_eq_true rfl) ?_
    refine z_st (st' := [vi x_15]) rfl ?_
    refine z_istore_n (M := M_X9_goOnBehindItem) (lv' := [some (vr 167), some (vi x_12), some (vi x_15)]) dX9_goOnBehindItem_31 (Nat.le_of_ble_eq_true rfl) rfl rfl ?_
    rcases if_e H with ⟨h_34, H⟩ | ⟨h_34, H⟩
    · have J_35 : YY l E M_X9_goOnBehindItem 3 0 0 (pS (some (zv r)) σ') 43 [some (vr 167), some (vi x_12), some (vi x_15)] [] σ_11 0 0 := by
        refine z_aload_n (M := M_X9_goOnBehindItem) dX9_goOnBehindItem_43 rfl ?_
        refine z_dup (M := M_X9_goOnBehindItem) dX9_goOnBehindItem_44 rfl ?_
        refine z_getI (M := M_X9_goOnBehindItem) (ci := 12) (C := RX9) (T := TX9) (Nf := 12) (ty := tyX9) cl12 dX9_goOnBehindItem_45 ly_167 6 (by decide) t_111 rfl rfl ?_
        refine z_iconst (M := M_X9_goOnBehindItem) dX9_goOnBehindItem_48 ?_
        refine z_iadd (M := M_X9_goOnBehindItem) dX9_goOnBehindItem_49 ?_
        obtain ⟨σ_16, σ_16_e, H⟩ := wf_e H
        refine z_putI (M := M_X9_goOnBehindItem) (ci := 12) (C := RX9) (T := TX9) (Nf := 12) (ty := tyX9) cl12 dX9_goOnBehindItem_50 ly_167 6 (by decide) t_111 rfl rfl rfl rfl σ_16_e ?_
        refine z_zconst (M := M_X9_goOnBehindItem) (b := true) dX9_goOnBehindItem_53 rfl ?_
        have H := congrArg some (hk_4 _ ((K_8 _ (Option.some.inj H).symm).symm))
        cases H
        exact z_zret (M := M_X9_goOnBehindItem) dX9_goOnBehindItem_54 rfl (Nat.le_of_ble_eq_true rfl) (Nat.le_of_ble_eq_true rfl) ⟨rfl, rfl⟩
      refine z_iload_n (M := M_X9_goOnBehindItem) dX9_goOnBehindItem_32 rfl ?_
      refine z_bipush (M := M_X9_goOnBehindItem) dX9_goOnBehindItem_33 (by decide +kernel) ?_
      by_cases h_37 : (w32 x_15) = 44
      · refine z_icmp_ne_f (M := M_X9_goOnBehindItem) (tgt := 55) dX9_goOnBehindItem_35 (by decide) rfl (by decide +kernel) h_37 ?_
        refine z_iload_n (M := M_X9_goOnBehindItem) dX9_goOnBehindItem_38 rfl ?_
        refine z_iconst (M := M_X9_goOnBehindItem) dX9_goOnBehindItem_39 ?_
        by_cases h_38 : ¬ (w32 x_12) = 1
        · refine z_icmp_eq_f (M := M_X9_goOnBehindItem) (tgt := 55) dX9_goOnBehindItem_40 (by decide) rfl (by decide +kernel) h_38 ?_
          exact J_35
        · refine z_icmp_eq_t (M := M_X9_goOnBehindItem) (tgt := 55) dX9_goOnBehindItem_40 (by decide) rfl (by decide +kernel) (Decidable.not_not.mp h_38) ?_
          exact absurd h_34 (fun q => h_38 q.2)
      · refine z_icmp_ne_t (M := M_X9_goOnBehindItem) (tgt := 55) dX9_goOnBehindItem_35 (by decide) rfl (by decide +kernel) h_37 ?_
        exact absurd h_34 (fun q => h_37 q.1)
    · have J_36 : YY l E M_X9_goOnBehindItem 3 0 0 (pS (some (zv r)) σ') 55 [some (vr 167), some (vi x_12), some (vi x_15)] [] σ_11 0 0 := by
        refine z_iload_n (M := M_X9_goOnBehindItem) dX9_goOnBehindItem_55 rfl ?_
        refine z_bipush (M := M_X9_goOnBehindItem) dX9_goOnBehindItem_56 (by decide +kernel) ?_
        rcases if_e H with ⟨h_17, H⟩ | ⟨h_17, H⟩
        · refine z_icmp_eq_f (M := M_X9_goOnBehindItem) (tgt := 66) dX9_goOnBehindItem_58 (by decide) rfl (by decide +kernel) h_17 ?_
          refine z_aload_n (M := M_X9_goOnBehindItem) dX9_goOnBehindItem_61 rfl ?_
          obtain ⟨⟨x_20, σ_19⟩, hc_18, H⟩ := bd_e H
          refine z_callV (M := M_X9_goOnBehindItem) (M' := M_X9_unexpected) (as := []) (rest := []) rfl rfl dX9_goOnBehindItem_62 m_X9_unexpected t_790 t_792 s_6 (c_X9_unexpected hl  hc_18) rfl rfl ly_167 rfl (Nat.le_of_ble_eq_true rfl) (Nat.le_of_ble_eq_true rfl) (Nat.le_of_ble_eq_true rfl) (Nat.le_of_ble_eq_true rfl) ?_
          refine z_st (st' := [zv x_20]) rfl ?_
          have H := congrArg some (hk_4 _ ((K_8 _ (Option.some.inj H).symm).symm))
          cases H
          exact z_zret (M := M_X9_goOnBehindItem) dX9_goOnBehindItem_65 rfl (Nat.le_of_ble_eq_true rfl) (Nat.le_of_ble_eq_true rfl) ⟨rfl, rfl⟩
        · refine z_icmp_eq_t (M := M_X9_goOnBehindItem) (tgt := 66) dX9_goOnBehindItem_58 (by decide) rfl (by decide +kernel) (Decidable.not_not.mp h_17) ?_
          refine z_aload_n (M := M_X9_goOnBehindItem) dX9_goOnBehindItem_66 rfl ?_
          refine z_dup (M := M_X9_goOnBehindItem) dX9_goOnBehindItem_67 rfl ?_
          refine z_getI (M := M_X9_goOnBehindItem) (ci := 12) (C := RX9) (T := TX9) (Nf := 12) (ty := tyX9) cl12 dX9_goOnBehindItem_68 ly_167 6 (by decide) t_111 rfl rfl ?_
          refine z_iconst (M := M_X9_goOnBehindItem) dX9_goOnBehindItem_71 ?_
          refine z_iadd (M := M_X9_goOnBehindItem) dX9_goOnBehindItem_72 ?_
          obtain ⟨σ_21, σ_21_e, H⟩ := wf_e H
          refine z_putI (M := M_X9_goOnBehindItem) (ci := 12) (C := RX9) (T := TX9) (Nf := 12) (ty := tyX9) cl12 dX9_goOnBehindItem_73 ly_167 6 (by decide) t_111 rfl rfl rfl rfl σ_21_e ?_
          refine z_aload_n (M := M_X9_goOnBehindItem) dX9_goOnBehindItem_76 rfl ?_
          refine z_dup (M := M_X9_goOnBehindItem) dX9_goOnBehindItem_77 rfl ?_
          refine z_getI (M := M_X9_goOnBehindItem) (ci := 12) (C := RX9) (T := TX9) (Nf := 12) (ty := tyX9) cl12 dX9_goOnBehindItem_78 ly_167 7 (by decide) t_112 rfl rfl ?_
          refine z_iconst (M := M_X9_goOnBehindItem) dX9_goOnBehindItem_81 ?_
          refine z_isub (M := M_X9_goOnBehindItem) dX9_goOnBehindItem_82 ?_
          obtain ⟨σ_22, σ_22_e, H⟩ := wf_e H
          refine z_putI (M := M_X9_goOnBehindItem) (ci := 12) (C := RX9) (T := TX9) (Nf := 12) (ty := tyX9) cl12 dX9_goOnBehindItem_83 ly_167 7 (by decide) t_112 rfl rfl rfl rfl σ_22_e ?_
          obtain ⟨v_26, he_23, hk_24⟩ := bd_e H
          have J_33 : ∀ σ_31, v_26 = σ_31 → YY l E M_X9_goOnBehindItem 3 0 0 (pS (some (zv r)) σ') 102 [some (vr 167), some (vi x_12), some (vi x_15)] [] σ_31 0 0 := by
            intro σ_31 e
            have H := hk_24
            rw [e] at H
            refine z_goto (M := M_X9_goOnBehindItem) (tgt := 0) dX9_goOnBehindItem_102 (by decide) ?_
            refine z_le (lv' := [some (vr 167), none, none]) ⟨Or.inr rfl, Or.inl rfl, Or.inl rfl, trivial⟩ ?_
            exact K_7 _ (Option.some.inj H).symm
          have H := he_23
          refine z_iload_n (M := M_X9_goOnBehindItem) dX9_goOnBehindItem_86 rfl ?_
          refine z_bipush (M := M_X9_goOnBehindItem) dX9_goOnBehindItem_87 (by decide +kernel) ?_
          rcases if_e H with ⟨h_27, H⟩ | ⟨h_27, H⟩
          · refine z_icmp_ne_f (M := M_X9_goOnBehindItem) (tgt := 102) dX9_goOnBehindItem_89 (by decide) rfl (by decide +kernel) h_27 ?_
            refine z_aload_n (M := M_X9_goOnBehindItem) dX9_goOnBehindItem_92 rfl ?_
            refine z_dup (M := M_X9_goOnBehindItem) dX9_goOnBehindItem_93 rfl ?_
            refine z_getI (M := M_X9_goOnBehindItem) (ci := 12) (C := RX9) (T := TX9) (Nf := 12) (ty := tyX9) cl12 dX9_goOnBehindItem_94 ly_167 8 (by decide) t_113 rfl rfl ?_
            refine z_iconst (M := M_X9_goOnBehindItem) dX9_goOnBehindItem_97 ?_
            refine z_isub (M := M_X9_goOnBehindItem) dX9_goOnBehindItem_98 ?_
            obtain ⟨σ_28, σ_28_e, H⟩ := wf_e H
            refine z_putI (M := M_X9_goOnBehindItem) (ci := 12) (C := RX9) (T := TX9) (Nf := 12) (ty := tyX9) cl12 dX9_goOnBehindItem_99 ly_167 8 (by decide) t_113 rfl rfl rfl rfl σ_28_e ?_
            exact J_33 _ (Option.some.inj H).symm
          · refine z_icmp_ne_t (M := M_X9_goOnBehindItem) (tgt := 102) dX9_goOnBehindItem_89 (by decide) rfl (by decide +kernel) h_27 ?_
            exact J_33 _ (Option.some.inj H).symm
      refine z_iload_n (M := M_X9_goOnBehindItem) dX9_goOnBehindItem_32 rfl ?_
      refine z_bipush (M := M_X9_goOnBehindItem) dX9_goOnBehindItem_33 (by decide +kernel) ?_
      by_cases h_39 : (w32 x_15) = 44
      · refine z_icmp_ne_f (M := M_X9_goOnBehindItem) (tgt := 55) dX9_goOnBehindItem_35 (by decide) rfl (by decide +kernel) h_39 ?_
        refine z_iload_n (M := M_X9_goOnBehindItem) dX9_goOnBehindItem_38 rfl ?_
        refine z_iconst (M := M_X9_goOnBehindItem) dX9_goOnBehindItem_39 ?_
        by_cases h_40 : ¬ (w32 x_12) = 1
        · refine z_icmp_eq_f (M := M_X9_goOnBehindItem) (tgt := 55) dX9_goOnBehindItem_40 (by decide) rfl (by decide +kernel) h_40 ?_
          exact absurd ⟨h_39, h_40⟩ h_34
        · refine z_icmp_eq_t (M := M_X9_goOnBehindItem) (tgt := 55) dX9_goOnBehindItem_40 (by decide) rfl (by decide +kernel) (Decidable.not_not.mp h_40) ?_
          exact J_36
      · refine z_icmp_ne_t (M := M_X9_goOnBehindItem) (tgt := 55) dX9_goOnBehindItem_35 (by decide) rfl (by decide +kernel) h_39 ?_
        exact J_36
  · refine z_if_le_t (M := M_X9_goOnBehindItem) (tgt := 105) dX9_goOnBehindItem_4 (by decide) rfl (Int.not_lt.mp h_9) ?_
    exact J_43 _ (K_8 _ (Option.some.inj H).symm).symm
theorem c_X6_addPoint (hl : l.stackTraces = false) {σ : SG} {this_0 : Nat} {px_0 : Int} {py_0 : Int} {r : Bool} {σ' : SG} (h_this : isS this_0) (H : fA_addPoint σ this_0 px_0 py_0 = some (r, σ')) : en_S l E M_X6_addPoint 1 0 0 [vr this_0, vi px_0, vi py_0] σ (pS (some (zv r)) σ') := by
  unfold fA_addPoint at H
  refine z_mk (lv := [some (vr this_0), some (vi px_0), some (vi py_0)]) m_X6_addPoint rfl hl (Nat.le_of_ble_eq_true rfl) rfl ?_
  refine z_aload_n (M := M_X6_addPoint) dX6_addPoint_0 rfl ?_
  refine z_getI (M := M_X6_addPoint) (ci := 9) (C := RX6) (T := TX6) (Nf := 5) (ty := tyX6) cl9 dX6_addPoint_1 (ly_S h_this) 4 (by decide) t_83 rfl rfl ?_
  refine z_sipush (M := M_X6_addPoint) dX6_addPoint_4 (by decide +kernel) ?_
  rcases if_e H with ⟨h_1, H⟩ | ⟨h_1, H⟩
  · refine z_icmp_lt_f (M := M_X6_addPoint) (tgt := 12) dX6_addPoint_7 (by decide) rfl (by decide +kernel) h_1 ?_
    refine z_zconst (M := M_X6_addPoint) (b := false) dX6_addPoint_10 rfl ?_
    cases H
    exact z_zret (M := M_X6_addPoint) dX6_addPoint_11 rfl (Nat.le_of_ble_eq_true rfl) (Nat.le_of_ble_eq_true rfl) ⟨rfl, rfl⟩
  · refine z_icmp_lt_t (M := M_X6_addPoint) (tgt := 12) dX6_addPoint_7 (by decide) rfl (by decide +kernel) (Int.not_le.mp h_1) ?_
    refine z_aload_n (M := M_X6_addPoint) dX6_addPoint_12 rfl ?_
    refine z_getR (M := M_X6_addPoint) (ci := 9) (C := RX6) (T := TX6) (Nf := 5) (ty := tyX6) cl9 dX6_addPoint_13 (ly_S h_this) 1 (by decide) t_58 rfl ?_
    refine z_aload_n (M := M_X6_addPoint) dX6_addPoint_16 rfl ?_
    refine z_getI (M := M_X6_addPoint) (ci := 9) (C := RX6) (T := TX6) (Nf := 5) (ty := tyX6) cl9 dX6_addPoint_17 (ly_S h_this) 4 (by decide) t_83 rfl rfl ?_
    refine z_iload_n (M := M_X6_addPoint) dX6_addPoint_20 rfl ?_
    obtain ⟨σ_2, σ_2_e, hi_3, H⟩ := wa_e H
    refine z_iast (M := M_X6_addPoint) dX6_addPoint_21 (ly_Sx h_this) rfl rfl rfl hi_3 σ_2_e ?_
    refine z_aload_n (M := M_X6_addPoint) dX6_addPoint_22 rfl ?_
    refine z_getR (M := M_X6_addPoint) (ci := 9) (C := RX6) (T := TX6) (Nf := 5) (ty := tyX6) cl9 dX6_addPoint_23 (ly_S h_this) 2 (by decide) t_65 rfl ?_
    refine z_aload_n (M := M_X6_addPoint) dX6_addPoint_26 rfl ?_
    refine z_getI (M := M_X6_addPoint) (ci := 9) (C := RX6) (T := TX6) (Nf := 5) (ty := tyX6) cl9 dX6_addPoint_27 (ly_S h_this) 4 (by decide) t_83 rfl rfl ?_
    refine z_iload_n (M := M_X6_addPoint) dX6_addPoint_30 rfl ?_
    obtain ⟨σ_4, σ_4_e, hi_5, H⟩ := wa_e H
    refine z_iast (M := M_X6_addPoint) dX6_addPoint_31 (ly_Sy h_this) rfl rfl rfl hi_5 σ_4_e ?_
    refine z_aload_n (M := M_X6_addPoint) dX6_addPoint_32 rfl ?_
    refine z_dup (M := M_X6_addPoint) dX6_addPoint_33 rfl ?_
    refine z_getI (M := M_X6_addPoint) (ci := 9) (C := RX6) (T := TX6) (Nf := 5) (ty := tyX6) cl9 dX6_addPoint_34 (ly_S h_this) 4 (by decide) t_83 rfl rfl ?_
    refine z_iconst (M := M_X6_addPoint) dX6_addPoint_37 ?_
    refine z_iadd (M := M_X6_addPoint) dX6_addPoint_38 ?_
    obtain ⟨σ_6, σ_6_e, H⟩ := wf_e H
    refine z_putI (M := M_X6_addPoint) (ci := 9) (C := RX6) (T := TX6) (Nf := 5) (ty := tyX6) cl9 dX6_addPoint_39 (ly_S h_this) 4 (by decide) t_83 rfl rfl rfl rfl σ_6_e ?_
    refine z_zconst (M := M_X6_addPoint) (b := true) dX6_addPoint_42 rfl ?_
    cases H
    exact z_zret (M := M_X6_addPoint) dX6_addPoint_43 rfl (Nat.le_of_ble_eq_true rfl) (Nat.le_of_ble_eq_true rfl) ⟨rfl, rfl⟩
theorem c_X6_hasRoomForPoint (hl : l.stackTraces = false) {σ : SG} {this_0 : Nat} {r : Bool} (h_this : isS this_0) (H : fA_hasRoomForPoint σ this_0 = r) : en_S l E M_X6_hasRoomForPoint 1 0 0 [vr this_0] σ (pS (some (zv r)) σ) := by
  unfold fA_hasRoomForPoint at H
  refine z_mk (lv := [some (vr this_0)]) m_X6_hasRoomForPoint rfl hl (Nat.le_of_ble_eq_true rfl) rfl ?_
  have J_1 : YY l E M_X6_hasRoomForPoint 1 0 0 (pS (some (zv r)) σ) 15 [some (vr this_0)] [zv (decide ((w32 (σ (kA_points this_0) 0)) < 2048))] σ 0 0 := by
    cases H
    exact z_zret (M := M_X6_hasRoomForPoint) dX6_hasRoomForPoint_15 rfl (Nat.le_of_ble_eq_true rfl) (Nat.le_of_ble_eq_true rfl) ⟨rfl, rfl⟩
  refine z_aload_n (M := M_X6_hasRoomForPoint) dX6_hasRoomForPoint_0 rfl ?_
  refine z_getI (M := M_X6_hasRoomForPoint) (ci := 9) (C := RX6) (T := TX6) (Nf := 5) (ty := tyX6) cl9 dX6_hasRoomForPoint_1 (ly_S h_this) 4 (by decide) t_83 rfl rfl ?_
  refine z_sipush (M := M_X6_hasRoomForPoint) dX6_hasRoomForPoint_4 (by decide +kernel) ?_
  by_cases h_2 : (w32 (σ (kA_points this_0) 0)) < 2048
  · refine z_icmp_ge_f (M := M_X6_hasRoomForPoint) (tgt := 14) dX6_hasRoomForPoint_7 (by decide) rfl (by decide +kernel) h_2 ?_
    refine z_iconst (M := M_X6_hasRoomForPoint) dX6_hasRoomForPoint_10 ?_
    refine z_goto (M := M_X6_hasRoomForPoint) (tgt := 15) dX6_hasRoomForPoint_11 (by decide) ?_
    exact z_st (by rw [zv_t (p := (w32 (σ (kA_points this_0) 0)) < 2048) h_2]) J_1
  · refine z_icmp_ge_t (M := M_X6_hasRoomForPoint) (tgt := 14) dX6_hasRoomForPoint_7 (by decide) rfl (by decide +kernel) (Int.not_lt.mp h_2) ?_
    refine z_iconst (M := M_X6_hasRoomForPoint) dX6_hasRoomForPoint_14 ?_
    exact z_st (by rw [zv_f (p := (w32 (σ (kA_points this_0) 0)) < 2048) h_2]) J_1
theorem c_X9_isDigit (hl : l.stackTraces = false) {σ : SG} {c_0 : Int} {r : Bool}  (H : fW_isDigit c_0 = r) : en_S l E M_X9_isDigit 1 0 0 [vi c_0] σ (pS (some (zv r)) σ) := by
  unfold fW_isDigit at H
  refine z_mk (lv := [some (vi c_0)]) m_X9_isDigit rfl hl (Nat.le_of_ble_eq_true rfl) rfl ?_
  have J_1 : YY l E M_X9_isDigit 1 0 0 (pS (some (zv r)) σ) 17 [some (vi c_0)] [zv (decide ((48 ≤ (w32 c_0)) ∧ ((w32 c_0) ≤ 57)))] σ 0 0 := by
    cases H
    exact z_zret (M := M_X9_isDigit) dX9_isDigit_17 rfl (Nat.le_of_ble_eq_true rfl) (Nat.le_of_ble_eq_true rfl) ⟨rfl, rfl⟩
  refine z_iload_n (M := M_X9_isDigit) dX9_isDigit_0 rfl ?_
  refine z_bipush (M := M_X9_isDigit) dX9_isDigit_1 (by decide +kernel) ?_
  by_cases h_2 : 48 ≤ (w32 c_0)
  · refine z_icmp_lt_f (M := M_X9_isDigit) (tgt := 16) dX9_isDigit_3 (by decide) rfl (by decide +kernel) h_2 ?_
    refine z_iload_n (M := M_X9_isDigit) dX9_isDigit_6 rfl ?_
    refine z_bipush (M := M_X9_isDigit) dX9_isDigit_7 (by decide +kernel) ?_
    by_cases h_3 : (w32 c_0) ≤ 57
    · refine z_icmp_gt_f (M := M_X9_isDigit) (tgt := 16) dX9_isDigit_9 (by decide) rfl (by decide +kernel) h_3 ?_
      refine z_iconst (M := M_X9_isDigit) dX9_isDigit_12 ?_
      refine z_goto (M := M_X9_isDigit) (tgt := 17) dX9_isDigit_13 (by decide) ?_
      exact z_st (by rw [zv_t (p := (48 ≤ (w32 c_0)) ∧ ((w32 c_0) ≤ 57)) ⟨h_2, h_3⟩]) J_1
    · refine z_icmp_gt_t (M := M_X9_isDigit) (tgt := 16) dX9_isDigit_9 (by decide) rfl (by decide +kernel) (Int.not_le.mp h_3) ?_
      refine z_iconst (M := M_X9_isDigit) dX9_isDigit_16 ?_
      exact z_st (by rw [zv_f (p := (48 ≤ (w32 c_0)) ∧ ((w32 c_0) ≤ 57)) (fun q => h_3 q.2)]) J_1
  · refine z_icmp_lt_t (M := M_X9_isDigit) (tgt := 16) dX9_isDigit_3 (by decide) rfl (by decide +kernel) (Int.not_le.mp h_2) ?_
    refine z_iconst (M := M_X9_isDigit) dX9_isDigit_16 ?_
    exact z_st (by rw [zv_f (p := (48 ≤ (w32 c_0)) ∧ ((w32 c_0) ≤ 57)) (fun q => h_2 q.1)]) J_1
theorem c_X9_digitsFrom (hl : l.stackTraces = false) {σ : SG} {from_0 : Int} {r : Int}  (H : fW_digitsFrom σ from_0 = some r) : en_S l E M_X9_digitsFrom 2 0 0 [vr 167, vi from_0] σ (pS (some (vi r)) σ) := by
  unfold fW_digitsFrom at H
  refine z_mk (lv := [some (vr 167), some (vi from_0), none]) m_X9_digitsFrom rfl hl (Nat.le_of_ble_eq_true rfl) rfl ?_
  refine z_iload_n (M := M_X9_digitsFrom) dX9_digitsFrom_0 rfl ?_
  refine z_istore_n (M := M_X9_digitsFrom) (lv' := [some (vr 167), some (vi from_0), some (vi from_0)]) dX9_digitsFrom_1 (Nat.le_of_ble_eq_true rfl) rfl rfl ?_
  obtain ⟨rl_5, hw_2, hk_3⟩ := bd_e H
  have J_25 : ∀ i_24, rl_5 = i_24 → YY l E M_X9_digitsFrom 2 0 0 (pS (some (vi r)) σ) 27 [some (vr 167), some (vi from_0), some (vi i_24)] [] σ 0 0 := by
    intro i_24 e
    have H := hk_3
    rw [e] at H
    refine z_iload_n (M := M_X9_digitsFrom) dX9_digitsFrom_27 rfl ?_
    refine z_iload_n (M := M_X9_digitsFrom) dX9_digitsFrom_28 rfl ?_
    refine z_isub (M := M_X9_digitsFrom) dX9_digitsFrom_29 ?_
    cases H
    exact z_iret (M := M_X9_digitsFrom) dX9_digitsFrom_30 rfl (Nat.le_of_ble_eq_true rfl) (Nat.le_of_ble_eq_true rfl) ⟨rfl, rfl⟩
  refine whl_go hw_2 (fun i_1 => YY l E M_X9_digitsFrom 2 0 0 (pS (some (vi r)) σ) 2 [some (vr 167), some (vi from_0), some (vi i_1)] [] σ 0 0) ?_
  rintro i_1 o_6 H K_7 K_8
  refine z_iload_n (M := M_X9_digitsFrom) dX9_digitsFrom_2 rfl ?_
  refine z_aload_n (M := M_X9_digitsFrom) dX9_digitsFrom_3 rfl ?_
  refine z_getI (M := M_X9_digitsFrom) (ci := 12) (C := RX9) (T := TX9) (Nf := 12) (ty := tyX9) cl12 dX9_digitsFrom_4 ly_167 5 (by decide) t_110 rfl rfl ?_
  rcases if_e H with ⟨h_17, H⟩ | ⟨h_17, H⟩
  · refine z_icmp_ge_f (M := M_X9_digitsFrom) (tgt := 27) dX9_digitsFrom_7 (by decide) rfl rfl h_17 ?_
    refine z_aload_n (M := M_X9_digitsFrom) dX9_digitsFrom_10 rfl ?_
    refine z_iload_n (M := M_X9_digitsFrom) dX9_digitsFrom_11 rfl ?_
    obtain ⟨x_19, hc_18, H⟩ := bd_e H
    refine z_callV (M := M_X9_digitsFrom) (M' := M_X9_signAt) (as := [vi i_1]) (rest := []) rfl rfl dX9_digitsFrom_12 m_X9_signAt t_783 t_785 s_5 (c_X9_signAt hl  hc_18) rfl rfl ly_167 rfl (Nat.le_of_ble_eq_true rfl) (Nat.le_of_ble_eq_true rfl) (Nat.le_of_ble_eq_true rfl) (Nat.le_of_ble_eq_true rfl) ?_
    refine z_st (st' := [vi x_19]) rfl ?_
    refine z_callS (M := M_X9_digitsFrom) (M' := M_X9_isDigit) (as := [vi x_19]) (rest := []) rfl rfl dX9_digitsFrom_15 m_X9_isDigit t_919 t_920 (c_X9_isDigit hl  rfl) rfl rfl (Nat.le_of_ble_eq_true rfl) (Nat.le_of_ble_eq_true rfl) (Nat.le_of_ble_eq_true rfl) (Nat.le_of_ble_eq_true rfl) ?_
    refine z_st (st' := [zv (fW_isDigit x_19)]) rfl ?_
    rcases if_e H with ⟨h_20, H⟩ | ⟨h_20, H⟩
    · refine z_zeq_f (M := M_X9_digitsFrom) (tgt := 27) dX9_digitsFrom_18 (by decide) h_20 ?_
      refine z_iinc (M := M_X9_digitsFrom) (lv' := [some (vr 167), some (vi from_0), some (vi (i_1 + 1))]) dX9_digitsFrom_21 rfl (Nat.le_of_ble_eq_true rfl) rfl rfl ?_
      refine z_goto (M := M_X9_digitsFrom) (tgt := 2) dX9_digitsFrom_24 (by decide) ?_
      exact K_7 _ (Option.some.inj H).symm
    · refine z_zeq_t (M := M_X9_digitsFrom) (tgt := 27) dX9_digitsFrom_18 (by decide) h_20 ?_
      exact J_25 _ (K_8 _ (Option.some.inj H).symm).symm
  · refine z_icmp_ge_t (M := M_X9_digitsFrom) (tgt := 27) dX9_digitsFrom_7 (by decide) rfl rfl (Int.not_lt.mp h_17) ?_
    exact J_25 _ (K_8 _ (Option.some.inj H).symm).symm
theorem c_X9_exponentFrom (hl : l.stackTraces = false) {σ : SG} {from_0 : Int} {size_0 : Int} {r : Int}  (H : fW_exponentFrom σ from_0 size_0 = some r) : en_S l E M_X9_exponentFrom 2 0 0 [vr 167, vi from_0, vi size_0] σ (pS (some (vi r)) σ) := by
  unfold fW_exponentFrom at H
  refine z_mk (lv := [some (vr 167), some (vi from_0), some (vi size_0), none, none]) m_X9_exponentFrom rfl hl (Nat.le_of_ble_eq_true rfl) rfl ?_
  refine z_iconst (M := M_X9_exponentFrom) dX9_exponentFrom_0 ?_
  refine z_istore_n (M := M_X9_exponentFrom) (lv' := [some (vr 167), some (vi from_0), some (vi size_0), some (vi 0), none]) dX9_exponentFrom_1 (Nat.le_of_ble_eq_true rfl) rfl rfl ?_
  refine z_iconst (M := M_X9_exponentFrom) dX9_exponentFrom_2 ?_
  refine z_istore (M := M_X9_exponentFrom) (lv' := [some (vr 167), some (vi from_0), some (vi size_0), some (vi 0), some (vi 0)]) dX9_exponentFrom_3 (Nat.le_of_ble_eq_true rfl) rfl rfl ?_
  obtain ⟨rl_6, hw_3, hk_4⟩ := bd_e H
  have J_17 : ∀ value_15 i_16, rl_6 = (value_15, i_16) → YY l E M_X9_exponentFrom 2 0 0 (pS (some (vi r)) σ) 39 [some (vr 167), some (vi from_0), some (vi size_0), some (vi value_15), some (vi i_16)] [] σ 0 0 := by
    intro value_15 i_16 e
    have H := hk_4
    rw [e] at H
    refine z_iload_n (M := M_X9_exponentFrom) dX9_exponentFrom_39 rfl ?_
    cases H
    exact z_iret (M := M_X9_exponentFrom) dX9_exponentFrom_40 rfl (Nat.le_of_ble_eq_true rfl) (Nat.le_of_ble_eq_true rfl) ⟨rfl, rfl⟩
  refine whl_go hw_3 (fun (value_1, i_2) => YY l E M_X9_exponentFrom 2 0 0 (pS (some (vi r)) σ) 5 [some (vr 167), some (vi from_0), some (vi size_0), some (vi value_1), some (vi i_2)] [] σ 0 0) ?_
  rintro ⟨value_1, i_2⟩ o_7 H K_8 K_9
  refine z_iload (M := M_X9_exponentFrom) dX9_exponentFrom_5 rfl ?_
  refine z_iload_n (M := M_X9_exponentFrom) dX9_exponentFrom_7 rfl ?_
  rcases if_e H with ⟨h_10, H⟩ | ⟨h_10, H⟩
  · refine z_icmp_ge_f (M := M_X9_exponentFrom) (tgt := 39) dX9_exponentFrom_8 (by decide) rfl rfl h_10 ?_
    refine z_iload_n (M := M_X9_exponentFrom) dX9_exponentFrom_11 rfl ?_
    refine z_bipush (M := M_X9_exponentFrom) dX9_exponentFrom_12 (by decide +kernel) ?_
    refine z_imul (M := M_X9_exponentFrom) dX9_exponentFrom_14 ?_
    refine z_aload_n (M := M_X9_exponentFrom) dX9_exponentFrom_15 rfl ?_
    refine z_iload_n (M := M_X9_exponentFrom) dX9_exponentFrom_16 rfl ?_
    refine z_iload (M := M_X9_exponentFrom) dX9_exponentFrom_17 rfl ?_
    refine z_iadd (M := M_X9_exponentFrom) dX9_exponentFrom_19 ?_
    obtain ⟨x_12, hc_11, H⟩ := bd_e H
    refine z_callV (M := M_X9_exponentFrom) (M' := M_X9_signAt) (as := [vi (from_0 + i_2)]) (rest := [vi (value_1 * 10)]) rfl rfl dX9_exponentFrom_20 m_X9_signAt t_783 t_785 s_5 (c_X9_signAt hl  hc_11) rfl rfl ly_167 rfl (Nat.le_of_ble_eq_true rfl) (Nat.le_of_ble_eq_true rfl) (Nat.le_of_ble_eq_true rfl) (Nat.le_of_ble_eq_true rfl) ?_
    refine z_st (st' := [vi x_12, vi (value_1 * 10)]) rfl ?_
    refine z_iadd (M := M_X9_exponentFrom) dX9_exponentFrom_23 ?_
    refine z_bipush (M := M_X9_exponentFrom) dX9_exponentFrom_24 (by decide +kernel) ?_
    refine z_isub (M := M_X9_exponentFrom) dX9_exponentFrom_26 ?_
    refine z_ldc (M := M_X9_exponentFrom) (n := 1000000) dX9_exponentFrom_27 t_926 (by decide +kernel) ?_
    refine z_mmin (M := M_X9_exponentFrom) dX9_exponentFrom_29 t_771 t_626 t_20 t_627 (Nat.le_of_ble_eq_true rfl) (Nat.le_of_ble_eq_true rfl) (Nat.le_of_ble_eq_true rfl) (Nat.le_of_ble_eq_true rfl) ?_
    refine z_istore_n (M := M_X9_exponentFrom) (lv' := [some (vr 167), some (vi from_0), some (vi size_0), some (vi (q_mni (((value_1 * 10) + x_12) - 48) 1000000)), some (vi i_2)]) dX9_exponentFrom_32 (Nat.le_of_ble_eq_true rfl) rfl rfl ?_
    refine z_iinc (M := M_X9_exponentFrom) (lv' := [some (vr 167), some (vi from_0), some (vi size_0), some (vi (q_mni (((value_1 * 10) + x_12) - 48) 1000000)), some (vi (i_2 + 1))]) dX9_exponentFrom_33 rfl (Nat.le_of_ble_eq_true rfl) rfl rfl ?_
    refine z_goto (M := M_X9_exponentFrom) (tgt := 5) dX9_exponentFrom_36 (by decide) ?_
    exact K_8 _ (Option.some.inj H).symm
  · refine z_icmp_ge_t (M := M_X9_exponentFrom) (tgt := 39) dX9_exponentFrom_8 (by decide) rfl rfl (Int.not_lt.mp h_10) ?_
    exact J_17 _ _ (K_9 _ (Option.some.inj H).symm).symm
theorem c_X9_isSign (hl : l.stackTraces = false) {σ : SG} {c_0 : Int} {r : Bool}  (H : fW_isSign c_0 = r) : en_S l E M_X9_isSign 1 0 0 [vi c_0] σ (pS (some (zv r)) σ) := by
  unfold fW_isSign at H
  refine z_mk (lv := [some (vi c_0)]) m_X9_isSign rfl hl (Nat.le_of_ble_eq_true rfl) rfl ?_
  have J_1 : YY l E M_X9_isSign 1 0 0 (pS (some (zv r)) σ) 17 [some (vi c_0)] [zv (decide (((w32 c_0) = 43) ∨ ((w32 c_0) = 45)))] σ 0 0 := by
    cases H
    exact z_zret (M := M_X9_isSign) dX9_isSign_17 rfl (Nat.le_of_ble_eq_true rfl) (Nat.le_of_ble_eq_true rfl) ⟨rfl, rfl⟩
  refine z_iload_n (M := M_X9_isSign) dX9_isSign_0 rfl ?_
  refine z_bipush (M := M_X9_isSign) dX9_isSign_1 (by decide +kernel) ?_
  by_cases h_2 : (w32 c_0) = 43
  · refine z_icmp_eq_t (M := M_X9_isSign) (tgt := 12) dX9_isSign_3 (by decide) rfl (by decide +kernel) h_2 ?_
    refine z_iconst (M := M_X9_isSign) dX9_isSign_12 ?_
    refine z_goto (M := M_X9_isSign) (tgt := 17) dX9_isSign_13 (by decide) ?_
    exact z_st (by rw [zv_t (p := ((w32 c_0) = 43) ∨ ((w32 c_0) = 45)) (Or.inl h_2)]) J_1
  · refine z_icmp_eq_f (M := M_X9_isSign) (tgt := 12) dX9_isSign_3 (by decide) rfl (by decide +kernel) h_2 ?_
    refine z_iload_n (M := M_X9_isSign) dX9_isSign_6 rfl ?_
    refine z_bipush (M := M_X9_isSign) dX9_isSign_7 (by decide +kernel) ?_
    by_cases h_3 : (w32 c_0) = 45
    · refine z_icmp_ne_f (M := M_X9_isSign) (tgt := 16) dX9_isSign_9 (by decide) rfl (by decide +kernel) h_3 ?_
      refine z_iconst (M := M_X9_isSign) dX9_isSign_12 ?_
      refine z_goto (M := M_X9_isSign) (tgt := 17) dX9_isSign_13 (by decide) ?_
      exact z_st (by rw [zv_t (p := ((w32 c_0) = 43) ∨ ((w32 c_0) = 45)) (Or.inr h_3)]) J_1
    · refine z_icmp_ne_t (M := M_X9_isSign) (tgt := 16) dX9_isSign_9 (by decide) rfl (by decide +kernel) h_3 ?_
      refine z_iconst (M := M_X9_isSign) dX9_isSign_16 ?_
      exact z_st (by rw [zv_f (p := ((w32 c_0) = 43) ∨ ((w32 c_0) = 45)) (fun q => q.elim h_2 h_3)]) J_1
theorem c_X9_roundedFrom (hl : l.stackTraces = false) {σ : SG} {from_0 : Int} {whole_0 : Int} {fraction_0 : Int} {power_0 : Int} {r : Int}  (H : fW_roundedFrom σ from_0 whole_0 fraction_0 power_0 = some r) : en_S l E M_X9_roundedFrom 2 0 0 [vr 167, vi from_0, vi whole_0, vi fraction_0, vi power_0] σ (pS (some (vl r)) σ) := by
  unfold fW_roundedFrom at H
  refine z_mk (lv := [some (vr 167), some (vi from_0), some (vi whole_0), some (vi fraction_0), some (vi power_0), none, none, none, none, none, none, none]) m_X9_roundedFrom rfl hl (Nat.le_of_ble_eq_true rfl) rfl ?_
  refine z_iload_n (M := M_X9_roundedFrom) dX9_roundedFrom_0 rfl ?_
  refine z_iload (M := M_X9_roundedFrom) dX9_roundedFrom_1 rfl ?_
  refine z_iadd (M := M_X9_roundedFrom) dX9_roundedFrom_3 ?_
  refine z_istore (M := M_X9_roundedFrom) (lv' := [some (vr 167), some (vi from_0), some (vi whole_0), some (vi fraction_0), some (vi power_0), some (vi (whole_0 + power_0)), none, none, none, none, none, none]) dX9_roundedFrom_4 (Nat.le_of_ble_eq_true rfl) rfl rfl ?_
  refine z_lconst (M := M_X9_roundedFrom) (m := 0) dX9_roundedFrom_6 (by decide +kernel) ?_
  refine z_lstore (M := M_X9_roundedFrom) (lv' := [some (vr 167), some (vi from_0), some (vi whole_0), some (vi fraction_0), some (vi power_0), some (vi (whole_0 + power_0)), some (vl 0), none, none, none, none, none]) dX9_roundedFrom_7 (Nat.le_of_ble_eq_true rfl) rfl rfl ?_
  refine z_iconst (M := M_X9_roundedFrom) dX9_roundedFrom_9 ?_
  refine z_istore (M := M_X9_roundedFrom) (lv' := [some (vr 167), some (vi from_0), some (vi whole_0), some (vi fraction_0), some (vi power_0), some (vi (whole_0 + power_0)), some (vl 0), none, some (vi 0), none, none, none]) dX9_roundedFrom_10 (Nat.le_of_ble_eq_true rfl) rfl rfl ?_
  refine z_zconst (M := M_X9_roundedFrom) (b := false) dX9_roundedFrom_12 rfl ?_
  refine z_zstore (M := M_X9_roundedFrom) (lv' := [some (vr 167), some (vi from_0), some (vi whole_0), some (vi fraction_0), some (vi power_0), some (vi (whole_0 + power_0)), some (vl 0), none, some (vi 0), some (zv false), none, none]) dX9_roundedFrom_13 (Nat.le_of_ble_eq_true rfl) rfl rfl ?_
  refine z_iconst (M := M_X9_roundedFrom) dX9_roundedFrom_15 ?_
  refine z_istore (M := M_X9_roundedFrom) (lv' := [some (vr 167), some (vi from_0), some (vi whole_0), some (vi fraction_0), some (vi power_0), some (vi (whole_0 + power_0)), some (vl 0), none, some (vi 0), some (zv false), some (vi 0), none]) dX9_roundedFrom_16 (Nat.le_of_ble_eq_true rfl) rfl rfl ?_
  obtain ⟨rl_8, hw_5, hk_6⟩ := bd_e H
  have J_84 : ∀ value_49 next_50 more_51 i_52, rl_8 = (value_49, next_50, more_51, i_52) → YY l E M_X9_roundedFrom 2 0 0 (pS (some (vl r)) σ) 110 [some (vr 167), some (vi from_0), some (vi whole_0), some (vi fraction_0), some (vi power_0), some (vi (whole_0 + power_0)), some (vl value_49), none, some (vi next_50), some (zv more_51), some (vi i_52), none] [] σ 0 0 := by
    intro value_49 next_50 more_51 i_52 e
    have H := hk_6
    rw [e] at H
    refine z_iload_n (M := M_X9_roundedFrom) dX9_roundedFrom_110 rfl ?_
    refine z_iload_n (M := M_X9_roundedFrom) dX9_roundedFrom_111 rfl ?_
    refine z_iadd (M := M_X9_roundedFrom) dX9_roundedFrom_112 ?_
    refine z_istore (M := M_X9_roundedFrom) (lv' := [some (vr 167), some (vi from_0), some (vi whole_0), some (vi fraction_0), some (vi power_0), some (vi (whole_0 + power_0)), some (vl value_49), none, some (vi next_50), some (zv more_51), some (vi (whole_0 + fraction_0)), none]) dX9_roundedFrom_113 (Nat.le_of_ble_eq_true rfl) rfl rfl ?_
    obtain ⟨rl_58, hw_55, hk_56⟩ := bd_e H
    have J_83 : ∀ value_73 i_74, rl_58 = (value_73, i_74) → YY l E M_X9_roundedFrom 2 0 0 (pS (some (vl r)) σ) 158 [some (vr 167), some (vi from_0), some (vi whole_0), some (vi fraction_0), some (vi power_0), some (vi (whole_0 + power_0)), some (vl value_73), none, some (vi next_50), some (zv more_51), some (vi i_74), none] [] σ 0 0 := by
      intro value_73 i_74 e
      have H := hk_56
      rw [e] at H
      have J_75 : YY l E M_X9_roundedFrom 2 0 0 (pS (some (vl r)) σ) 189 [some (vr 167), some (vi from_0), some (vi whole_0), some (vi fraction_0), some (vi power_0), some (vi (whole_0 + power_0)), some (vl value_73), none, some (vi next_50), some (zv more_51), some (vi i_74), none] [zv (decide ((5 < (w32 next_50)) ∨ (((w32 next_50) = 5) ∧ ((more_51 = true) ∨ ((w64 (q_lan value_73 1)) = 1)))))] σ 0 0 := by
        obtain ⟨x_76, x_76_e, H⟩ := lt_e H
        refine z_st (congrArg (fun z => zv z :: []) x_76_e) ?_
        refine z_zstore (M := M_X9_roundedFrom) (lv' := [some (vr 167), some (vi from_0), some (vi whole_0), some (vi fraction_0), some (vi power_0), some (vi (whole_0 + power_0)), some (vl value_73), none, some (vi next_50), some (zv more_51), some (zv x_76), none]) dX9_roundedFrom_189 (Nat.le_of_ble_eq_true rfl) rfl rfl ?_
        have J_77 : YY l E M_X9_roundedFrom 2 0 0 (pS (some (vl r)) σ) 205 [some (vr 167), some (vi from_0), some (vi whole_0), some (vi fraction_0), some (vi power_0), some (vi (whole_0 + power_0)), some (vl value_73), none, some (vi next_50), some (zv more_51), some (zv x_76), none] [vl (if x_76 = true then (value_73 + 1) else value_73)] σ 0 0 := by
          cases H
          exact z_lret (M := M_X9_roundedFrom) dX9_roundedFrom_205 rfl (Nat.le_of_ble_eq_true rfl) (Nat.le_of_ble_eq_true rfl) ⟨rfl, rfl⟩
        refine z_zload (M := M_X9_roundedFrom) dX9_roundedFrom_191 rfl ?_
        by_cases h_78 : x_76 = true
        · refine z_zeq_f (M := M_X9_roundedFrom) (tgt := 203) dX9_roundedFrom_193 (by decide) h_78 ?_
          refine z_lload (M := M_X9_roundedFrom) dX9_roundedFrom_196 rfl ?_
          refine z_lconst (M := M_X9_roundedFrom) (m := 1) dX9_roundedFrom_198 (by decide +kernel) ?_
          refine z_ladd (M := M_X9_roundedFrom) dX9_roundedFrom_199 ?_
          refine z_goto (M := M_X9_roundedFrom) (tgt := 205) dX9_roundedFrom_200 (by decide) ?_
          exact z_st (by rw [if_pos (c := x_76 = true) h_78]) J_77
        · refine z_zeq_t (M := M_X9_roundedFrom) (tgt := 203) dX9_roundedFrom_193 (by decide) h_78 ?_
          refine z_lload (M := M_X9_roundedFrom) dX9_roundedFrom_203 rfl ?_
          exact z_st (by rw [if_neg (c := x_76 = true) h_78]) J_77
      refine z_iload (M := M_X9_roundedFrom) dX9_roundedFrom_158 rfl ?_
      refine z_iconst (M := M_X9_roundedFrom) dX9_roundedFrom_160 ?_
      by_cases h_79 : 5 < (w32 next_50)
      · refine z_icmp_gt_t (M := M_X9_roundedFrom) (tgt := 184) dX9_roundedFrom_161 (by decide) rfl (by decide +kernel) h_79 ?_
        refine z_iconst (M := M_X9_roundedFrom) dX9_roundedFrom_184 ?_
        refine z_goto (M := M_X9_roundedFrom) (tgt := 189) dX9_roundedFrom_185 (by decide) ?_
        exact z_st (by rw [zv_t (p := (5 < (w32 next_50)) ∨ (((w32 next_50) = 5) ∧ ((more_51 = true) ∨ ((w64 (q_lan value_73 1)) = 1)))) (Or.inl h_79)]) J_75
      · refine z_icmp_gt_f (M := M_X9_roundedFrom) (tgt := 184) dX9_roundedFrom_161 (by decide) rfl (by decide +kernel) (Int.not_lt.mp h_79) ?_
        refine z_iload (M := M_X9_roundedFrom) dX9_roundedFrom_164 rfl ?_
        refine z_iconst (M := M_X9_roundedFrom) dX9_roundedFrom_166 ?_
        by_cases h_80 : (w32 next_50) = 5
        · refine z_icmp_ne_f (M := M_X9_roundedFrom) (tgt := 188) dX9_roundedFrom_167 (by decide) rfl (by decide +kernel) h_80 ?_
          refine z_zload (M := M_X9_roundedFrom) dX9_roundedFrom_170 rfl ?_
          by_cases h_81 : more_51 = true
          · refine z_zne_t (M := M_X9_roundedFrom) (tgt := 184) dX9_roundedFrom_172 (by decide) h_81 ?_
            refine z_iconst (M := M_X9_roundedFrom) dX9_roundedFrom_184 ?_
            refine z_goto (M := M_X9_roundedFrom) (tgt := 189) dX9_roundedFrom_185 (by decide) ?_
            exact z_st (by rw [zv_t (p := (5 < (w32 next_50)) ∨ (((w32 next_50) = 5) ∧ ((more_51 = true) ∨ ((w64 (q_lan value_73 1)) = 1)))) (Or.inr ⟨h_80, (Or.inl h_81)⟩)]) J_75
          · refine z_zne_f (M := M_X9_roundedFrom) (tgt := 184) dX9_roundedFrom_172 (by decide) h_81 ?_
            refine z_lload (M := M_X9_roundedFrom) dX9_roundedFrom_175 rfl ?_
            refine z_lconst (M := M_X9_roundedFrom) (m := 1) dX9_roundedFrom_177 (by decide +kernel) ?_
            refine z_land (M := M_X9_roundedFrom) dX9_roundedFrom_178 ?_
            refine z_lconst (M := M_X9_roundedFrom) (m := 1) dX9_roundedFrom_179 (by decide +kernel) ?_
            refine z_lcmp (M := M_X9_roundedFrom) dX9_roundedFrom_180 ?_
            by_cases h_82 : (w64 (q_lan value_73 1)) = 1
            · refine z_lif_ne_f (M := M_X9_roundedFrom) (tgt := 188) dX9_roundedFrom_181 (by decide) rfl (by decide +kernel) h_82 ?_
              refine z_iconst (M := M_X9_roundedFrom) dX9_roundedFrom_184 ?_
              refine z_goto (M := M_X9_roundedFrom) (tgt := 189) dX9_roundedFrom_185 (by decide) ?_
              exact z_st (by rw [zv_t (p := (5 < (w32 next_50)) ∨ (((w32 next_50) = 5) ∧ ((more_51 = true) ∨ ((w64 (q_lan value_73 1)) = 1)))) (Or.inr ⟨h_80, (Or.inr h_82)⟩)]) J_75
            · refine z_lif_ne_t (M := M_X9_roundedFrom) (tgt := 188) dX9_roundedFrom_181 (by decide) rfl (by decide +kernel) h_82 ?_
              refine z_iconst (M := M_X9_roundedFrom) dX9_roundedFrom_188 ?_
              exact z_st (by rw [zv_f (p := (5 < (w32 next_50)) ∨ (((w32 next_50) = 5) ∧ ((more_51 = true) ∨ ((w64 (q_lan value_73 1)) = 1)))) (fun q => q.elim h_79 (fun q => (fun q => q.elim h_81 h_82) q.2))]) J_75
        · refine z_icmp_ne_t (M := M_X9_roundedFrom) (tgt := 188) dX9_roundedFrom_167 (by decide) rfl (by decide +kernel) h_80 ?_
          refine z_iconst (M := M_X9_roundedFrom) dX9_roundedFrom_188 ?_
          exact z_st (by rw [zv_f (p := (5 < (w32 next_50)) ∨ (((w32 next_50) = 5) ∧ ((more_51 = true) ∨ ((w64 (q_lan value_73 1)) = 1)))) (fun q => q.elim h_79 (fun q => h_80 q.1))]) J_75
    refine whl_go hw_55 (fun (value_53, i_54) => YY l E M_X9_roundedFrom 2 0 0 (pS (some (vl r)) σ) 115 [some (vr 167), some (vi from_0), some (vi whole_0), some (vi fraction_0), some (vi power_0), some (vi (whole_0 + power_0)), some (vl value_53), none, some (vi next_50), some (zv more_51), some (vi i_54), none] [] σ 0 0) ?_
    rintro ⟨value_53, i_54⟩ o_59 H K_60 K_61
    rcases if_e H with ⟨h_64, H⟩ | ⟨h_64, H⟩
    · have J_65 : YY l E M_X9_roundedFrom 2 0 0 (pS (some (vl r)) σ) 138 [some (vr 167), some (vi from_0), some (vi whole_0), some (vi fraction_0), some (vi power_0), some (vi (whole_0 + power_0)), some (vl value_53), none, some (vi next_50), some (zv more_51), some (vi i_54), none] [] σ 0 0 := by
        refine z_lload (M := M_X9_roundedFrom) dX9_roundedFrom_138 rfl ?_
        refine z_ldc2 (M := M_X9_roundedFrom) (n := 10) dX9_roundedFrom_140 t_931 (by decide +kernel) ?_
        refine z_lmul (M := M_X9_roundedFrom) dX9_roundedFrom_143 ?_
        refine z_ldc2 (M := M_X9_roundedFrom) (n := 10000000000) dX9_roundedFrom_144 t_932 (by decide +kernel) ?_
        refine z_lmin (M := M_X9_roundedFrom) dX9_roundedFrom_147 t_933 t_934 t_20 t_935 (Nat.le_of_ble_eq_true rfl) (Nat.le_of_ble_eq_true rfl) (Nat.le_of_ble_eq_true rfl) (Nat.le_of_ble_eq_true rfl) ?_
        refine z_lstore (M := M_X9_roundedFrom) (lv' := [some (vr 167), some (vi from_0), some (vi whole_0), some (vi fraction_0), some (vi power_0), some (vi (whole_0 + power_0)), some (vl (q_mnl (value_53 * 10) 10000000000)), none, some (vi next_50), some (zv more_51), some (vi i_54), none]) dX9_roundedFrom_150 (Nat.le_of_ble_eq_true rfl) rfl rfl ?_
        refine z_iinc (M := M_X9_roundedFrom) (lv' := [some (vr 167), some (vi from_0), some (vi whole_0), some (vi fraction_0), some (vi power_0), some (vi (whole_0 + power_0)), some (vl (q_mnl (value_53 * 10) 10000000000)), none, some (vi next_50), some (zv more_51), some (vi (i_54 + 1)), none]) dX9_roundedFrom_152 rfl (Nat.le_of_ble_eq_true rfl) rfl rfl ?_
        refine z_goto (M := M_X9_roundedFrom) (tgt := 115) dX9_roundedFrom_155 (by decide) ?_
        exact K_60 _ (Option.some.inj H).symm
      refine z_iload (M := M_X9_roundedFrom) dX9_roundedFrom_115 rfl ?_
      refine z_iload (M := M_X9_roundedFrom) dX9_roundedFrom_117 rfl ?_
      by_cases h_67 : (w32 i_54) < (w32 (whole_0 + power_0))
      · refine z_icmp_ge_f (M := M_X9_roundedFrom) (tgt := 158) dX9_roundedFrom_119 (by decide) rfl rfl h_67 ?_
        refine z_lload (M := M_X9_roundedFrom) dX9_roundedFrom_122 rfl ?_
        refine z_lconst (M := M_X9_roundedFrom) (m := 0) dX9_roundedFrom_124 (by decide +kernel) ?_
        refine z_lcmp (M := M_X9_roundedFrom) dX9_roundedFrom_125 ?_
        by_cases h_68 : 0 < (w64 value_53)
        · refine z_lif_le_f (M := M_X9_roundedFrom) (tgt := 158) dX9_roundedFrom_126 (by decide) rfl (by decide +kernel) h_68 ?_
          refine z_lload (M := M_X9_roundedFrom) dX9_roundedFrom_129 rfl ?_
          refine z_ldc2 (M := M_X9_roundedFrom) (n := 10000000000) dX9_roundedFrom_131 t_932 (by decide +kernel) ?_
          refine z_lcmp (M := M_X9_roundedFrom) dX9_roundedFrom_134 ?_
          by_cases h_69 : (w64 value_53) < 10000000000
          · refine z_lif_ge_f (M := M_X9_roundedFrom) (tgt := 158) dX9_roundedFrom_135 (by decide) rfl (by decide +kernel) h_69 ?_
            exact J_65
          · refine z_lif_ge_t (M := M_X9_roundedFrom) (tgt := 158) dX9_roundedFrom_135 (by decide) rfl (by decide +kernel) (Int.not_lt.mp h_69) ?_
            exact absurd h_64 (fun q => h_69 q.2)
        · refine z_lif_le_t (M := M_X9_roundedFrom) (tgt := 158) dX9_roundedFrom_126 (by decide) rfl (by decide +kernel) (Int.not_lt.mp h_68) ?_
          exact absurd h_64 (fun q => (fun q => h_68 q.2) q.1)
      · refine z_icmp_ge_t (M := M_X9_roundedFrom) (tgt := 158) dX9_roundedFrom_119 (by decide) rfl rfl (Int.not_lt.mp h_67) ?_
        exact absurd h_64 (fun q => (fun q => h_67 q.1) q.1)
    · have J_66 : YY l E M_X9_roundedFrom 2 0 0 (pS (some (vl r)) σ) 158 [some (vr 167), some (vi from_0), some (vi whole_0), some (vi fraction_0), some (vi power_0), some (vi (whole_0 + power_0)), some (vl value_53), none, some (vi next_50), some (zv more_51), some (vi i_54), none] [] σ 0 0 := by
        exact J_83 _ _ (K_61 _ (Option.some.inj H).symm).symm
      refine z_iload (M := M_X9_roundedFrom) dX9_roundedFrom_115 rfl ?_
      refine z_iload (M := M_X9_roundedFrom) dX9_roundedFrom_117 rfl ?_
      by_cases h_70 : (w32 i_54) < (w32 (whole_0 + power_0))
      · refine z_icmp_ge_f (M := M_X9_roundedFrom) (tgt := 158) dX9_roundedFrom_119 (by decide) rfl rfl h_70 ?_
        refine z_lload (M := M_X9_roundedFrom) dX9_roundedFrom_122 rfl ?_
        refine z_lconst (M := M_X9_roundedFrom) (m := 0) dX9_roundedFrom_124 (by decide +kernel) ?_
        refine z_lcmp (M := M_X9_roundedFrom) dX9_roundedFrom_125 ?_
        by_cases h_71 : 0 < (w64 value_53)
        · refine z_lif_le_f (M := M_X9_roundedFrom) (tgt := 158) dX9_roundedFrom_126 (by decide) rfl (by decide +kernel) h_71 ?_
          refine z_lload (M := M_X9_roundedFrom) dX9_roundedFrom_129 rfl ?_
          refine z_ldc2 (M := M_X9_roundedFrom) (n := 10000000000) dX9_roundedFrom_131 t_932 (by decide +kernel) ?_
          refine z_lcmp (M := M_X9_roundedFrom) dX9_roundedFrom_134 ?_
          by_cases h_72 : (w64 value_53) < 10000000000
          · refine z_lif_ge_f (M := M_X9_roundedFrom) (tgt := 158) dX9_roundedFrom_135 (by decide) rfl (by decide +kernel) h_72 ?_
            exact absurd ⟨⟨h_70, h_71⟩, h_72⟩ h_64
          · refine z_lif_ge_t (M := M_X9_roundedFrom) (tgt := 158) dX9_roundedFrom_135 (by decide) rfl (by decide +kernel) (Int.not_lt.mp h_72) ?_
            exact J_66
        · refine z_lif_le_t (M := M_X9_roundedFrom) (tgt := 158) dX9_roundedFrom_126 (by decide) rfl (by decide +kernel) (Int.not_lt.mp h_71) ?_
          exact J_66
      · refine z_icmp_ge_t (M := M_X9_roundedFrom) (tgt := 158) dX9_roundedFrom_119 (by decide) rfl rfl (Int.not_lt.mp h_70) ?_
        exact J_66
  refine whl_go hw_5 (fun (value_1, next_2, more_3, i_4) => YY l E M_X9_roundedFrom 2 0 0 (pS (some (vl r)) σ) 18 [some (vr 167), some (vi from_0), some (vi whole_0), some (vi fraction_0), some (vi power_0), some (vi (whole_0 + power_0)), some (vl value_1), none, some (vi next_2), some (zv more_3), some (vi i_4), none] [] σ 0 0) ?_
  rintro ⟨value_1, next_2, more_3, i_4⟩ o_9 H K_10 K_11
  refine z_iload (M := M_X9_roundedFrom) dX9_roundedFrom_18 rfl ?_
  refine z_iload_n (M := M_X9_roundedFrom) dX9_roundedFrom_20 rfl ?_
  refine z_iload_n (M := M_X9_roundedFrom) dX9_roundedFrom_21 rfl ?_
  refine z_iadd (M := M_X9_roundedFrom) dX9_roundedFrom_22 ?_
  rcases if_e H with ⟨h_12, H⟩ | ⟨h_12, H⟩
  · refine z_icmp_ge_f (M := M_X9_roundedFrom) (tgt := 110) dX9_roundedFrom_23 (by decide) rfl rfl h_12 ?_
    refine z_aload_n (M := M_X9_roundedFrom) dX9_roundedFrom_26 rfl ?_
    have J_13 : YY l E M_X9_roundedFrom 2 0 0 (pS (some (vl r)) σ) 46 [some (vr 167), some (vi from_0), some (vi whole_0), some (vi fraction_0), some (vi power_0), some (vi (whole_0 + power_0)), some (vl value_1), none, some (vi next_2), some (zv more_3), some (vi i_4), none] [vi (if (w32 i_4) < (w32 whole_0) then (from_0 + i_4) else ((from_0 + i_4) + 1)), vr 167] σ 0 0 := by
      obtain ⟨x_15, hc_14, H⟩ := bd_e H
      refine z_callV (M := M_X9_roundedFrom) (M' := M_X9_signAt) (as := [vi (if (w32 i_4) < (w32 whole_0) then (from_0 + i_4) else ((from_0 + i_4) + 1))]) (rest := []) rfl rfl dX9_roundedFrom_46 m_X9_signAt t_783 t_785 s_5 (c_X9_signAt hl  hc_14) rfl rfl ly_167 rfl (Nat.le_of_ble_eq_true rfl) (Nat.le_of_ble_eq_true rfl) (Nat.le_of_ble_eq_true rfl) (Nat.le_of_ble_eq_true rfl) ?_
      refine z_st (st' := [vi x_15]) rfl ?_
      refine z_bipush (M := M_X9_roundedFrom) dX9_roundedFrom_49 (by decide +kernel) ?_
      refine z_isub (M := M_X9_roundedFrom) dX9_roundedFrom_51 ?_
      refine z_istore (M := M_X9_roundedFrom) (lv' := [some (vr 167), some (vi from_0), some (vi whole_0), some (vi fraction_0), some (vi power_0), some (vi (whole_0 + power_0)), some (vl value_1), none, some (vi next_2), some (zv more_3), some (vi i_4), some (vi (x_15 - 48))]) dX9_roundedFrom_52 (Nat.le_of_ble_eq_true rfl) rfl rfl ?_
      obtain ⟨v_19, he_16, hk_17⟩ := bd_e H
      have J_46 : ∀ value_42 next_43 more_44, v_19 = (value_42, next_43, more_44) → YY l E M_X9_roundedFrom 2 0 0 (pS (some (vl r)) σ) 104 [some (vr 167), some (vi from_0), some (vi whole_0), some (vi fraction_0), some (vi power_0), some (vi (whole_0 + power_0)), some (vl value_42), none, some (vi next_43), some (zv more_44), some (vi i_4), some (vi (x_15 - 48))] [] σ 0 0 := by
        intro value_42 next_43 more_44 e
        have H := hk_17
        rw [e] at H
        refine z_iinc (M := M_X9_roundedFrom) (lv' := [some (vr 167), some (vi from_0), some (vi whole_0), some (vi fraction_0), some (vi power_0), some (vi (whole_0 + power_0)), some (vl value_42), none, some (vi next_43), some (zv more_44), some (vi (i_4 + 1)), some (vi (x_15 - 48))]) dX9_roundedFrom_104 rfl (Nat.le_of_ble_eq_true rfl) rfl rfl ?_
        refine z_goto (M := M_X9_roundedFrom) (tgt := 18) dX9_roundedFrom_107 (by decide) ?_
        refine z_le (lv' := [some (vr 167), some (vi from_0), some (vi whole_0), some (vi fraction_0), some (vi power_0), some (vi (whole_0 + power_0)), some (vl value_42), none, some (vi next_43), some (zv more_44), some (vi (i_4 + 1)), none]) ⟨Or.inr rfl, Or.inr rfl, Or.inr rfl, Or.inr rfl, Or.inr rfl, Or.inr rfl, Or.inr rfl, Or.inl rfl, Or.inr rfl, Or.inr rfl, Or.inr rfl, Or.inl rfl, trivial⟩ ?_
        exact K_10 _ (Option.some.inj H).symm
      have H := he_16
      refine z_iload (M := M_X9_roundedFrom) dX9_roundedFrom_54 rfl ?_
      refine z_iload (M := M_X9_roundedFrom) dX9_roundedFrom_56 rfl ?_
      rcases if_e H with ⟨h_20, H⟩ | ⟨h_20, H⟩
      · refine z_icmp_ge_f (M := M_X9_roundedFrom) (tgt := 82) dX9_roundedFrom_58 (by decide) rfl rfl h_20 ?_
        refine z_lload (M := M_X9_roundedFrom) dX9_roundedFrom_61 rfl ?_
        refine z_ldc2 (M := M_X9_roundedFrom) (n := 10) dX9_roundedFrom_63 t_931 (by decide +kernel) ?_
        refine z_lmul (M := M_X9_roundedFrom) dX9_roundedFrom_66 ?_
        refine z_iload (M := M_X9_roundedFrom) dX9_roundedFrom_67 rfl ?_
        refine z_i2l (M := M_X9_roundedFrom) dX9_roundedFrom_69 ?_
        refine z_ladd (M := M_X9_roundedFrom) dX9_roundedFrom_70 ?_
        refine z_ldc2 (M := M_X9_roundedFrom) (n := 10000000000) dX9_roundedFrom_71 t_932 (by decide +kernel) ?_
        refine z_lmin (M := M_X9_roundedFrom) dX9_roundedFrom_74 t_933 t_934 t_20 t_935 (Nat.le_of_ble_eq_true rfl) (Nat.le_of_ble_eq_true rfl) (Nat.le_of_ble_eq_true rfl) (Nat.le_of_ble_eq_true rfl) ?_
        refine z_lstore (M := M_X9_roundedFrom) (lv' := [some (vr 167), some (vi from_0), some (vi whole_0), some (vi fraction_0), some (vi power_0), some (vi (whole_0 + power_0)), some (vl (q_mnl ((value_1 * 10) + (w32 (x_15 - 48))) 10000000000)), none, some (vi next_2), some (zv more_3), some (vi i_4), some (vi (x_15 - 48))]) dX9_roundedFrom_77 (Nat.le_of_ble_eq_true rfl) rfl rfl ?_
        refine z_goto (M := M_X9_roundedFrom) (tgt := 104) dX9_roundedFrom_79 (by decide) ?_
        exact J_46 _ _ _ (Option.some.inj H).symm
      · refine z_icmp_ge_t (M := M_X9_roundedFrom) (tgt := 82) dX9_roundedFrom_58 (by decide) rfl rfl (Int.not_lt.mp h_20) ?_
        obtain ⟨v_25, he_22, hk_23⟩ := bd_e H
        have J_41 : ∀ next_38 more_39, v_25 = (next_38, more_39) → YY l E M_X9_roundedFrom 2 0 0 (pS (some (vl r)) σ) 104 [some (vr 167), some (vi from_0), some (vi whole_0), some (vi fraction_0), some (vi power_0), some (vi (whole_0 + power_0)), some (vl value_1), none, some (vi next_38), some (zv more_39), some (vi i_4), some (vi (x_15 - 48))] [] σ 0 0 := by
          intro next_38 more_39 e
          have H := hk_23
          rw [e] at H
          exact J_46 _ _ _ (Option.some.inj H).symm
        have H := he_22
        refine z_iload (M := M_X9_roundedFrom) dX9_roundedFrom_82 rfl ?_
        refine z_iload (M := M_X9_roundedFrom) dX9_roundedFrom_84 rfl ?_
        rcases if_e H with ⟨h_26, H⟩ | ⟨h_26, H⟩
        · refine z_icmp_ne_f (M := M_X9_roundedFrom) (tgt := 96) dX9_roundedFrom_86 (by decide) rfl rfl h_26 ?_
          refine z_iload (M := M_X9_roundedFrom) dX9_roundedFrom_89 rfl ?_
          refine z_istore (M := M_X9_roundedFrom) (lv' := [some (vr 167), some (vi from_0), some (vi whole_0), some (vi fraction_0), some (vi power_0), some (vi (whole_0 + power_0)), some (vl value_1), none, some (vi (x_15 - 48)), some (zv more_3), some (vi i_4), some (vi (x_15 - 48))]) dX9_roundedFrom_91 (Nat.le_of_ble_eq_true rfl) rfl rfl ?_
          refine z_goto (M := M_X9_roundedFrom) (tgt := 104) dX9_roundedFrom_93 (by decide) ?_
          exact J_41 _ _ (Option.some.inj H).symm
        · refine z_icmp_ne_t (M := M_X9_roundedFrom) (tgt := 96) dX9_roundedFrom_86 (by decide) rfl rfl h_26 ?_
          obtain ⟨v_31, he_28, hk_29⟩ := bd_e H
          have J_37 : ∀ more_35, v_31 = more_35 → YY l E M_X9_roundedFrom 2 0 0 (pS (some (vl r)) σ) 104 [some (vr 167), some (vi from_0), some (vi whole_0), some (vi fraction_0), some (vi power_0), some (vi (whole_0 + power_0)), some (vl value_1), none, some (vi next_2), some (zv more_35), some (vi i_4), some (vi (x_15 - 48))] [] σ 0 0 := by
            intro more_35 e
            have H := hk_29
            rw [e] at H
            exact J_41 _ _ (Option.some.inj H).symm
          have H := he_28
          refine z_iload (M := M_X9_roundedFrom) dX9_roundedFrom_96 rfl ?_
          rcases if_e H with ⟨h_32, H⟩ | ⟨h_32, H⟩
          · refine z_if_eq_f (M := M_X9_roundedFrom) (tgt := 104) dX9_roundedFrom_98 (by decide) rfl h_32 ?_
            refine z_zconst (M := M_X9_roundedFrom) (b := true) dX9_roundedFrom_101 rfl ?_
            refine z_zstore (M := M_X9_roundedFrom) (lv' := [some (vr 167), some (vi from_0), some (vi whole_0), some (vi fraction_0), some (vi power_0), some (vi (whole_0 + power_0)), some (vl value_1), none, some (vi next_2), some (zv true), some (vi i_4), some (vi (x_15 - 48))]) dX9_roundedFrom_102 (Nat.le_of_ble_eq_true rfl) rfl rfl ?_
            exact J_37 _ (Option.some.inj H).symm
          · refine z_if_eq_t (M := M_X9_roundedFrom) (tgt := 104) dX9_roundedFrom_98 (by decide) rfl (Decidable.not_not.mp h_32) ?_
            exact J_37 _ (Option.some.inj H).symm
    refine z_iload (M := M_X9_roundedFrom) dX9_roundedFrom_27 rfl ?_
    refine z_iload_n (M := M_X9_roundedFrom) dX9_roundedFrom_29 rfl ?_
    by_cases h_47 : (w32 i_4) < (w32 whole_0)
    · refine z_icmp_ge_f (M := M_X9_roundedFrom) (tgt := 40) dX9_roundedFrom_30 (by decide) rfl rfl h_47 ?_
      refine z_iload_n (M := M_X9_roundedFrom) dX9_roundedFrom_33 rfl ?_
      refine z_iload (M := M_X9_roundedFrom) dX9_roundedFrom_34 rfl ?_
      refine z_iadd (M := M_X9_roundedFrom) dX9_roundedFrom_36 ?_
      refine z_goto (M := M_X9_roundedFrom) (tgt := 46) dX9_roundedFrom_37 (by decide) ?_
      exact z_st (by rw [if_pos (c := (w32 i_4) < (w32 whole_0)) h_47]) J_13
    · refine z_icmp_ge_t (M := M_X9_roundedFrom) (tgt := 40) dX9_roundedFrom_30 (by decide) rfl rfl (Int.not_lt.mp h_47) ?_
      refine z_iload_n (M := M_X9_roundedFrom) dX9_roundedFrom_40 rfl ?_
      refine z_iload (M := M_X9_roundedFrom) dX9_roundedFrom_41 rfl ?_
      refine z_iadd (M := M_X9_roundedFrom) dX9_roundedFrom_43 ?_
      refine z_iconst (M := M_X9_roundedFrom) dX9_roundedFrom_44 ?_
      refine z_iadd (M := M_X9_roundedFrom) dX9_roundedFrom_45 ?_
      exact z_st (by rw [if_neg (c := (w32 i_4) < (w32 whole_0)) h_47]) J_13
  · refine z_icmp_ge_t (M := M_X9_roundedFrom) (tgt := 110) dX9_roundedFrom_23 (by decide) rfl rfl (Int.not_lt.mp h_12) ?_
    exact J_84 _ _ _ _ (K_11 _ (Option.some.inj H).symm).symm
theorem c_X9_readNumber (hl : l.stackTraces = false) {σ : SG} {r : Bool} {σ' : SG}  (H : fW_readNumber σ = some (r, σ')) : en_S l E M_X9_readNumber 3 0 0 [vr 167] σ (pS (some (zv r)) σ') := by
  unfold fW_readNumber at H
  refine z_mk (lv := [some (vr 167), none, none, none, none, none, none, none, none, none, none]) m_X9_readNumber rfl hl (Nat.le_of_ble_eq_true rfl) rfl ?_
  refine z_aload_n (M := M_X9_readNumber) dX9_readNumber_0 rfl ?_
  obtain ⟨σ_2, hc_1, H⟩ := bd_e H
  refine z_callV (M := M_X9_readNumber) (M' := M_X9_skipBlanks) (as := []) (rest := []) rfl rfl dX9_readNumber_1 m_X9_skipBlanks t_776 t_778 s_4 (c_X9_skipBlanks hl  hc_1) rfl rfl ly_167 rfl (Nat.le_of_ble_eq_true rfl) (Nat.le_of_ble_eq_true rfl) (Nat.le_of_ble_eq_true rfl) (Nat.le_of_ble_eq_true rfl) ?_
  refine z_st (st' := []) rfl ?_
  refine z_aload_n (M := M_X9_readNumber) dX9_readNumber_4 rfl ?_
  refine z_aload_n (M := M_X9_readNumber) dX9_readNumber_5 rfl ?_
  refine z_getI (M := M_X9_readNumber) (ci := 12) (C := RX9) (T := TX9) (Nf := 12) (ty := tyX9) cl12 dX9_readNumber_6 ly_167 6 (by decide) t_111 rfl rfl ?_
  obtain ⟨x_4, hc_3, H⟩ := bd_e H
  refine z_callV (M := M_X9_readNumber) (M' := M_X9_signAt) (as := [vi (σ_2 kW_at 0)]) (rest := []) rfl rfl dX9_readNumber_9 m_X9_signAt t_783 t_785 s_5 (c_X9_signAt hl  hc_3) rfl rfl ly_167 rfl (Nat.le_of_ble_eq_true rfl) (Nat.le_of_ble_eq_true rfl) (Nat.le_of_ble_eq_true rfl) (Nat.le_of_ble_eq_true rfl) ?_
  refine z_st (st' := [vi x_4]) rfl ?_
  refine z_istore_n (M := M_X9_readNumber) (lv' := [some (vr 167), some (vi x_4), none, none, none, none, none, none, none, none, none]) dX9_readNumber_12 (Nat.le_of_ble_eq_true rfl) rfl rfl ?_
  refine z_iload_n (M := M_X9_readNumber) dX9_readNumber_13 rfl ?_
  refine z_callS (M := M_X9_readNumber) (M' := M_X9_beginsNumber) (as := [vi x_4]) (rest := []) rfl rfl dX9_readNumber_14 m_X9_beginsNumber t_794 t_795 (c_X9_beginsNumber hl  rfl) rfl rfl (Nat.le_of_ble_eq_true rfl) (Nat.le_of_ble_eq_true rfl) (Nat.le_of_ble_eq_true rfl) (Nat.le_of_ble_eq_true rfl) ?_
  refine z_st (st' := [zv (fW_beginsNumber x_4)]) rfl ?_
  rcases if_e H with ⟨h_5, H⟩ | ⟨h_5, H⟩
  · refine z_zne_t (M := M_X9_readNumber) (tgt := 25) dX9_readNumber_17 (by decide) h_5 ?_
    have J_6 : YY l E M_X9_readNumber 3 0 0 (pS (some (zv r)) σ') 45 [some (vr 167), some (vi x_4), none, none, none, none, none, none, none, none, none] [vi (if (fW_isSign x_4) = true then ((σ_2 kW_at 0) + 1) else (σ_2 kW_at 0))] σ_2 0 0 := by
      obtain ⟨x_7, x_7_e, H⟩ := lt_e H
      refine z_st (congrArg (fun z => vi z :: []) x_7_e) ?_
      refine z_istore_n (M := M_X9_readNumber) (lv' := [some (vr 167), some (vi x_4), some (vi x_7), none, none, none, none, none, none, none, none]) dX9_readNumber_45 (Nat.le_of_ble_eq_true rfl) rfl rfl ?_
      refine z_aload_n (M := M_X9_readNumber) dX9_readNumber_46 rfl ?_
      refine z_iload_n (M := M_X9_readNumber) dX9_readNumber_47 rfl ?_
      obtain ⟨x_9, hc_8, H⟩ := bd_e H
      refine z_callV (M := M_X9_readNumber) (M' := M_X9_digitsFrom) (as := [vi x_7]) (rest := []) rfl rfl dX9_readNumber_48 m_X9_digitsFrom t_915 t_917 s_18 (c_X9_digitsFrom hl  hc_8) rfl rfl ly_167 rfl (Nat.le_of_ble_eq_true rfl) (Nat.le_of_ble_eq_true rfl) (Nat.le_of_ble_eq_true rfl) (Nat.le_of_ble_eq_true rfl) ?_
      refine z_st (st' := [vi x_9]) rfl ?_
      refine z_istore_n (M := M_X9_readNumber) (lv' := [some (vr 167), some (vi x_4), some (vi x_7), some (vi x_9), none, none, none, none, none, none, none]) dX9_readNumber_51 (Nat.le_of_ble_eq_true rfl) rfl rfl ?_
      refine z_iload_n (M := M_X9_readNumber) dX9_readNumber_52 rfl ?_
      refine z_iload_n (M := M_X9_readNumber) dX9_readNumber_53 rfl ?_
      refine z_iadd (M := M_X9_readNumber) dX9_readNumber_54 ?_
      refine z_istore (M := M_X9_readNumber) (lv' := [some (vr 167), some (vi x_4), some (vi x_7), some (vi x_9), some (vi (x_7 + x_9)), none, none, none, none, none, none]) dX9_readNumber_55 (Nat.le_of_ble_eq_true rfl) rfl rfl ?_
      refine z_iconst (M := M_X9_readNumber) dX9_readNumber_57 ?_
      refine z_istore (M := M_X9_readNumber) (lv' := [some (vr 167), some (vi x_4), some (vi x_7), some (vi x_9), some (vi (x_7 + x_9)), some (vi 0), none, none, none, none, none]) dX9_readNumber_58 (Nat.le_of_ble_eq_true rfl) rfl rfl ?_
      obtain ⟨v_13, he_10, hk_11⟩ := bd_e H
      have J_145 : ∀ i_21 fraction_22, v_13 = (i_21, fraction_22) → YY l E M_X9_readNumber 3 0 0 (pS (some (zv r)) σ') 90 [some (vr 167), some (vi x_4), some (vi x_7), some (vi x_9), some (vi i_21), some (vi fraction_22), none, none, none, none, none] [] σ_2 0 0 := by
        intro i_21 fraction_22 e
        have H := hk_11
        rw [e] at H
        have J_23 : YY l E M_X9_readNumber 3 0 0 (pS (some (zv r)) σ') 102 [some (vr 167), some (vi x_4), some (vi x_7), some (vi x_9), some (vi i_21), some (vi fraction_22), none, none, none, none, none] [zv (decide (0 < (w32 (x_9 + fraction_22))))] σ_2 0 0 := by
          refine z_zstore (M := M_X9_readNumber) (lv' := [some (vr 167), some (vi x_4), some (vi x_7), some (vi x_9), some (vi i_21), some (vi fraction_22), some (zv (decide (0 < (w32 (x_9 + fraction_22))))), none, none, none, none]) dX9_readNumber_102 (Nat.le_of_ble_eq_true rfl) rfl rfl ?_
          refine z_iconst (M := M_X9_readNumber) dX9_readNumber_104 ?_
          refine z_istore (M := M_X9_readNumber) (lv' := [some (vr 167), some (vi x_4), some (vi x_7), some (vi x_9), some (vi i_21), some (vi fraction_22), some (zv (decide (0 < (w32 (x_9 + fraction_22))))), some (vi 0), none, none, none]) dX9_readNumber_105 (Nat.le_of_ble_eq_true rfl) rfl rfl ?_
          obtain ⟨v_27, he_24, hk_25⟩ := bd_e H
          have J_143 : ∀ i_116 good_117 exponent_118, v_27 = (i_116, good_117, exponent_118) → YY l E M_X9_readNumber 3 0 0 (pS (some (zv r)) σ') 223 [some (vr 167), some (vi x_4), some (vi x_7), some (vi x_9), some (vi i_116), some (vi fraction_22), some (zv good_117), some (vi exponent_118), none, none, none] [] σ_2 0 0 := by
            intro i_116 good_117 exponent_118 e
            have H := hk_25
            rw [e] at H
            refine z_aload_n (M := M_X9_readNumber) dX9_readNumber_223 rfl ?_
            refine z_iload (M := M_X9_readNumber) dX9_readNumber_224 rfl ?_
            obtain ⟨x_120, hc_119, H⟩ := bd_e H
            refine z_callV (M := M_X9_readNumber) (M' := M_X9_signAt) (as := [vi i_116]) (rest := []) rfl rfl dX9_readNumber_226 m_X9_signAt t_783 t_785 s_5 (c_X9_signAt hl  hc_119) rfl rfl ly_167 rfl (Nat.le_of_ble_eq_true rfl) (Nat.le_of_ble_eq_true rfl) (Nat.le_of_ble_eq_true rfl) (Nat.le_of_ble_eq_true rfl) ?_
            refine z_st (st' := [vi x_120]) rfl ?_
            refine z_istore (M := M_X9_readNumber) (lv' := [some (vr 167), some (vi x_4), some (vi x_7), some (vi x_9), some (vi i_116), some (vi fraction_22), some (zv good_117), some (vi exponent_118), some (vi x_120), none, none]) dX9_readNumber_229 (Nat.le_of_ble_eq_true rfl) rfl rfl ?_
            rcases if_e H with ⟨h_134, H⟩ | ⟨h_134, H⟩
            · have J_135 : YY l E M_X9_readNumber 3 0 0 (pS (some (zv r)) σ') 252 [some (vr 167), some (vi x_4), some (vi x_7), some (vi x_9), some (vi i_116), some (vi fraction_22), some (zv good_117), some (vi exponent_118), some (vi x_120), none, none] [] σ_2 0 0 := by
                refine z_aload_n (M := M_X9_readNumber) dX9_readNumber_252 rfl ?_
                refine z_iconst (M := M_X9_readNumber) dX9_readNumber_253 ?_
                obtain ⟨⟨x_123, σ_122⟩, hc_121, H⟩ := bd_e H
                refine z_callV (M := M_X9_readNumber) (M' := M_X9_fail) (as := [vi 4]) (rest := []) rfl rfl dX9_readNumber_254 m_X9_fail t_797 t_799 s_7 (c_X9_fail hl  hc_121) rfl rfl ly_167 rfl (Nat.le_of_ble_eq_true rfl) (Nat.le_of_ble_eq_true rfl) (Nat.le_of_ble_eq_true rfl) (Nat.le_of_ble_eq_true rfl) ?_
                refine z_st (st' := [zv x_123]) rfl ?_
                cases H
                exact z_zret (M := M_X9_readNumber) dX9_readNumber_257 rfl (Nat.le_of_ble_eq_true rfl) (Nat.le_of_ble_eq_true rfl) ⟨rfl, rfl⟩
              refine z_zload (M := M_X9_readNumber) dX9_readNumber_231 rfl ?_
              by_cases h_137 : good_117 = true
              · refine z_zeq_f (M := M_X9_readNumber) (tgt := 252) dX9_readNumber_233 (by decide) h_137 ?_
                refine z_iload (M := M_X9_readNumber) dX9_readNumber_236 rfl ?_
                refine z_callS (M := M_X9_readNumber) (M' := M_X9_beginsNumber) (as := [vi x_120]) (rest := []) rfl rfl dX9_readNumber_238 m_X9_beginsNumber t_794 t_795 (c_X9_beginsNumber hl  rfl) rfl rfl (Nat.le_of_ble_eq_true rfl) (Nat.le_of_ble_eq_true rfl) (Nat.le_of_ble_eq_true rfl) (Nat.le_of_ble_eq_true rfl) ?_
                refine z_st (st' := [zv (fW_beginsNumber x_120)]) rfl ?_
                by_cases h_138 : (fW_beginsNumber x_120) = true
                · refine z_zne_t (M := M_X9_readNumber) (tgt := 252) dX9_readNumber_241 (by decide) h_138 ?_
                  exact J_135
                · refine z_zne_f (M := M_X9_readNumber) (tgt := 252) dX9_readNumber_241 (by decide) h_138 ?_
                  refine z_iload (M := M_X9_readNumber) dX9_readNumber_244 rfl ?_
                  refine z_callS (M := M_X9_readNumber) (M' := M_X9_isLetter) (as := [vi x_120]) (rest := []) rfl rfl dX9_readNumber_246 m_X9_isLetter t_787 t_788 (c_X9_isLetter hl  rfl) rfl rfl (Nat.le_of_ble_eq_true rfl) (Nat.le_of_ble_eq_true rfl) (Nat.le_of_ble_eq_true rfl) (Nat.le_of_ble_eq_true rfl) ?_
                  refine z_st (st' := [zv (fW_isLetter x_120)]) rfl ?_
                  by_cases h_139 : (fW_isLetter x_120) = true
                  · refine z_zeq_f (M := M_X9_readNumber) (tgt := 258) dX9_readNumber_249 (by decide) h_139 ?_
                    exact J_135
                  · refine z_zeq_t (M := M_X9_readNumber) (tgt := 258) dX9_readNumber_249 (by decide) h_139 ?_
                    exact absurd h_134 (fun q => q.elim (fun q => q.elim (not_not_intro h_137) h_138) h_139)
              · refine z_zeq_t (M := M_X9_readNumber) (tgt := 252) dX9_readNumber_233 (by decide) h_137 ?_
                exact J_135
            · have J_136 : YY l E M_X9_readNumber 3 0 0 (pS (some (zv r)) σ') 258 [some (vr 167), some (vi x_4), some (vi x_7), some (vi x_9), some (vi i_116), some (vi fraction_22), some (zv good_117), some (vi exponent_118), some (vi x_120), none, none] [] σ_2 0 0 := by
                refine z_aload_n (M := M_X9_readNumber) dX9_readNumber_258 rfl ?_
                refine z_iload_n (M := M_X9_readNumber) dX9_readNumber_259 rfl ?_
                refine z_iload_n (M := M_X9_readNumber) dX9_readNumber_260 rfl ?_
                refine z_iload (M := M_X9_readNumber) dX9_readNumber_261 rfl ?_
                refine z_iload (M := M_X9_readNumber) dX9_readNumber_263 rfl ?_
                refine z_aload_n (M := M_X9_readNumber) dX9_readNumber_265 rfl ?_
                refine z_getI (M := M_X9_readNumber) (ci := 12) (C := RX9) (T := TX9) (Nf := 12) (ty := tyX9) cl12 dX9_readNumber_266 ly_167 0 (by decide) t_105 rfl rfl ?_
                refine z_iadd (M := M_X9_readNumber) dX9_readNumber_269 ?_
                obtain ⟨x_125, hc_124, H⟩ := bd_e H
                refine z_callV (M := M_X9_readNumber) (M' := M_X9_roundedFrom) (as := [vi x_7, vi x_9, vi fraction_22, vi (exponent_118 + (σ_2 kW_digits 0))]) (rest := []) rfl rfl dX9_readNumber_270 m_X9_roundedFrom t_927 t_929 s_20 (c_X9_roundedFrom hl  hc_124) rfl rfl ly_167 rfl (Nat.le_of_ble_eq_true rfl) (Nat.le_of_ble_eq_true rfl) (Nat.le_of_ble_eq_true rfl) (Nat.le_of_ble_eq_true rfl) ?_
                refine z_st (st' := [vl x_125]) rfl ?_
                refine z_lstore (M := M_X9_readNumber) (lv' := [some (vr 167), some (vi x_4), some (vi x_7), some (vi x_9), some (vi i_116), some (vi fraction_22), some (zv good_117), some (vi exponent_118), some (vi x_120), some (vl x_125), none]) dX9_readNumber_273 (Nat.le_of_ble_eq_true rfl) rfl rfl ?_
                refine z_lload (M := M_X9_readNumber) dX9_readNumber_275 rfl ?_
                refine z_ldc2 (M := M_X9_readNumber) (n := 1000000000) dX9_readNumber_277 t_936 (by decide +kernel) ?_
                refine z_lcmp (M := M_X9_readNumber) dX9_readNumber_280 ?_
                rcases if_e H with ⟨h_126, H⟩ | ⟨h_126, H⟩
                · refine z_lif_le_f (M := M_X9_readNumber) (tgt := 290) dX9_readNumber_281 (by decide) rfl (by decide +kernel) h_126 ?_
                  refine z_aload_n (M := M_X9_readNumber) dX9_readNumber_284 rfl ?_
                  refine z_iconst (M := M_X9_readNumber) dX9_readNumber_285 ?_
                  obtain ⟨⟨x_129, σ_128⟩, hc_127, H⟩ := bd_e H
                  refine z_callV (M := M_X9_readNumber) (M' := M_X9_fail) (as := [vi 5]) (rest := []) rfl rfl dX9_readNumber_286 m_X9_fail t_797 t_799 s_7 (c_X9_fail hl  hc_127) rfl rfl ly_167 rfl (Nat.le_of_ble_eq_true rfl) (Nat.le_of_ble_eq_true rfl) (Nat.le_of_ble_eq_true rfl) (Nat.le_of_ble_eq_true rfl) ?_
                  refine z_st (st' := [zv x_129]) rfl ?_
                  cases H
                  exact z_zret (M := M_X9_readNumber) dX9_readNumber_289 rfl (Nat.le_of_ble_eq_true rfl) (Nat.le_of_ble_eq_true rfl) ⟨rfl, rfl⟩
                · refine z_lif_le_t (M := M_X9_readNumber) (tgt := 290) dX9_readNumber_281 (by decide) rfl (by decide +kernel) (Int.not_lt.mp h_126) ?_
                  refine z_aload_n (M := M_X9_readNumber) dX9_readNumber_290 rfl ?_
                  have J_130 : YY l E M_X9_readNumber 3 0 0 (pS (some (zv r)) σ') 305 [some (vr 167), some (vi x_4), some (vi x_7), some (vi x_9), some (vi i_116), some (vi fraction_22), some (zv good_117), some (vi exponent_118), some (vi x_120), some (vl x_125), none] [vl (if (w32 x_4) = 45 then (-x_125) else x_125), vr 167] σ_2 0 0 := by
                    refine z_l2i (M := M_X9_readNumber) dX9_readNumber_305 ?_
                    obtain ⟨σ_131, σ_131_e, H⟩ := wf_e H
                    refine z_putI (M := M_X9_readNumber) (ci := 12) (C := RX9) (T := TX9) (Nf := 12) (ty := tyX9) cl12 dX9_readNumber_306 ly_167 9 (by decide) t_114 rfl rfl rfl rfl σ_131_e ?_
                    refine z_aload_n (M := M_X9_readNumber) dX9_readNumber_309 rfl ?_
                    refine z_iload (M := M_X9_readNumber) dX9_readNumber_310 rfl ?_
                    obtain ⟨σ_132, σ_132_e, H⟩ := wf_e H
                    refine z_putI (M := M_X9_readNumber) (ci := 12) (C := RX9) (T := TX9) (Nf := 12) (ty := tyX9) cl12 dX9_readNumber_312 ly_167 6 (by decide) t_111 rfl rfl rfl rfl σ_132_e ?_
                    refine z_zconst (M := M_X9_readNumber) (b := true) dX9_readNumber_315 rfl ?_
                    cases H
                    exact z_zret (M := M_X9_readNumber) dX9_readNumber_316 rfl (Nat.le_of_ble_eq_true rfl) (Nat.le_of_ble_eq_true rfl) ⟨rfl, rfl⟩
                  refine z_iload_n (M := M_X9_readNumber) dX9_readNumber_291 rfl ?_
                  refine z_bipush (M := M_X9_readNumber) dX9_readNumber_292 (by decide +kernel) ?_
                  by_cases h_133 : (w32 x_4) = 45
                  · refine z_icmp_ne_f (M := M_X9_readNumber) (tgt := 303) dX9_readNumber_294 (by decide) rfl (by decide +kernel) h_133 ?_
                    refine z_lload (M := M_X9_readNumber) dX9_readNumber_297 rfl ?_
                    refine z_lneg (M := M_X9_readNumber) dX9_readNumber_299 ?_
                    refine z_goto (M := M_X9_readNumber) (tgt := 305) dX9_readNumber_300 (by decide) ?_
                    exact z_st (by rw [if_pos (c := (w32 x_4) = 45) h_133]) J_130
                  · refine z_icmp_ne_t (M := M_X9_readNumber) (tgt := 303) dX9_readNumber_294 (by decide) rfl (by decide +kernel) h_133 ?_
                    refine z_lload (M := M_X9_readNumber) dX9_readNumber_303 rfl ?_
                    exact z_st (by rw [if_neg (c := (w32 x_4) = 45) h_133]) J_130
              refine z_zload (M := M_X9_readNumber) dX9_readNumber_231 rfl ?_
              by_cases h_140 : good_117 = true
              · refine z_zeq_f (M := M_X9_readNumber) (tgt := 252) dX9_readNumber_233 (by decide) h_140 ?_
                refine z_iload (M := M_X9_readNumber) dX9_readNumber_236 rfl ?_
                refine z_callS (M := M_X9_readNumber) (M' := M_X9_beginsNumber) (as := [vi x_120]) (rest := []) rfl rfl dX9_readNumber_238 m_X9_beginsNumber t_794 t_795 (c_X9_beginsNumber hl  rfl) rfl rfl (Nat.le_of_ble_eq_true rfl) (Nat.le_of_ble_eq_true rfl) (Nat.le_of_ble_eq_true rfl) (Nat.le_of_ble_eq_true rfl) ?_
                refine z_st (st' := [zv (fW_beginsNumber x_120)]) rfl ?_
                by_cases h_141 : (fW_beginsNumber x_120) = true
                · refine z_zne_t (M := M_X9_readNumber) (tgt := 252) dX9_readNumber_241 (by decide) h_141 ?_
                  exact absurd (Or.inl (Or.inr h_141)) h_134
                · refine z_zne_f (M := M_X9_readNumber) (tgt := 252) dX9_readNumber_241 (by decide) h_141 ?_
                  refine z_iload (M := M_X9_readNumber) dX9_readNumber_244 rfl ?_
                  refine z_callS (M := M_X9_readNumber) (M' := M_X9_isLetter) (as := [vi x_120]) (rest := []) rfl rfl dX9_readNumber_246 m_X9_isLetter t_787 t_788 (c_X9_isLetter hl  rfl) rfl rfl (Nat.le_of_ble_eq_true rfl) (Nat.le_of_ble_eq_true rfl) (Nat.le_of_ble_eq_true rfl) (Nat.le_of_ble_eq_true rfl) ?_
                  refine z_st (st' := [zv (fW_isLetter x_120)]) rfl ?_
                  by_cases h_142 : (fW_isLetter x_120) = true
                  · refine z_zeq_f (M := M_X9_readNumber) (tgt := 258) dX9_readNumber_249 (by decide) h_142 ?_
                    exact absurd (Or.inr h_142) h_134
                  · refine z_zeq_t (M := M_X9_readNumber) (tgt := 258) dX9_readNumber_249 (by decide) h_142 ?_
                    exact J_136
              · refine z_zeq_t (M := M_X9_readNumber) (tgt := 252) dX9_readNumber_233 (by decide) h_140 ?_
                exact absurd (Or.inl (Or.inl h_140)) h_134
          have H := he_24
          obtain ⟨v_111, he_112, hk_113⟩ := bd_e H
          have J_114 : v_111 = true → YY l E M_X9_readNumber 3 0 0 (pS (some (zv r)) σ') 134 [some (vr 167), some (vi x_4), some (vi x_7), some (vi x_9), some (vi i_21), some (vi fraction_22), some (zv (decide (0 < (w32 (x_9 + fraction_22))))), some (vi 0), none, none, none] [] σ_2 0 0 := by
            intro e
            have H := hk_113
            rw [e] at H
            rcases if_e H with ⟨_, H⟩ | ⟨q, H⟩
            · obtain ⟨v_106, he_107, hk_108⟩ := bd_e H
              have J_109 : ∀ x_86, v_106 = x_86 → YY l E M_X9_readNumber 3 0 0 (pS (some (zv r)) σ') 159 [some (vr 167), some (vi x_4), some (vi x_7), some (vi x_9), some (vi i_21), some (vi fraction_22), some (zv (decide (0 < (w32 (x_9 + fraction_22))))), some (vi 0), none, none, none] [vi x_86] σ_2 0 0 := by
                intro x_86 e
                have H := hk_108
                rw [e] at H
                refine z_istore (M := M_X9_readNumber) (lv' := [some (vr 167), some (vi x_4), some (vi x_7), some (vi x_9), some (vi i_21), some (vi fraction_22), some (zv (decide (0 < (w32 (x_9 + fraction_22))))), some (vi 0), some (vi x_86), none, none]) dX9_readNumber_159 (Nat.le_of_ble_eq_true rfl) rfl rfl ?_
                refine z_aload_n (M := M_X9_readNumber) dX9_readNumber_161 rfl ?_
                refine z_iload (M := M_X9_readNumber) dX9_readNumber_162 rfl ?_
                obtain ⟨x_88, hc_87, H⟩ := bd_e H
                refine z_callV (M := M_X9_readNumber) (M' := M_X9_digitsFrom) (as := [vi x_86]) (rest := []) rfl rfl dX9_readNumber_164 m_X9_digitsFrom t_915 t_917 s_18 (c_X9_digitsFrom hl  hc_87) rfl rfl ly_167 rfl (Nat.le_of_ble_eq_true rfl) (Nat.le_of_ble_eq_true rfl) (Nat.le_of_ble_eq_true rfl) (Nat.le_of_ble_eq_true rfl) ?_
                refine z_st (st' := [vi x_88]) rfl ?_
                refine z_istore (M := M_X9_readNumber) (lv' := [some (vr 167), some (vi x_4), some (vi x_7), some (vi x_9), some (vi i_21), some (vi fraction_22), some (zv (decide (0 < (w32 (x_9 + fraction_22))))), some (vi 0), some (vi x_86), some (vi x_88), none]) dX9_readNumber_167 (Nat.le_of_ble_eq_true rfl) rfl rfl ?_
                have J_89 : YY l E M_X9_readNumber 3 0 0 (pS (some (zv r)) σ') 179 [some (vr 167), some (vi x_4), some (vi x_7), some (vi x_9), some (vi i_21), some (vi fraction_22), some (zv (decide (0 < (w32 (x_9 + fraction_22))))), some (vi 0), some (vi x_86), some (vi x_88), none] [zv (decide (0 < (w32 x_88)))] σ_2 0 0 := by
                  refine z_zstore (M := M_X9_readNumber) (lv' := [some (vr 167), some (vi x_4), some (vi x_7), some (vi x_9), some (vi i_21), some (vi fraction_22), some (zv (decide (0 < (w32 x_88)))), some (vi 0), some (vi x_86), some (vi x_88), none]) dX9_readNumber_179 (Nat.le_of_ble_eq_true rfl) rfl rfl ?_
                  obtain ⟨v_101, he_102, hk_103⟩ := bd_e H
                  have J_104 : ∀ x_99, v_101 = x_99 → YY l E M_X9_readNumber 3 0 0 (pS (some (zv r)) σ') 214 [some (vr 167), some (vi x_4), some (vi x_7), some (vi x_9), some (vi i_21), some (vi fraction_22), some (zv (decide (0 < (w32 x_88)))), some (vi 0), some (vi x_86), some (vi x_88), none] [vi x_99] σ_2 0 0 := by
                    intro x_99 e
                    have H := hk_103
                    rw [e] at H
                    refine z_istore (M := M_X9_readNumber) (lv' := [some (vr 167), some (vi x_4), some (vi x_7), some (vi x_9), some (vi i_21), some (vi fraction_22), some (zv (decide (0 < (w32 x_88)))), some (vi x_99), some (vi x_86), some (vi x_88), none]) dX9_readNumber_214 (Nat.le_of_ble_eq_true rfl) rfl rfl ?_
                    refine z_iload (M := M_X9_readNumber) dX9_readNumber_216 rfl ?_
                    refine z_iload (M := M_X9_readNumber) dX9_readNumber_218 rfl ?_
                    refine z_iadd (M := M_X9_readNumber) dX9_readNumber_220 ?_
                    refine z_istore (M := M_X9_readNumber) (lv' := [some (vr 167), some (vi x_4), some (vi x_7), some (vi x_9), some (vi (x_86 + x_88)), some (vi fraction_22), some (zv (decide (0 < (w32 x_88)))), some (vi x_99), some (vi x_86), some (vi x_88), none]) dX9_readNumber_221 (Nat.le_of_ble_eq_true rfl) rfl rfl ?_
                    refine z_le (lv' := [some (vr 167), some (vi x_4), some (vi x_7), some (vi x_9), some (vi (x_86 + x_88)), some (vi fraction_22), some (zv (decide (0 < (w32 x_88)))), some (vi x_99), none, none, none]) ⟨Or.inr rfl, Or.inr rfl, Or.inr rfl, Or.inr rfl, Or.inr rfl, Or.inr rfl, Or.inr rfl, Or.inr rfl, Or.inl rfl, Or.inl rfl, Or.inl rfl, trivial⟩ ?_
                    exact J_143 _ _ _ (Option.some.inj H).symm
                  have H := he_102
                  refine z_aload_n (M := M_X9_readNumber) dX9_readNumber_181 rfl ?_
                  refine z_iload (M := M_X9_readNumber) dX9_readNumber_182 rfl ?_
                  refine z_iconst (M := M_X9_readNumber) dX9_readNumber_184 ?_
                  refine z_iadd (M := M_X9_readNumber) dX9_readNumber_185 ?_
                  obtain ⟨x_91, hc_90, H⟩ := bd_e H
                  refine z_callV (M := M_X9_readNumber) (M' := M_X9_signAt) (as := [vi (i_21 + 1)]) (rest := []) rfl rfl dX9_readNumber_186 m_X9_signAt t_783 t_785 s_5 (c_X9_signAt hl  hc_90) rfl rfl ly_167 rfl (Nat.le_of_ble_eq_true rfl) (Nat.le_of_ble_eq_true rfl) (Nat.le_of_ble_eq_true rfl) (Nat.le_of_ble_eq_true rfl) ?_
                  refine z_st (st' := [vi x_91]) rfl ?_
                  refine z_bipush (M := M_X9_readNumber) dX9_readNumber_189 (by decide +kernel) ?_
                  rcases if_e H with ⟨h_92, H⟩ | ⟨h_92, H⟩
                  · refine z_icmp_ne_f (M := M_X9_readNumber) (tgt := 206) dX9_readNumber_191 (by decide) rfl (by decide +kernel) h_92 ?_
                    refine z_aload_n (M := M_X9_readNumber) dX9_readNumber_194 rfl ?_
                    refine z_iload (M := M_X9_readNumber) dX9_readNumber_195 rfl ?_
                    refine z_iload (M := M_X9_readNumber) dX9_readNumber_197 rfl ?_
                    obtain ⟨x_94, hc_93, H⟩ := bd_e H
                    refine z_callV (M := M_X9_readNumber) (M' := M_X9_exponentFrom) (as := [vi x_86, vi x_88]) (rest := []) rfl rfl dX9_readNumber_199 m_X9_exponentFrom t_922 t_924 s_19 (c_X9_exponentFrom hl  hc_93) rfl rfl ly_167 rfl (Nat.le_of_ble_eq_true rfl) (Nat.le_of_ble_eq_true rfl) (Nat.le_of_ble_eq_true rfl) (Nat.le_of_ble_eq_true rfl) ?_
                    refine z_st (st' := [vi x_94]) rfl ?_
                    refine z_ineg (M := M_X9_readNumber) dX9_readNumber_202 ?_
                    refine z_goto (M := M_X9_readNumber) (tgt := 214) dX9_readNumber_203 (by decide) ?_
                    exact J_104 _ (Option.some.inj H).symm
                  · refine z_icmp_ne_t (M := M_X9_readNumber) (tgt := 206) dX9_readNumber_191 (by decide) rfl (by decide +kernel) h_92 ?_
                    refine z_aload_n (M := M_X9_readNumber) dX9_readNumber_206 rfl ?_
                    refine z_iload (M := M_X9_readNumber) dX9_readNumber_207 rfl ?_
                    refine z_iload (M := M_X9_readNumber) dX9_readNumber_209 rfl ?_
                    obtain ⟨x_97, hc_96, H⟩ := bd_e H
                    refine z_callV (M := M_X9_readNumber) (M' := M_X9_exponentFrom) (as := [vi x_86, vi x_88]) (rest := []) rfl rfl dX9_readNumber_211 m_X9_exponentFrom t_922 t_924 s_19 (c_X9_exponentFrom hl  hc_96) rfl rfl ly_167 rfl (Nat.le_of_ble_eq_true rfl) (Nat.le_of_ble_eq_true rfl) (Nat.le_of_ble_eq_true rfl) (Nat.le_of_ble_eq_true rfl) ?_
                    refine z_st (st' := [vi x_97]) rfl ?_
                    exact J_104 _ (Option.some.inj H).symm
                refine z_iload (M := M_X9_readNumber) dX9_readNumber_169 rfl ?_
                by_cases h_105 : 0 < (w32 x_88)
                · refine z_if_le_f (M := M_X9_readNumber) (tgt := 178) dX9_readNumber_171 (by decide) rfl h_105 ?_
                  refine z_iconst (M := M_X9_readNumber) dX9_readNumber_174 ?_
                  refine z_goto (M := M_X9_readNumber) (tgt := 179) dX9_readNumber_175 (by decide) ?_
                  exact z_st (by rw [zv_t (p := 0 < (w32 x_88)) h_105]) J_89
                · refine z_if_le_t (M := M_X9_readNumber) (tgt := 178) dX9_readNumber_171 (by decide) rfl (Int.not_lt.mp h_105) ?_
                  refine z_iconst (M := M_X9_readNumber) dX9_readNumber_178 ?_
                  exact z_st (by rw [zv_f (p := 0 < (w32 x_88)) h_105]) J_89
              have H := he_107
              refine z_aload_n (M := M_X9_readNumber) dX9_readNumber_134 rfl ?_
              refine z_iload (M := M_X9_readNumber) dX9_readNumber_135 rfl ?_
              refine z_iconst (M := M_X9_readNumber) dX9_readNumber_137 ?_
              refine z_iadd (M := M_X9_readNumber) dX9_readNumber_138 ?_
              obtain ⟨x_82, hc_81, H⟩ := bd_e H
              refine z_callV (M := M_X9_readNumber) (M' := M_X9_signAt) (as := [vi (i_21 + 1)]) (rest := []) rfl rfl dX9_readNumber_139 m_X9_signAt t_783 t_785 s_5 (c_X9_signAt hl  hc_81) rfl rfl ly_167 rfl (Nat.le_of_ble_eq_true rfl) (Nat.le_of_ble_eq_true rfl) (Nat.le_of_ble_eq_true rfl) (Nat.le_of_ble_eq_true rfl) ?_
              refine z_st (st' := [vi x_82]) rfl ?_
              refine z_callS (M := M_X9_readNumber) (M' := M_X9_isSign) (as := [vi x_82]) (rest := []) rfl rfl dX9_readNumber_142 m_X9_isSign t_912 t_913 (c_X9_isSign hl  rfl) rfl rfl (Nat.le_of_ble_eq_true rfl) (Nat.le_of_ble_eq_true rfl) (Nat.le_of_ble_eq_true rfl) (Nat.le_of_ble_eq_true rfl) ?_
              refine z_st (st' := [zv (fW_isSign x_82)]) rfl ?_
              rcases if_e H with ⟨h_83, H⟩ | ⟨h_83, H⟩
              · refine z_zeq_f (M := M_X9_readNumber) (tgt := 155) dX9_readNumber_145 (by decide) h_83 ?_
                refine z_iload (M := M_X9_readNumber) dX9_readNumber_148 rfl ?_
                refine z_iconst (M := M_X9_readNumber) dX9_readNumber_150 ?_
                refine z_iadd (M := M_X9_readNumber) dX9_readNumber_151 ?_
                refine z_goto (M := M_X9_readNumber) (tgt := 159) dX9_readNumber_152 (by decide) ?_
                exact J_109 _ (Option.some.inj H).symm
              · refine z_zeq_t (M := M_X9_readNumber) (tgt := 155) dX9_readNumber_145 (by decide) h_83 ?_
                refine z_iload (M := M_X9_readNumber) dX9_readNumber_155 rfl ?_
                refine z_iconst (M := M_X9_readNumber) dX9_readNumber_157 ?_
                refine z_iadd (M := M_X9_readNumber) dX9_readNumber_158 ?_
                exact J_109 _ (Option.some.inj H).symm
            · exact absurd rfl q
          have J_115 : v_111 = false → YY l E M_X9_readNumber 3 0 0 (pS (some (zv r)) σ') 223 [some (vr 167), some (vi x_4), some (vi x_7), some (vi x_9), some (vi i_21), some (vi fraction_22), some (zv (decide (0 < (w32 (x_9 + fraction_22))))), some (vi 0), none, none, none] [] σ_2 0 0 := by
            intro e
            have H := hk_113
            rw [e] at H
            rcases if_e H with ⟨q, H⟩ | ⟨_, H⟩
            · exact nomatch q
            · exact J_143 _ _ _ (Option.some.inj H).symm
          have H := he_112
          refine z_zload (M := M_X9_readNumber) dX9_readNumber_107 rfl ?_
          rcases if_e H with ⟨h_69, H⟩ | ⟨h_69, H⟩
          · refine z_zeq_f (M := M_X9_readNumber) (tgt := 223) dX9_readNumber_109 (by decide) h_69 ?_
            refine z_aload_n (M := M_X9_readNumber) dX9_readNumber_112 rfl ?_
            refine z_iload (M := M_X9_readNumber) dX9_readNumber_113 rfl ?_
            obtain ⟨x_71, hc_70, H⟩ := bd_e H
            refine z_callV (M := M_X9_readNumber) (M' := M_X9_signAt) (as := [vi i_21]) (rest := []) rfl rfl dX9_readNumber_115 m_X9_signAt t_783 t_785 s_5 (c_X9_signAt hl  hc_70) rfl rfl ly_167 rfl (Nat.le_of_ble_eq_true rfl) (Nat.le_of_ble_eq_true rfl) (Nat.le_of_ble_eq_true rfl) (Nat.le_of_ble_eq_true rfl) ?_
            refine z_st (st' := [vi x_71]) rfl ?_
            refine z_bipush (M := M_X9_readNumber) dX9_readNumber_118 (by decide +kernel) ?_
            rcases if_e H with ⟨h_72, H⟩ | ⟨h_72, H⟩
            · refine z_icmp_eq_t (M := M_X9_readNumber) (tgt := 134) dX9_readNumber_120 (by decide) rfl (by decide +kernel) h_72 ?_
              exact J_114 (Option.some.inj H).symm
            · refine z_icmp_eq_f (M := M_X9_readNumber) (tgt := 134) dX9_readNumber_120 (by decide) rfl (by decide +kernel) h_72 ?_
              refine z_aload_n (M := M_X9_readNumber) dX9_readNumber_123 rfl ?_
              refine z_iload (M := M_X9_readNumber) dX9_readNumber_124 rfl ?_
              obtain ⟨x_75, hc_74, H⟩ := bd_e H
              refine z_callV (M := M_X9_readNumber) (M' := M_X9_signAt) (as := [vi i_21]) (rest := []) rfl rfl dX9_readNumber_126 m_X9_signAt t_783 t_785 s_5 (c_X9_signAt hl  hc_74) rfl rfl ly_167 rfl (Nat.le_of_ble_eq_true rfl) (Nat.le_of_ble_eq_true rfl) (Nat.le_of_ble_eq_true rfl) (Nat.le_of_ble_eq_true rfl) ?_
              refine z_st (st' := [vi x_75]) rfl ?_
              refine z_bipush (M := M_X9_readNumber) dX9_readNumber_129 (by decide +kernel) ?_
              rcases if_e H with ⟨h_76, H⟩ | ⟨h_76, H⟩
              · refine z_icmp_ne_f (M := M_X9_readNumber) (tgt := 223) dX9_readNumber_131 (by decide) rfl (by decide +kernel) h_76 ?_
                exact J_114 (Option.some.inj H).symm
              · refine z_icmp_ne_t (M := M_X9_readNumber) (tgt := 223) dX9_readNumber_131 (by decide) rfl (by decide +kernel) h_76 ?_
                exact J_115 (Option.some.inj H).symm
          · refine z_zeq_t (M := M_X9_readNumber) (tgt := 223) dX9_readNumber_109 (by decide) h_69 ?_
            exact J_115 (Option.some.inj H).symm
        refine z_iload_n (M := M_X9_readNumber) dX9_readNumber_90 rfl ?_
        refine z_iload (M := M_X9_readNumber) dX9_readNumber_91 rfl ?_
        refine z_iadd (M := M_X9_readNumber) dX9_readNumber_93 ?_
        by_cases h_144 : 0 < (w32 (x_9 + fraction_22))
        · refine z_if_le_f (M := M_X9_readNumber) (tgt := 101) dX9_readNumber_94 (by decide) rfl h_144 ?_
          refine z_iconst (M := M_X9_readNumber) dX9_readNumber_97 ?_
          refine z_goto (M := M_X9_readNumber) (tgt := 102) dX9_readNumber_98 (by decide) ?_
          exact z_st (by rw [zv_t (p := 0 < (w32 (x_9 + fraction_22))) h_144]) J_23
        · refine z_if_le_t (M := M_X9_readNumber) (tgt := 101) dX9_readNumber_94 (by decide) rfl (Int.not_lt.mp h_144) ?_
          refine z_iconst (M := M_X9_readNumber) dX9_readNumber_101 ?_
          exact z_st (by rw [zv_f (p := 0 < (w32 (x_9 + fraction_22))) h_144]) J_23
      have H := he_10
      refine z_aload_n (M := M_X9_readNumber) dX9_readNumber_60 rfl ?_
      refine z_iload (M := M_X9_readNumber) dX9_readNumber_61 rfl ?_
      obtain ⟨x_15, hc_14, H⟩ := bd_e H
      refine z_callV (M := M_X9_readNumber) (M' := M_X9_signAt) (as := [vi (x_7 + x_9)]) (rest := []) rfl rfl dX9_readNumber_63 m_X9_signAt t_783 t_785 s_5 (c_X9_signAt hl  hc_14) rfl rfl ly_167 rfl (Nat.le_of_ble_eq_true rfl) (Nat.le_of_ble_eq_true rfl) (Nat.le_of_ble_eq_true rfl) (Nat.le_of_ble_eq_true rfl) ?_
      refine z_st (st' := [vi x_15]) rfl ?_
      refine z_bipush (M := M_X9_readNumber) dX9_readNumber_66 (by decide +kernel) ?_
      rcases if_e H with ⟨h_16, H⟩ | ⟨h_16, H⟩
      · refine z_icmp_ne_f (M := M_X9_readNumber) (tgt := 90) dX9_readNumber_68 (by decide) rfl (by decide +kernel) h_16 ?_
        refine z_aload_n (M := M_X9_readNumber) dX9_readNumber_71 rfl ?_
        refine z_iload (M := M_X9_readNumber) dX9_readNumber_72 rfl ?_
        refine z_iconst (M := M_X9_readNumber) dX9_readNumber_74 ?_
        refine z_iadd (M := M_X9_readNumber) dX9_readNumber_75 ?_
        obtain ⟨x_18, hc_17, H⟩ := bd_e H
        refine z_callV (M := M_X9_readNumber) (M' := M_X9_digitsFrom) (as := [vi ((x_7 + x_9) + 1)]) (rest := []) rfl rfl dX9_readNumber_76 m_X9_digitsFrom t_915 t_917 s_18 (c_X9_digitsFrom hl  hc_17) rfl rfl ly_167 rfl (Nat.le_of_ble_eq_true rfl) (Nat.le_of_ble_eq_true rfl) (Nat.le_of_ble_eq_true rfl) (Nat.le_of_ble_eq_true rfl) ?_
        refine z_st (st' := [vi x_18]) rfl ?_
        refine z_istore (M := M_X9_readNumber) (lv' := [some (vr 167), some (vi x_4), some (vi x_7), some (vi x_9), some (vi (x_7 + x_9)), some (vi x_18), none, none, none, none, none]) dX9_readNumber_79 (Nat.le_of_ble_eq_true rfl) rfl rfl ?_
        refine z_iload (M := M_X9_readNumber) dX9_readNumber_81 rfl ?_
        refine z_iconst (M := M_X9_readNumber) dX9_readNumber_83 ?_
        refine z_iload (M := M_X9_readNumber) dX9_readNumber_84 rfl ?_
        refine z_iadd (M := M_X9_readNumber) dX9_readNumber_86 ?_
        refine z_iadd (M := M_X9_readNumber) dX9_readNumber_87 ?_
        refine z_istore (M := M_X9_readNumber) (lv' := [some (vr 167), some (vi x_4), some (vi x_7), some (vi x_9), some (vi ((x_7 + x_9) + (1 + x_18))), some (vi x_18), none, none, none, none, none]) dX9_readNumber_88 (Nat.le_of_ble_eq_true rfl) rfl rfl ?_
        exact J_145 _ _ (Option.some.inj H).symm
      · refine z_icmp_ne_t (M := M_X9_readNumber) (tgt := 90) dX9_readNumber_68 (by decide) rfl (by decide +kernel) h_16 ?_
        exact J_145 _ _ (Option.some.inj H).symm
    refine z_iload_n (M := M_X9_readNumber) dX9_readNumber_25 rfl ?_
    refine z_callS (M := M_X9_readNumber) (M' := M_X9_isSign) (as := [vi x_4]) (rest := []) rfl rfl dX9_readNumber_26 m_X9_isSign t_912 t_913 (c_X9_isSign hl  rfl) rfl rfl (Nat.le_of_ble_eq_true rfl) (Nat.le_of_ble_eq_true rfl) (Nat.le_of_ble_eq_true rfl) (Nat.le_of_ble_eq_true rfl) ?_
    refine z_st (st' := [zv (fW_isSign x_4)]) rfl ?_
    by_cases h_146 : (fW_isSign x_4) = true
    · refine z_zeq_f (M := M_X9_readNumber) (tgt := 41) dX9_readNumber_29 (by decide) h_146 ?_
      refine z_aload_n (M := M_X9_readNumber) dX9_readNumber_32 rfl ?_
      refine z_getI (M := M_X9_readNumber) (ci := 12) (C := RX9) (T := TX9) (Nf := 12) (ty := tyX9) cl12 dX9_readNumber_33 ly_167 6 (by decide) t_111 rfl rfl ?_
      refine z_iconst (M := M_X9_readNumber) dX9_readNumber_36 ?_
      refine z_iadd (M := M_X9_readNumber) dX9_readNumber_37 ?_
      refine z_goto (M := M_X9_readNumber) (tgt := 45) dX9_readNumber_38 (by decide) ?_
      exact z_st (by rw [if_pos (c := (fW_isSign x_4) = true) h_146]) J_6
    · refine z_zeq_t (M := M_X9_readNumber) (tgt := 41) dX9_readNumber_29 (by decide) h_146 ?_
      refine z_aload_n (M := M_X9_readNumber) dX9_readNumber_41 rfl ?_
      refine z_getI (M := M_X9_readNumber) (ci := 12) (C := RX9) (T := TX9) (Nf := 12) (ty := tyX9) cl12 dX9_readNumber_42 ly_167 6 (by decide) t_111 rfl rfl ?_
      exact z_st (by rw [if_neg (c := (fW_isSign x_4) = true) h_146]) J_6
  · refine z_zne_f (M := M_X9_readNumber) (tgt := 25) dX9_readNumber_17 (by decide) h_5 ?_
    refine z_aload_n (M := M_X9_readNumber) dX9_readNumber_20 rfl ?_
    obtain ⟨⟨x_149, σ_148⟩, hc_147, H⟩ := bd_e H
    refine z_callV (M := M_X9_readNumber) (M' := M_X9_unexpected) (as := []) (rest := []) rfl rfl dX9_readNumber_21 m_X9_unexpected t_790 t_792 s_6 (c_X9_unexpected hl  hc_147) rfl rfl ly_167 rfl (Nat.le_of_ble_eq_true rfl) (Nat.le_of_ble_eq_true rfl) (Nat.le_of_ble_eq_true rfl) (Nat.le_of_ble_eq_true rfl) ?_
    refine z_st (st' := [zv x_149]) rfl ?_
    cases H
    exact z_zret (M := M_X9_readNumber) dX9_readNumber_24 rfl (Nat.le_of_ble_eq_true rfl) (Nat.le_of_ble_eq_true rfl) ⟨rfl, rfl⟩
theorem c_X9_readCoordinate (hl : l.stackTraces = false) {σ : SG} {r : Bool} {σ' : SG}  (H : fW_readCoordinate σ = some (r, σ')) : en_S l E M_X9_readCoordinate 4 0 0 [vr 167] σ (pS (some (zv r)) σ') := by
  unfold fW_readCoordinate at H
  refine z_mk (lv := [some (vr 167), none]) m_X9_readCoordinate rfl hl (Nat.le_of_ble_eq_true rfl) rfl ?_
  refine z_aload_n (M := M_X9_readCoordinate) dX9_readCoordinate_0 rfl ?_
  obtain ⟨σ_2, hc_1, H⟩ := bd_e H
  refine z_callV (M := M_X9_readCoordinate) (M' := M_X9_skipBlanks) (as := []) (rest := []) rfl rfl dX9_readCoordinate_1 m_X9_skipBlanks t_776 t_778 s_4 (c_X9_skipBlanks hl  hc_1) rfl rfl ly_167 rfl (Nat.le_of_ble_eq_true rfl) (Nat.le_of_ble_eq_true rfl) (Nat.le_of_ble_eq_true rfl) (Nat.le_of_ble_eq_true rfl) ?_
  refine z_st (st' := []) rfl ?_
  refine z_aload_n (M := M_X9_readCoordinate) dX9_readCoordinate_4 rfl ?_
  obtain ⟨hs_3, H⟩ := ck_e H
  refine z_getV (M := M_X9_readCoordinate) (ci := 12) (C := RX9) (T := TX9) (Nf := 12) (ty := tyX9) cl12 dX9_readCoordinate_5 ly_167 4 (by decide) t_109 rfl rfl ?_
  refine z_callV (M := M_X9_readCoordinate) (M' := M_X6_hasRoomForPoint) (as := []) (rest := []) rfl rfl dX9_readCoordinate_8 m_X6_hasRoomForPoint t_904 t_905 t_906 (c_X6_hasRoomForPoint hl hs_3 rfl) rfl rfl (ly_S hs_3) rfl (Nat.le_of_ble_eq_true rfl) (Nat.le_of_ble_eq_true rfl) (Nat.le_of_ble_eq_true rfl) (Nat.le_of_ble_eq_true rfl) ?_
  refine z_st (st' := [zv (fA_hasRoomForPoint σ_2 ((σ_2 kW_shape 0).toNat))]) rfl ?_
  rcases if_e H with ⟨h_4, H⟩ | ⟨h_4, H⟩
  · refine z_zne_t (M := M_X9_readCoordinate) (tgt := 21) dX9_readCoordinate_11 (by decide) h_4 ?_
    refine z_aload_n (M := M_X9_readCoordinate) dX9_readCoordinate_21 rfl ?_
    obtain ⟨⟨x_7, σ_6⟩, hc_5, H⟩ := bd_e H
    refine z_callV (M := M_X9_readCoordinate) (M' := M_X9_readNumber) (as := []) (rest := []) rfl rfl dX9_readCoordinate_22 m_X9_readNumber t_908 t_910 s_17 (c_X9_readNumber hl  hc_5) rfl rfl ly_167 rfl (Nat.le_of_ble_eq_true rfl) (Nat.le_of_ble_eq_true rfl) (Nat.le_of_ble_eq_true rfl) (Nat.le_of_ble_eq_true rfl) ?_
    refine z_st (st' := [zv x_7]) rfl ?_
    rcases if_e H with ⟨h_8, H⟩ | ⟨h_8, H⟩
    · refine z_zne_t (M := M_X9_readCoordinate) (tgt := 30) dX9_readCoordinate_25 (by decide) h_8 ?_
      refine z_aload_n (M := M_X9_readCoordinate) dX9_readCoordinate_30 rfl ?_
      refine z_getI (M := M_X9_readCoordinate) (ci := 12) (C := RX9) (T := TX9) (Nf := 12) (ty := tyX9) cl12 dX9_readCoordinate_31 ly_167 9 (by decide) t_114 rfl rfl ?_
      refine z_istore_n (M := M_X9_readCoordinate) (lv' := [some (vr 167), some (vi (σ_6 kW_number 0))]) dX9_readCoordinate_34 (Nat.le_of_ble_eq_true rfl) rfl rfl ?_
      obtain ⟨v_23, he_24, hk_25⟩ := bd_e H
      have J_26 : ∀ x_21 σ_22, v_23 = (x_21, σ_22) → YY l E M_X9_readCoordinate 4 0 0 (pS (some (zv r)) σ') 62 [some (vr 167), some (vi (σ_6 kW_number 0))] [zv x_21] σ_22 0 0 := by
        intro x_21 σ_22 e
        have H := hk_25
        rw [e] at H
        cases H
        exact z_zret (M := M_X9_readCoordinate) dX9_readCoordinate_62 rfl (Nat.le_of_ble_eq_true rfl) (Nat.le_of_ble_eq_true rfl) ⟨rfl, rfl⟩
      have H := he_24
      refine z_aload_n (M := M_X9_readCoordinate) dX9_readCoordinate_35 rfl ?_
      obtain ⟨⟨x_11, σ_10⟩, hc_9, H⟩ := bd_e H
      refine z_callV (M := M_X9_readCoordinate) (M' := M_X9_readNumber) (as := []) (rest := []) rfl rfl dX9_readCoordinate_36 m_X9_readNumber t_908 t_910 s_17 (c_X9_readNumber hl  hc_9) rfl rfl ly_167 rfl (Nat.le_of_ble_eq_true rfl) (Nat.le_of_ble_eq_true rfl) (Nat.le_of_ble_eq_true rfl) (Nat.le_of_ble_eq_true rfl) ?_
      refine z_st (st' := [zv x_11]) rfl ?_
      rcases if_e H with ⟨h_12, H⟩ | ⟨h_12, H⟩
      · refine z_zeq_f (M := M_X9_readCoordinate) (tgt := 61) dX9_readCoordinate_39 (by decide) h_12 ?_
        refine z_aload_n (M := M_X9_readCoordinate) dX9_readCoordinate_42 rfl ?_
        obtain ⟨hs_13, H⟩ := ck_e H
        refine z_getV (M := M_X9_readCoordinate) (ci := 12) (C := RX9) (T := TX9) (Nf := 12) (ty := tyX9) cl12 dX9_readCoordinate_43 ly_167 4 (by decide) t_109 rfl rfl ?_
        refine z_iload_n (M := M_X9_readCoordinate) dX9_readCoordinate_46 rfl ?_
        refine z_aload_n (M := M_X9_readCoordinate) dX9_readCoordinate_47 rfl ?_
        refine z_getI (M := M_X9_readCoordinate) (ci := 12) (C := RX9) (T := TX9) (Nf := 12) (ty := tyX9) cl12 dX9_readCoordinate_48 ly_167 9 (by decide) t_114 rfl rfl ?_
        obtain ⟨⟨x_16, σ_15⟩, hc_14, H⟩ := bd_e H
        refine z_callV (M := M_X9_readCoordinate) (M' := M_X6_addPoint) (as := [vi (σ_6 kW_number 0), vi (σ_10 kW_number 0)]) (rest := []) rfl rfl dX9_readCoordinate_51 m_X6_addPoint t_937 t_938 t_939 (c_X6_addPoint hl hs_13 hc_14) rfl rfl (ly_S hs_13) rfl (Nat.le_of_ble_eq_true rfl) (Nat.le_of_ble_eq_true rfl) (Nat.le_of_ble_eq_true rfl) (Nat.le_of_ble_eq_true rfl) ?_
        refine z_st (st' := [zv x_16]) rfl ?_
        rcases if_e H with ⟨h_17, H⟩ | ⟨h_17, H⟩
        · refine z_zeq_f (M := M_X9_readCoordinate) (tgt := 61) dX9_readCoordinate_54 (by decide) h_17 ?_
          refine z_zconst (M := M_X9_readCoordinate) (b := true) dX9_readCoordinate_57 rfl ?_
          refine z_goto (M := M_X9_readCoordinate) (tgt := 62) dX9_readCoordinate_58 (by decide) ?_
          exact J_26 _ _ (Option.some.inj H).symm
        · refine z_zeq_t (M := M_X9_readCoordinate) (tgt := 61) dX9_readCoordinate_54 (by decide) h_17 ?_
          refine z_zconst (M := M_X9_readCoordinate) (b := false) dX9_readCoordinate_61 rfl ?_
          exact J_26 _ _ (Option.some.inj H).symm
      · refine z_zeq_t (M := M_X9_readCoordinate) (tgt := 61) dX9_readCoordinate_39 (by decide) h_12 ?_
        refine z_zconst (M := M_X9_readCoordinate) (b := false) dX9_readCoordinate_61 rfl ?_
        exact J_26 _ _ (Option.some.inj H).symm
    · refine z_zne_f (M := M_X9_readCoordinate) (tgt := 30) dX9_readCoordinate_25 (by decide) h_8 ?_
      refine z_zconst (M := M_X9_readCoordinate) (b := false) dX9_readCoordinate_28 rfl ?_
      cases H
      exact z_zret (M := M_X9_readCoordinate) dX9_readCoordinate_29 rfl (Nat.le_of_ble_eq_true rfl) (Nat.le_of_ble_eq_true rfl) ⟨rfl, rfl⟩
  · refine z_zne_f (M := M_X9_readCoordinate) (tgt := 21) dX9_readCoordinate_11 (by decide) h_4 ?_
    refine z_aload_n (M := M_X9_readCoordinate) dX9_readCoordinate_14 rfl ?_
    refine z_bipush (M := M_X9_readCoordinate) dX9_readCoordinate_15 (by decide +kernel) ?_
    obtain ⟨⟨x_29, σ_28⟩, hc_27, H⟩ := bd_e H
    refine z_callV (M := M_X9_readCoordinate) (M' := M_X9_fail) (as := [vi 7]) (rest := []) rfl rfl dX9_readCoordinate_17 m_X9_fail t_797 t_799 s_7 (c_X9_fail hl  hc_27) rfl rfl ly_167 rfl (Nat.le_of_ble_eq_true rfl) (Nat.le_of_ble_eq_true rfl) (Nat.le_of_ble_eq_true rfl) (Nat.le_of_ble_eq_true rfl) ?_
    refine z_st (st' := [zv x_29]) rfl ?_
    cases H
    exact z_zret (M := M_X9_readCoordinate) dX9_readCoordinate_20 rfl (Nat.le_of_ble_eq_true rfl) (Nat.le_of_ble_eq_true rfl) ⟨rfl, rfl⟩
theorem c_X6_addShape (hl : l.stackTraces = false) {σ : SG} {this_0 : Nat} {kind_0 : Int} {parts_0 : Int} {r : Bool} {σ' : SG} (h_this : isS this_0) (H : fA_addShape σ this_0 kind_0 parts_0 = some (r, σ')) : en_S l E M_X6_addShape 1 0 0 [vr this_0, vi kind_0, vi parts_0] σ (pS (some (zv r)) σ') := by
  unfold fA_addShape at H
  refine z_mk (lv := [some (vr this_0), some (vi kind_0), some (vi parts_0)]) m_X6_addShape rfl hl (Nat.le_of_ble_eq_true rfl) rfl ?_
  refine z_aload_n (M := M_X6_addShape) dX6_addShape_0 rfl ?_
  refine z_getI (M := M_X6_addShape) (ci := 9) (C := RX6) (T := TX6) (Nf := 5) (ty := tyX6) cl9 dX6_addShape_1 (ly_S h_this) 3 (by decide) t_72 rfl rfl ?_
  refine z_sipush (M := M_X6_addShape) dX6_addShape_4 (by decide +kernel) ?_
  rcases if_e H with ⟨h_1, H⟩ | ⟨h_1, H⟩
  · refine z_icmp_le_f (M := M_X6_addShape) (tgt := 12) dX6_addShape_7 (by decide) rfl (by decide +kernel) h_1 ?_
    refine z_zconst (M := M_X6_addShape) (b := false) dX6_addShape_10 rfl ?_
    cases H
    exact z_zret (M := M_X6_addShape) dX6_addShape_11 rfl (Nat.le_of_ble_eq_true rfl) (Nat.le_of_ble_eq_true rfl) ⟨rfl, rfl⟩
  · refine z_icmp_le_t (M := M_X6_addShape) (tgt := 12) dX6_addShape_7 (by decide) rfl (by decide +kernel) (Int.not_lt.mp h_1) ?_
    refine z_aload_n (M := M_X6_addShape) dX6_addShape_12 rfl ?_
    refine z_getR (M := M_X6_addShape) (ci := 9) (C := RX6) (T := TX6) (Nf := 5) (ty := tyX6) cl9 dX6_addShape_13 (ly_S h_this) 0 (by decide) t_50 rfl ?_
    refine z_aload_n (M := M_X6_addShape) dX6_addShape_16 rfl ?_
    refine z_getI (M := M_X6_addShape) (ci := 9) (C := RX6) (T := TX6) (Nf := 5) (ty := tyX6) cl9 dX6_addShape_17 (ly_S h_this) 3 (by decide) t_72 rfl rfl ?_
    refine z_iload_n (M := M_X6_addShape) dX6_addShape_20 rfl ?_
    obtain ⟨σ_2, σ_2_e, hi_3, H⟩ := wa_e H
    refine z_iast (M := M_X6_addShape) dX6_addShape_21 (ly_Sp h_this) rfl rfl rfl hi_3 σ_2_e ?_
    refine z_aload_n (M := M_X6_addShape) dX6_addShape_22 rfl ?_
    refine z_getR (M := M_X6_addShape) (ci := 9) (C := RX6) (T := TX6) (Nf := 5) (ty := tyX6) cl9 dX6_addShape_23 (ly_S h_this) 0 (by decide) t_50 rfl ?_
    refine z_aload_n (M := M_X6_addShape) dX6_addShape_26 rfl ?_
    refine z_getI (M := M_X6_addShape) (ci := 9) (C := RX6) (T := TX6) (Nf := 5) (ty := tyX6) cl9 dX6_addShape_27 (ly_S h_this) 3 (by decide) t_72 rfl rfl ?_
    refine z_iconst (M := M_X6_addShape) dX6_addShape_30 ?_
    refine z_iadd (M := M_X6_addShape) dX6_addShape_31 ?_
    refine z_iload_n (M := M_X6_addShape) dX6_addShape_32 rfl ?_
    obtain ⟨σ_4, σ_4_e, hi_5, H⟩ := wa_e H
    refine z_iast (M := M_X6_addShape) dX6_addShape_33 (ly_Sp h_this) rfl rfl rfl hi_5 σ_4_e ?_
    refine z_aload_n (M := M_X6_addShape) dX6_addShape_34 rfl ?_
    refine z_dup (M := M_X6_addShape) dX6_addShape_35 rfl ?_
    refine z_getI (M := M_X6_addShape) (ci := 9) (C := RX6) (T := TX6) (Nf := 5) (ty := tyX6) cl9 dX6_addShape_36 (ly_S h_this) 3 (by decide) t_72 rfl rfl ?_
    refine z_iconst (M := M_X6_addShape) dX6_addShape_39 ?_
    refine z_iadd (M := M_X6_addShape) dX6_addShape_40 ?_
    obtain ⟨σ_6, σ_6_e, H⟩ := wf_e H
    refine z_putI (M := M_X6_addShape) (ci := 9) (C := RX6) (T := TX6) (Nf := 5) (ty := tyX6) cl9 dX6_addShape_41 (ly_S h_this) 3 (by decide) t_72 rfl rfl rfl rfl σ_6_e ?_
    refine z_zconst (M := M_X6_addShape) (b := true) dX6_addShape_44 rfl ?_
    cases H
    exact z_zret (M := M_X6_addShape) dX6_addShape_45 rfl (Nat.le_of_ble_eq_true rfl) (Nat.le_of_ble_eq_true rfl) ⟨rfl, rfl⟩
theorem c_X9_behindWord (hl : l.stackTraces = false) {σ : SG} {r : Int}  (H : fW_behindWord σ = some r) : en_S l E M_X9_behindWord 2 0 0 [vr 167] σ (pS (some (vi r)) σ) := by
  unfold fW_behindWord at H
  refine z_mk (lv := [some (vr 167), none]) m_X9_behindWord rfl hl (Nat.le_of_ble_eq_true rfl) rfl ?_
  refine z_aload_n (M := M_X9_behindWord) dX9_behindWord_0 rfl ?_
  refine z_getI (M := M_X9_behindWord) (ci := 12) (C := RX9) (T := TX9) (Nf := 12) (ty := tyX9) cl12 dX9_behindWord_1 ly_167 6 (by decide) t_111 rfl rfl ?_
  refine z_istore_n (M := M_X9_behindWord) (lv' := [some (vr 167), some (vi (σ kW_at 0))]) dX9_behindWord_4 (Nat.le_of_ble_eq_true rfl) rfl rfl ?_
  obtain ⟨rl_5, hw_2, hk_3⟩ := bd_e H
  have J_25 : ∀ i_24, rl_5 = i_24 → YY l E M_X9_behindWord 2 0 0 (pS (some (vi r)) σ) 31 [some (vr 167), some (vi i_24)] [] σ 0 0 := by
    intro i_24 e
    have H := hk_3
    rw [e] at H
    refine z_iload_n (M := M_X9_behindWord) dX9_behindWord_31 rfl ?_
    cases H
    exact z_iret (M := M_X9_behindWord) dX9_behindWord_32 rfl (Nat.le_of_ble_eq_true rfl) (Nat.le_of_ble_eq_true rfl) ⟨rfl, rfl⟩
  refine whl_go hw_2 (fun i_1 => YY l E M_X9_behindWord 2 0 0 (pS (some (vi r)) σ) 5 [some (vr 167), some (vi i_1)] [] σ 0 0) ?_
  rintro i_1 o_6 H K_7 K_8
  refine z_iload_n (M := M_X9_behindWord) dX9_behindWord_5 rfl ?_
  refine z_aload_n (M := M_X9_behindWord) dX9_behindWord_6 rfl ?_
  refine z_getI (M := M_X9_behindWord) (ci := 12) (C := RX9) (T := TX9) (Nf := 12) (ty := tyX9) cl12 dX9_behindWord_7 ly_167 5 (by decide) t_110 rfl rfl ?_
  rcases if_e H with ⟨h_17, H⟩ | ⟨h_17, H⟩
  · refine z_icmp_ge_f (M := M_X9_behindWord) (tgt := 31) dX9_behindWord_10 (by decide) rfl rfl h_17 ?_
    refine z_aload_n (M := M_X9_behindWord) dX9_behindWord_13 rfl ?_
    refine z_getR (M := M_X9_behindWord) (ci := 12) (C := RX9) (T := TX9) (Nf := 12) (ty := tyX9) cl12 dX9_behindWord_14 ly_167 1 (by decide) t_106 rfl ?_
    refine z_iload_n (M := M_X9_behindWord) dX9_behindWord_17 rfl ?_
    obtain ⟨x_18, x_18_e, hi_19, H⟩ := rd_e H
    refine z_bald (M := M_X9_behindWord) dX9_behindWord_18 ly_166 rfl rfl rfl hi_19 x_18_e ?_
    refine z_callS (M := M_X9_behindWord) (M' := M_X9_isLetter) (as := [vi (w8 x_18)]) (rest := []) rfl rfl dX9_behindWord_19 m_X9_isLetter t_787 t_788 (c_X9_isLetter hl  rfl) rfl rfl (Nat.le_of_ble_eq_true rfl) (Nat.le_of_ble_eq_true rfl) (Nat.le_of_ble_eq_true rfl) (Nat.le_of_ble_eq_true rfl) ?_
    refine z_st (st' := [zv (fW_isLetter (w8 x_18))]) rfl ?_
    rcases if_e H with ⟨h_20, H⟩ | ⟨h_20, H⟩
    · refine z_zeq_f (M := M_X9_behindWord) (tgt := 31) dX9_behindWord_22 (by decide) h_20 ?_
      refine z_iinc (M := M_X9_behindWord) (lv' := [some (vr 167), some (vi (i_1 + 1))]) dX9_behindWord_25 rfl (Nat.le_of_ble_eq_true rfl) rfl rfl ?_
      refine z_goto (M := M_X9_behindWord) (tgt := 5) dX9_behindWord_28 (by decide) ?_
      exact K_7 _ (Option.some.inj H).symm
    · refine z_zeq_t (M := M_X9_behindWord) (tgt := 31) dX9_behindWord_22 (by decide) h_20 ?_
      exact J_25 _ (K_8 _ (Option.some.inj H).symm).symm
  · refine z_icmp_ge_t (M := M_X9_behindWord) (tgt := 31) dX9_behindWord_10 (by decide) rfl rfl (Int.not_lt.mp h_17) ?_
    exact J_25 _ (K_8 _ (Option.some.inj H).symm).symm
theorem c_X9_isWord (hl : l.stackTraces = false) {σ : SG} {word_0 : Nat} {r : Bool} (h_word : isW word_0) (H : fW_isWord σ word_0 = some r) : en_S l E M_X9_isWord 6 0 0 [vr 167, vr word_0] σ (pS (some (zv r)) σ) := by
  unfold fW_isWord at H
  refine z_mk (lv := [some (vr 167), some (vr word_0), none]) m_X9_isWord rfl hl (Nat.le_of_ble_eq_true rfl) rfl ?_
  refine z_aload_n (M := M_X9_isWord) dX9_isWord_0 rfl ?_
  obtain ⟨x_2, hc_1, H⟩ := bd_e H
  refine z_callV (M := M_X9_isWord) (M' := M_X9_behindWord) (as := []) (rest := []) rfl rfl dX9_isWord_1 m_X9_behindWord t_819 t_821 s_10 (c_X9_behindWord hl  hc_1) rfl rfl ly_167 rfl (Nat.le_of_ble_eq_true rfl) (Nat.le_of_ble_eq_true rfl) (Nat.le_of_ble_eq_true rfl) (Nat.le_of_ble_eq_true rfl) ?_
  refine z_st (st' := [vi x_2]) rfl ?_
  refine z_aload_n (M := M_X9_isWord) dX9_isWord_4 rfl ?_
  refine z_getI (M := M_X9_isWord) (ci := 12) (C := RX9) (T := TX9) (Nf := 12) (ty := tyX9) cl12 dX9_isWord_5 ly_167 6 (by decide) t_111 rfl rfl ?_
  refine z_isub (M := M_X9_isWord) dX9_isWord_8 ?_
  refine z_aload_n (M := M_X9_isWord) dX9_isWord_9 rfl ?_
  refine z_strlen (M := M_X9_isWord) rfl dX9_isWord_10 t_823 h_word hl (Nat.le_of_ble_eq_true rfl) (Nat.le_of_ble_eq_true rfl) (Nat.le_of_ble_eq_true rfl) (Nat.le_of_ble_eq_true rfl) ?_
  rcases if_e H with ⟨h_3, H⟩ | ⟨h_3, H⟩
  · refine z_icmp_eq_f (M := M_X9_isWord) (tgt := 18) dX9_isWord_13 (by decide) rfl rfl h_3 ?_
    refine z_zconst (M := M_X9_isWord) (b := false) dX9_isWord_16 rfl ?_
    cases H
    exact z_zret (M := M_X9_isWord) dX9_isWord_17 rfl (Nat.le_of_ble_eq_true rfl) (Nat.le_of_ble_eq_true rfl) ⟨rfl, rfl⟩
  · refine z_icmp_eq_t (M := M_X9_isWord) (tgt := 18) dX9_isWord_13 (by decide) rfl rfl (Decidable.not_not.mp h_3) ?_
    refine z_iconst (M := M_X9_isWord) dX9_isWord_18 ?_
    refine z_istore_n (M := M_X9_isWord) (lv' := [some (vr 167), some (vr word_0), some (vi 0)]) dX9_isWord_19 (Nat.le_of_ble_eq_true rfl) rfl rfl ?_
    obtain ⟨rl_8, hw_5, hk_6, hk_7⟩ := bx_e H
    have J_20 : ∀ i_19, rl_8 = (.inl i_19) → YY l E M_X9_isWord 6 0 0 (pS (some (zv r)) σ) 57 [some (vr 167), some (vr word_0), some (vi i_19)] [] σ 0 0 := by
      intro i_19 e
      have H := hk_6 _ e
      refine z_zconst (M := M_X9_isWord) (b := true) dX9_isWord_57 rfl ?_
      cases H
      exact z_zret (M := M_X9_isWord) dX9_isWord_58 rfl (Nat.le_of_ble_eq_true rfl) (Nat.le_of_ble_eq_true rfl) ⟨rfl, rfl⟩
    refine whl_go hw_5 (fun i_4 => YY l E M_X9_isWord 6 0 0 (pS (some (zv r)) σ) 20 [some (vr 167), some (vr word_0), some (vi i_4)] [] σ 0 0) ?_
    rintro i_4 o_9 H K_10 K_11
    refine z_iload_n (M := M_X9_isWord) dX9_isWord_20 rfl ?_
    refine z_aload_n (M := M_X9_isWord) dX9_isWord_21 rfl ?_
    refine z_strlen (M := M_X9_isWord) rfl dX9_isWord_22 t_823 h_word hl (Nat.le_of_ble_eq_true rfl) (Nat.le_of_ble_eq_true rfl) (Nat.le_of_ble_eq_true rfl) (Nat.le_of_ble_eq_true rfl) ?_
    rcases if_e H with ⟨h_12, H⟩ | ⟨h_12, H⟩
    · refine z_icmp_ge_f (M := M_X9_isWord) (tgt := 57) dX9_isWord_25 (by decide) rfl rfl h_12 ?_
      refine z_aload_n (M := M_X9_isWord) dX9_isWord_28 rfl ?_
      refine z_aload_n (M := M_X9_isWord) dX9_isWord_29 rfl ?_
      refine z_getI (M := M_X9_isWord) (ci := 12) (C := RX9) (T := TX9) (Nf := 12) (ty := tyX9) cl12 dX9_isWord_30 ly_167 6 (by decide) t_111 rfl rfl ?_
      refine z_iload_n (M := M_X9_isWord) dX9_isWord_33 rfl ?_
      refine z_iadd (M := M_X9_isWord) dX9_isWord_34 ?_
      obtain ⟨x_14, hc_13, H⟩ := bd_e H
      refine z_callV (M := M_X9_isWord) (M' := M_X9_signAt) (as := [vi ((σ kW_at 0) + i_4)]) (rest := []) rfl rfl dX9_isWord_35 m_X9_signAt t_783 t_785 s_5 (c_X9_signAt hl  hc_13) rfl rfl ly_167 rfl (Nat.le_of_ble_eq_true rfl) (Nat.le_of_ble_eq_true rfl) (Nat.le_of_ble_eq_true rfl) (Nat.le_of_ble_eq_true rfl) ?_
      refine z_st (st' := [vi x_14]) rfl ?_
      refine z_bipush (M := M_X9_isWord) dX9_isWord_38 (by decide +kernel) ?_
      refine z_iand (M := M_X9_isWord) dX9_isWord_40 ?_
      refine z_aload_n (M := M_X9_isWord) dX9_isWord_41 rfl ?_
      refine z_iload_n (M := M_X9_isWord) dX9_isWord_42 rfl ?_
      obtain ⟨hi_15, H⟩ := ck_e H
      refine z_strch (M := M_X9_isWord) rfl dX9_isWord_43 t_833 h_word rfl hi_15 hl (Nat.le_of_ble_eq_true rfl) (Nat.le_of_ble_eq_true rfl) (Nat.le_of_ble_eq_true rfl) (Nat.le_of_ble_eq_true rfl) ?_
      rcases if_e H with ⟨h_16, H⟩ | ⟨h_16, H⟩
      · refine z_icmp_eq_f (M := M_X9_isWord) (tgt := 51) dX9_isWord_46 (by decide) rfl rfl h_16 ?_
        refine z_zconst (M := M_X9_isWord) (b := false) dX9_isWord_49 rfl ?_
        have H := congrArg some (hk_7 _ ((K_11 _ (Option.some.inj H).symm).symm))
        cases H
        exact z_zret (M := M_X9_isWord) dX9_isWord_50 rfl (Nat.le_of_ble_eq_true rfl) (Nat.le_of_ble_eq_true rfl) ⟨rfl, rfl⟩
      · refine z_icmp_eq_t (M := M_X9_isWord) (tgt := 51) dX9_isWord_46 (by decide) rfl rfl (Decidable.not_not.mp h_16) ?_
        refine z_iinc (M := M_X9_isWord) (lv' := [some (vr 167), some (vr word_0), some (vi (i_4 + 1))]) dX9_isWord_51 rfl (Nat.le_of_ble_eq_true rfl) rfl rfl ?_
        refine z_goto (M := M_X9_isWord) (tgt := 20) dX9_isWord_54 (by decide) ?_
        exact K_10 _ (Option.some.inj H).symm
    · refine z_icmp_ge_t (M := M_X9_isWord) (tgt := 57) dX9_isWord_25 (by decide) rfl rfl (Int.not_lt.mp h_12) ?_
      exact J_20 _ (K_11 _ (Option.some.inj H).symm).symm
theorem c_X9_openLevel (hl : l.stackTraces = false) {σ : SG} {kind_0 : Int} {r : Bool} {σ' : SG}  (H : fW_openLevel σ kind_0 = some (r, σ')) : en_S l E M_X9_openLevel 2 0 0 [vr 167, vi kind_0] σ (pS (some (zv r)) σ') := by
  unfold fW_openLevel at H
  refine z_mk (lv := [some (vr 167), some (vi kind_0)]) m_X9_openLevel rfl hl (Nat.le_of_ble_eq_true rfl) rfl ?_
  refine z_aload_n (M := M_X9_openLevel) dX9_openLevel_0 rfl ?_
  refine z_getI (M := M_X9_openLevel) (ci := 12) (C := RX9) (T := TX9) (Nf := 12) (ty := tyX9) cl12 dX9_openLevel_1 ly_167 7 (by decide) t_112 rfl rfl ?_
  refine z_bipush (M := M_X9_openLevel) dX9_openLevel_4 (by decide +kernel) ?_
  rcases if_e H with ⟨h_1, H⟩ | ⟨h_1, H⟩
  · refine z_icmp_lt_f (M := M_X9_openLevel) (tgt := 16) dX9_openLevel_6 (by decide) rfl (by decide +kernel) h_1 ?_
    refine z_aload_n (M := M_X9_openLevel) dX9_openLevel_9 rfl ?_
    refine z_bipush (M := M_X9_openLevel) dX9_openLevel_10 (by decide +kernel) ?_
    obtain ⟨⟨x_4, σ_3⟩, hc_2, H⟩ := bd_e H
    refine z_callV (M := M_X9_openLevel) (M' := M_X9_fail) (as := [vi 6]) (rest := []) rfl rfl dX9_openLevel_12 m_X9_fail t_797 t_799 s_7 (c_X9_fail hl  hc_2) rfl rfl ly_167 rfl (Nat.le_of_ble_eq_true rfl) (Nat.le_of_ble_eq_true rfl) (Nat.le_of_ble_eq_true rfl) (Nat.le_of_ble_eq_true rfl) ?_
    refine z_st (st' := [zv x_4]) rfl ?_
    cases H
    exact z_zret (M := M_X9_openLevel) dX9_openLevel_15 rfl (Nat.le_of_ble_eq_true rfl) (Nat.le_of_ble_eq_true rfl) ⟨rfl, rfl⟩
  · refine z_icmp_lt_t (M := M_X9_openLevel) (tgt := 16) dX9_openLevel_6 (by decide) rfl (by decide +kernel) (Int.not_le.mp h_1) ?_
    refine z_aload_n (M := M_X9_openLevel) dX9_openLevel_16 rfl ?_
    refine z_getR (M := M_X9_openLevel) (ci := 12) (C := RX9) (T := TX9) (Nf := 12) (ty := tyX9) cl12 dX9_openLevel_17 ly_167 2 (by decide) t_107 rfl ?_
    refine z_aload_n (M := M_X9_openLevel) dX9_openLevel_20 rfl ?_
    refine z_getI (M := M_X9_openLevel) (ci := 12) (C := RX9) (T := TX9) (Nf := 12) (ty := tyX9) cl12 dX9_openLevel_21 ly_167 7 (by decide) t_112 rfl rfl ?_
    refine z_iload_n (M := M_X9_openLevel) dX9_openLevel_24 rfl ?_
    obtain ⟨σ_5, σ_5_e, hi_6, H⟩ := wa_e H
    refine z_iast (M := M_X9_openLevel) dX9_openLevel_25 ly_168 rfl rfl rfl hi_6 σ_5_e ?_
    refine z_aload_n (M := M_X9_openLevel) dX9_openLevel_26 rfl ?_
    refine z_getR (M := M_X9_openLevel) (ci := 12) (C := RX9) (T := TX9) (Nf := 12) (ty := tyX9) cl12 dX9_openLevel_27 ly_167 3 (by decide) t_108 rfl ?_
    refine z_aload_n (M := M_X9_openLevel) dX9_openLevel_30 rfl ?_
    refine z_getI (M := M_X9_openLevel) (ci := 12) (C := RX9) (T := TX9) (Nf := 12) (ty := tyX9) cl12 dX9_openLevel_31 ly_167 7 (by decide) t_112 rfl rfl ?_
    refine z_aload_n (M := M_X9_openLevel) dX9_openLevel_34 rfl ?_
    obtain ⟨hs_7, H⟩ := ck_e H
    refine z_getV (M := M_X9_openLevel) (ci := 12) (C := RX9) (T := TX9) (Nf := 12) (ty := tyX9) cl12 dX9_openLevel_35 ly_167 4 (by decide) t_109 rfl rfl ?_
    refine z_getI (M := M_X9_openLevel) (ci := 9) (C := RX6) (T := TX6) (Nf := 5) (ty := tyX6) cl9 dX9_openLevel_38 (ly_S hs_7) 3 (by decide) t_78 rfl rfl ?_
    refine z_iconst (M := M_X9_openLevel) dX9_openLevel_41 ?_
    refine z_isub (M := M_X9_openLevel) dX9_openLevel_42 ?_
    obtain ⟨σ_8, σ_8_e, hi_9, H⟩ := wa_e H
    refine z_iast (M := M_X9_openLevel) dX9_openLevel_43 ly_169 rfl rfl rfl hi_9 σ_8_e ?_
    refine z_aload_n (M := M_X9_openLevel) dX9_openLevel_44 rfl ?_
    refine z_dup (M := M_X9_openLevel) dX9_openLevel_45 rfl ?_
    refine z_getI (M := M_X9_openLevel) (ci := 12) (C := RX9) (T := TX9) (Nf := 12) (ty := tyX9) cl12 dX9_openLevel_46 ly_167 7 (by decide) t_112 rfl rfl ?_
    refine z_iconst (M := M_X9_openLevel) dX9_openLevel_49 ?_
    refine z_iadd (M := M_X9_openLevel) dX9_openLevel_50 ?_
    obtain ⟨σ_10, σ_10_e, H⟩ := wf_e H
    refine z_putI (M := M_X9_openLevel) (ci := 12) (C := RX9) (T := TX9) (Nf := 12) (ty := tyX9) cl12 dX9_openLevel_51 ly_167 7 (by decide) t_112 rfl rfl rfl rfl σ_10_e ?_
    obtain ⟨v_14, he_11, hk_12⟩ := bd_e H
    have J_21 : ∀ σ_19, v_14 = σ_19 → YY l E M_X9_openLevel 2 0 0 (pS (some (zv r)) σ') 70 [some (vr 167), some (vi kind_0)] [] σ_19 0 0 := by
      intro σ_19 e
      have H := hk_12
      rw [e] at H
      refine z_aload_n (M := M_X9_openLevel) dX9_openLevel_70 rfl ?_
      refine z_dup (M := M_X9_openLevel) dX9_openLevel_71 rfl ?_
      refine z_getI (M := M_X9_openLevel) (ci := 12) (C := RX9) (T := TX9) (Nf := 12) (ty := tyX9) cl12 dX9_openLevel_72 ly_167 6 (by decide) t_111 rfl rfl ?_
      refine z_iconst (M := M_X9_openLevel) dX9_openLevel_75 ?_
      refine z_iadd (M := M_X9_openLevel) dX9_openLevel_76 ?_
      obtain ⟨σ_20, σ_20_e, H⟩ := wf_e H
      refine z_putI (M := M_X9_openLevel) (ci := 12) (C := RX9) (T := TX9) (Nf := 12) (ty := tyX9) cl12 dX9_openLevel_77 ly_167 6 (by decide) t_111 rfl rfl rfl rfl σ_20_e ?_
      refine z_zconst (M := M_X9_openLevel) (b := true) dX9_openLevel_80 rfl ?_
      cases H
      exact z_zret (M := M_X9_openLevel) dX9_openLevel_81 rfl (Nat.le_of_ble_eq_true rfl) (Nat.le_of_ble_eq_true rfl) ⟨rfl, rfl⟩
    have H := he_11
    refine z_iload_n (M := M_X9_openLevel) dX9_openLevel_54 rfl ?_
    refine z_bipush (M := M_X9_openLevel) dX9_openLevel_55 (by decide +kernel) ?_
    rcases if_e H with ⟨h_15, H⟩ | ⟨h_15, H⟩
    · refine z_icmp_ne_f (M := M_X9_openLevel) (tgt := 70) dX9_openLevel_57 (by decide) rfl (by decide +kernel) h_15 ?_
      refine z_aload_n (M := M_X9_openLevel) dX9_openLevel_60 rfl ?_
      refine z_dup (M := M_X9_openLevel) dX9_openLevel_61 rfl ?_
      refine z_getI (M := M_X9_openLevel) (ci := 12) (C := RX9) (T := TX9) (Nf := 12) (ty := tyX9) cl12 dX9_openLevel_62 ly_167 8 (by decide) t_113 rfl rfl ?_
      refine z_iconst (M := M_X9_openLevel) dX9_openLevel_65 ?_
      refine z_iadd (M := M_X9_openLevel) dX9_openLevel_66 ?_
      obtain ⟨σ_16, σ_16_e, H⟩ := wf_e H
      refine z_putI (M := M_X9_openLevel) (ci := 12) (C := RX9) (T := TX9) (Nf := 12) (ty := tyX9) cl12 dX9_openLevel_67 ly_167 8 (by decide) t_113 rfl rfl rfl rfl σ_16_e ?_
      exact J_21 _ (Option.some.inj H).symm
    · refine z_icmp_ne_t (M := M_X9_openLevel) (tgt := 70) dX9_openLevel_57 (by decide) rfl (by decide +kernel) h_15 ?_
      exact J_21 _ (Option.some.inj H).symm
end LFAA
