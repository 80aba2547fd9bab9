section LFAN
variable {l : Launch} {E : EE}
theorem c_X12_goesOn (hl : l.stackTraces = false) {σ : SG} {r : Int} {σ' : SG}  (H : fR_goesOn σ = some (r, σ')) : en_S l E M_X12_goesOn 3 0 0 [vr 277] σ (pS (some (vi r)) σ') := by
  unfold fR_goesOn at H
  refine z_mk (lv := [some (vr 277), none]) m_X12_goesOn rfl hl (Nat.le_of_ble_eq_true rfl) rfl ?_
  refine z_aload_n (M := M_X12_goesOn) dX12_goesOn_0 rfl ?_
  obtain ⟨σ_2, hc_1, H⟩ := bd_e H
  refine z_callV (M := M_X12_goesOn) (M' := M_X12_skip) (as := []) (rest := []) rfl rfl dX12_goesOn_1 m_X12_skip t_2856 t_2858 s_163 (c_X12_skip hl  hc_1) rfl rfl ly_277 rfl (Nat.le_of_ble_eq_true rfl) (Nat.le_of_ble_eq_true rfl) (Nat.le_of_ble_eq_true rfl) (Nat.le_of_ble_eq_true rfl) ?_
  refine z_st (st' := []) rfl ?_
  refine z_aload_n (M := M_X12_goesOn) dX12_goesOn_4 rfl ?_
  obtain ⟨x_4, hc_3, H⟩ := bd_e H
  refine z_callV (M := M_X12_goesOn) (M' := M_X12_here) (as := []) (rest := []) rfl rfl dX12_goesOn_5 m_X12_here t_2860 t_2862 s_164 (c_X12_here hl  hc_3) rfl rfl ly_277 rfl (Nat.le_of_ble_eq_true rfl) (Nat.le_of_ble_eq_true rfl) (Nat.le_of_ble_eq_true rfl) (Nat.le_of_ble_eq_true rfl) ?_
  refine z_st (st' := [vi x_4]) rfl ?_
  refine z_istore_n (M := M_X12_goesOn) (lv' := [some (vr 277), some (vi x_4)]) dX12_goesOn_8 (Nat.le_of_ble_eq_true rfl) rfl rfl ?_
  rcases if_e H with ⟨h_11, H⟩ | ⟨h_11, H⟩
  · have J_12 : YY l E M_X12_goesOn 3 0 0 (pS (some (vi r)) σ') 21 [some (vr 277), some (vi x_4)] [] σ_2 0 0 := by
      refine z_aload_n (M := M_X12_goesOn) dX12_goesOn_21 rfl ?_
      refine z_zconst (M := M_X12_goesOn) (b := false) dX12_goesOn_22 rfl ?_
      obtain ⟨⟨x_7, σ_6⟩, hc_5, H⟩ := bd_e H
      refine z_callV (M := M_X12_goesOn) (M' := M_X12_strange) (as := [zv false]) (rest := []) rfl rfl dX12_goesOn_23 m_X12_strange t_2870 t_2872 s_165 (c_X12_strange hl  hc_5) rfl rfl ly_277 rfl (Nat.le_of_ble_eq_true rfl) (Nat.le_of_ble_eq_true rfl) (Nat.le_of_ble_eq_true rfl) (Nat.le_of_ble_eq_true rfl) ?_
      refine z_st (st' := [zv x_7]) rfl ?_
      refine z_pop (M := M_X12_goesOn) dX12_goesOn_26 rfl ?_
      refine z_iconst (M := M_X12_goesOn) dX12_goesOn_27 ?_
      cases H
      exact z_iret (M := M_X12_goesOn) dX12_goesOn_28 rfl (Nat.le_of_ble_eq_true rfl) (Nat.le_of_ble_eq_true rfl) ⟨rfl, rfl⟩
    refine z_iload_n (M := M_X12_goesOn) dX12_goesOn_9 rfl ?_
    refine z_bipush (M := M_X12_goesOn) dX12_goesOn_10 (by decide +kernel) ?_
    by_cases h_14 : ¬ (w32 x_4) = 44
    · refine z_icmp_eq_f (M := M_X12_goesOn) (tgt := 29) dX12_goesOn_12 (by decide) rfl (by decide +kernel) h_14 ?_
      refine z_iload_n (M := M_X12_goesOn) dX12_goesOn_15 rfl ?_
      refine z_bipush (M := M_X12_goesOn) dX12_goesOn_16 (by decide +kernel) ?_
      by_cases h_15 : ¬ (w32 x_4) = 41
      · refine z_icmp_eq_f (M := M_X12_goesOn) (tgt := 29) dX12_goesOn_18 (by decide) rfl (by decide +kernel) h_15 ?_
        exact J_12
      · refine z_icmp_eq_t (M := M_X12_goesOn) (tgt := 29) dX12_goesOn_18 (by decide) rfl (by decide +kernel) (Decidable.not_not.mp h_15) ?_
        exact absurd h_11 (fun q => h_15 q.2)
    · refine z_icmp_eq_t (M := M_X12_goesOn) (tgt := 29) dX12_goesOn_12 (by decide) rfl (by decide +kernel) (Decidable.not_not.mp h_14) ?_
      exact absurd h_11 (fun q => h_14 q.1)
  · have J_13 : YY l E M_X12_goesOn 3 0 0 (pS (some (vi r)) σ') 29 [some (vr 277), some (vi x_4)] [] σ_2 0 0 := by
      refine z_aload_n (M := M_X12_goesOn) dX12_goesOn_29 rfl ?_
      refine z_dup (M := M_X12_goesOn) dX12_goesOn_30 rfl ?_
      refine z_getI (M := M_X12_goesOn) (ci := 15) (C := RX12) (T := TX12) (Nf := 135) (ty := tyX12) cl15 dX12_goesOn_31 ly_277 17 (by decide) t_2408 rfl rfl ?_
      refine z_iconst (M := M_X12_goesOn) dX12_goesOn_34 ?_
      refine z_iadd (M := M_X12_goesOn) dX12_goesOn_35 ?_
      obtain ⟨σ_8, σ_8_e, H⟩ := wf_e H
      refine z_putI (M := M_X12_goesOn) (ci := 15) (C := RX12) (T := TX12) (Nf := 135) (ty := tyX12) cl15 dX12_goesOn_36 ly_277 17 (by decide) t_2408 rfl rfl rfl rfl σ_8_e ?_
      have J_9 : YY l E M_X12_goesOn 3 0 0 (pS (some (vi r)) σ') 50 [some (vr 277), some (vi x_4)] [vi (if (w32 x_4) = 44 then 1 else 0)] σ_8 0 0 := by
        cases H
        exact z_iret (M := M_X12_goesOn) dX12_goesOn_50 rfl (Nat.le_of_ble_eq_true rfl) (Nat.le_of_ble_eq_true rfl) ⟨rfl, rfl⟩
      refine z_iload_n (M := M_X12_goesOn) dX12_goesOn_39 rfl ?_
      refine z_bipush (M := M_X12_goesOn) dX12_goesOn_40 (by decide +kernel) ?_
      by_cases h_10 : (w32 x_4) = 44
      · refine z_icmp_ne_f (M := M_X12_goesOn) (tgt := 49) dX12_goesOn_42 (by decide) rfl (by decide +kernel) h_10 ?_
        refine z_iconst (M := M_X12_goesOn) dX12_goesOn_45 ?_
        refine z_goto (M := M_X12_goesOn) (tgt := 50) dX12_goesOn_46 (by decide) ?_
        exact z_st (by rw [if_pos (c := (w32 x_4) = 44) h_10]) J_9
      · refine z_icmp_ne_t (M := M_X12_goesOn) (tgt := 49) dX12_goesOn_42 (by decide) rfl (by decide +kernel) h_10 ?_
        refine z_iconst (M := M_X12_goesOn) dX12_goesOn_49 ?_
        exact z_st (by rw [if_neg (c := (w32 x_4) = 44) h_10]) J_9
    refine z_iload_n (M := M_X12_goesOn) dX12_goesOn_9 rfl ?_
    refine z_bipush (M := M_X12_goesOn) dX12_goesOn_10 (by decide +kernel) ?_
    by_cases h_16 : ¬ (w32 x_4) = 44
    · refine z_icmp_eq_f (M := M_X12_goesOn) (tgt := 29) dX12_goesOn_12 (by decide) rfl (by decide +kernel) h_16 ?_
      refine z_iload_n (M := M_X12_goesOn) dX12_goesOn_15 rfl ?_
      refine z_bipush (M := M_X12_goesOn) dX12_goesOn_16 (by decide +kernel) ?_
      by_cases h_17 : ¬ (w32 x_4) = 41
      · refine z_icmp_eq_f (M := M_X12_goesOn) (tgt := 29) dX12_goesOn_18 (by decide) rfl (by decide +kernel) h_17 ?_
        exact absurd ⟨h_16, h_17⟩ h_11
      · refine z_icmp_eq_t (M := M_X12_goesOn) (tgt := 29) dX12_goesOn_18 (by decide) rfl (by decide +kernel) (Decidable.not_not.mp h_17) ?_
        exact J_13
    · refine z_icmp_eq_t (M := M_X12_goesOn) (tgt := 29) dX12_goesOn_12 (by decide) rfl (by decide +kernel) (Decidable.not_not.mp h_16) ?_
      exact J_13
theorem c_X12_digitsOn (hl : l.stackTraces = false) {σ : SG} {σ' : SG}  (H : fR_digitsOn σ = some σ') : en_S l E M_X12_digitsOn 2 0 0 [vr 277] σ (pS (none) σ') := by
  unfold fR_digitsOn at H
  refine z_mk (lv := [some (vr 277)]) m_X12_digitsOn rfl hl (Nat.le_of_ble_eq_true rfl) rfl ?_
  obtain ⟨rl_5, hw_2, hk_3⟩ := bd_e H
  have J_16 : ∀ σ_15, rl_5 = σ_15 → YY l E M_X12_digitsOn 2 0 0 (pS (none) σ') 23 [some (vr 277)] [] σ_15 0 0 := by
    intro σ_15 e
    have H := hk_3
    rw [e] at H
    cases H
    exact z_vret (M := M_X12_digitsOn) dX12_digitsOn_23 rfl (Nat.le_of_ble_eq_true rfl) (Nat.le_of_ble_eq_true rfl) ⟨rfl, rfl⟩
  refine whl_go hw_2 (fun σ_1 => YY l E M_X12_digitsOn 2 0 0 (pS (none) σ') 0 [some (vr 277)] [] σ_1 0 0) ?_
  rintro σ_1 o_6 H K_7 K_8
  refine z_aload_n (M := M_X12_digitsOn) dX12_digitsOn_0 rfl ?_
  obtain ⟨x_10, hc_9, H⟩ := bd_e H
  refine z_callV (M := M_X12_digitsOn) (M' := M_X12_here) (as := []) (rest := []) rfl rfl dX12_digitsOn_1 m_X12_here t_2860 t_2862 s_164 (c_X12_here hl  hc_9) rfl rfl ly_277 rfl (Nat.le_of_ble_eq_true rfl) (Nat.le_of_ble_eq_true rfl) (Nat.le_of_ble_eq_true rfl) (Nat.le_of_ble_eq_true rfl) ?_
  refine z_st (st' := [vi x_10]) rfl ?_
  refine z_callS (M := M_X12_digitsOn) (M' := M_X12_isDigit) (as := [vi x_10]) (rest := []) rfl rfl dX12_digitsOn_4 m_X12_isDigit t_2878 t_2879 (c_X12_isDigit hl  rfl) rfl rfl (Nat.le_of_ble_eq_true rfl) (Nat.le_of_ble_eq_true rfl) (Nat.le_of_ble_eq_true rfl) (Nat.le_of_ble_eq_true rfl) ?_
  refine z_st (st' := [zv (fR_isDigit x_10)]) rfl ?_
  rcases if_e H with ⟨h_11, H⟩ | ⟨h_11, H⟩
  · refine z_zeq_f (M := M_X12_digitsOn) (tgt := 23) dX12_digitsOn_7 (by decide) h_11 ?_
    refine z_aload_n (M := M_X12_digitsOn) dX12_digitsOn_10 rfl ?_
    refine z_dup (M := M_X12_digitsOn) dX12_digitsOn_11 rfl ?_
    refine z_getI (M := M_X12_digitsOn) (ci := 15) (C := RX12) (T := TX12) (Nf := 135) (ty := tyX12) cl15 dX12_digitsOn_12 ly_277 17 (by decide) t_2408 rfl rfl ?_
    refine z_iconst (M := M_X12_digitsOn) dX12_digitsOn_15 ?_
    refine z_iadd (M := M_X12_digitsOn) dX12_digitsOn_16 ?_
    obtain ⟨σ_12, σ_12_e, H⟩ := wf_e H
    refine z_putI (M := M_X12_digitsOn) (ci := 15) (C := RX12) (T := TX12) (Nf := 135) (ty := tyX12) cl15 dX12_digitsOn_17 ly_277 17 (by decide) t_2408 rfl rfl rfl rfl σ_12_e ?_
    refine z_goto (M := M_X12_digitsOn) (tgt := 0) dX12_digitsOn_20 (by decide) ?_
    exact K_7 _ (Option.some.inj H).symm
  · refine z_zeq_t (M := M_X12_digitsOn) (tgt := 23) dX12_digitsOn_7 (by decide) h_11 ?_
    exact J_16 _ (K_8 _ (Option.some.inj H).symm).symm
theorem c_X12_round (hl : l.stackTraces = false) {σ : SG} {ahead_0 : Int} {σ' : SG}  (H : fR_round σ ahead_0 = some σ') : en_S l E M_X12_round 1 0 0 [vr 277, vl ahead_0] σ (pS (none) σ') := by
  unfold fR_round at H
  refine z_mk (lv := [some (vr 277), some (vl ahead_0), none, none, none, none, none, none, none, none, none]) m_X12_round rfl hl (Nat.le_of_ble_eq_true rfl) rfl ?_
  refine z_lconst (M := M_X12_round) (m := 0) dX12_round_0 (by decide +kernel) ?_
  refine z_lstore_n (M := M_X12_round) (lv' := [some (vr 277), some (vl ahead_0), none, some (vl 0), none, none, none, none, none, none, none]) dX12_round_1 (Nat.le_of_ble_eq_true rfl) rfl rfl ?_
  refine z_lconst (M := M_X12_round) (m := 0) dX12_round_2 (by decide +kernel) ?_
  refine z_lstore (M := M_X12_round) (lv' := [some (vr 277), some (vl ahead_0), none, some (vl 0), none, some (vl 0), none, none, none, none, none]) dX12_round_3 (Nat.le_of_ble_eq_true rfl) rfl rfl ?_
  refine z_iconst (M := M_X12_round) dX12_round_5 ?_
  refine z_istore (M := M_X12_round) (lv' := [some (vr 277), some (vl ahead_0), none, some (vl 0), none, some (vl 0), none, some (vi (-1)), none, none, none]) dX12_round_6 (Nat.le_of_ble_eq_true rfl) rfl rfl ?_
  refine z_zconst (M := M_X12_round) (b := false) dX12_round_8 rfl ?_
  refine z_zstore (M := M_X12_round) (lv' := [some (vr 277), some (vl ahead_0), none, some (vl 0), none, some (vl 0), none, some (vi (-1)), some (zv false), none, none]) dX12_round_9 (Nat.le_of_ble_eq_true rfl) rfl rfl ?_
  refine z_aload_n (M := M_X12_round) dX12_round_11 rfl ?_
  refine z_getI (M := M_X12_round) (ci := 15) (C := RX12) (T := TX12) (Nf := 135) (ty := tyX12) cl15 dX12_round_12 ly_277 22 (by decide) t_2413 rfl rfl ?_
  refine z_istore (M := M_X12_round) (lv' := [some (vr 277), some (vl ahead_0), none, some (vl 0), none, some (vl 0), none, some (vi (-1)), some (zv false), some (vi (σ kR_numberFrom 0)), none]) dX12_round_15 (Nat.le_of_ble_eq_true rfl) rfl rfl ?_
  obtain ⟨rl_9, hw_6, hk_7⟩ := bd_e H
  have J_87 : ∀ v_50 k_51 first_52 rest_53 i_54, rl_9 = (v_50, k_51, first_52, rest_53, i_54) → YY l E M_X12_round 1 0 0 (pS (none) σ') 128 [some (vr 277), some (vl ahead_0), none, some (vl v_50), none, some (vl k_51), none, some (vi first_52), some (zv rest_53), some (vi i_54), none] [] σ 0 0 := by
    intro v_50 k_51 first_52 rest_53 i_54 e
    have H := hk_7
    rw [e] at H
    obtain ⟨rl_60, hw_57, hk_58⟩ := bd_e H
    have J_86 : ∀ v_75 k_76, rl_60 = (v_75, k_76) → YY l E M_X12_round 1 0 0 (pS (none) σ') 164 [some (vr 277), some (vl ahead_0), none, some (vl v_75), none, some (vl k_76), none, some (vi first_52), some (zv rest_53), none, none] [] σ 0 0 := by
      intro v_75 k_76 e
      have H := hk_58
      rw [e] at H
      have J_77 : YY l E M_X12_round 1 0 0 (pS (none) σ') 194 [some (vr 277), some (vl ahead_0), none, some (vl v_75), none, some (vl k_76), none, some (vi first_52), some (zv rest_53), none, none] [zv (decide ((5 < (w32 first_52)) ∨ (((w32 first_52) = 5) ∧ ((rest_53 = true) ∨ ((w64 (q_lan v_75 1)) = 1)))))] σ 0 0 := by
        obtain ⟨x_78, x_78_e, H⟩ := lt_e H
        refine z_st (congrArg (fun z => zv z :: []) x_78_e) ?_
        refine z_zstore (M := M_X12_round) (lv' := [some (vr 277), some (vl ahead_0), none, some (vl v_75), none, some (vl k_76), none, some (vi first_52), some (zv rest_53), some (zv x_78), none]) dX12_round_194 (Nat.le_of_ble_eq_true rfl) rfl rfl ?_
        refine z_aload_n (M := M_X12_round) dX12_round_196 rfl ?_
        have J_79 : YY l E M_X12_round 1 0 0 (pS (none) σ') 209 [some (vr 277), some (vl ahead_0), none, some (vl v_75), none, some (vl k_76), none, some (vi first_52), some (zv rest_53), some (zv x_78), none] [vl (if x_78 = true then (v_75 + 1) else v_75), vr 277] σ 0 0 := by
          obtain ⟨σ_80, σ_80_e, H⟩ := wf_e H
          refine z_putL (M := M_X12_round) (ci := 15) (C := RX12) (T := TX12) (Nf := 135) (ty := tyX12) cl15 dX12_round_209 ly_277 25 (by decide) t_2416 rfl rfl rfl rfl σ_80_e ?_
          cases H
          exact z_vret (M := M_X12_round) dX12_round_212 rfl (Nat.le_of_ble_eq_true rfl) (Nat.le_of_ble_eq_true rfl) ⟨rfl, rfl⟩
        refine z_zload (M := M_X12_round) dX12_round_197 rfl ?_
        by_cases h_81 : x_78 = true
        · refine z_zeq_f (M := M_X12_round) (tgt := 208) dX12_round_199 (by decide) h_81 ?_
          refine z_lload_n (M := M_X12_round) dX12_round_202 rfl ?_
          refine z_lconst (M := M_X12_round) (m := 1) dX12_round_203 (by decide +kernel) ?_
          refine z_ladd (M := M_X12_round) dX12_round_204 ?_
          refine z_goto (M := M_X12_round) (tgt := 209) dX12_round_205 (by decide) ?_
          exact z_st (by rw [if_pos (c := x_78 = true) h_81]) J_79
        · refine z_zeq_t (M := M_X12_round) (tgt := 208) dX12_round_199 (by decide) h_81 ?_
          refine z_lload_n (M := M_X12_round) dX12_round_208 rfl ?_
          exact z_st (by rw [if_neg (c := x_78 = true) h_81]) J_79
      refine z_iload (M := M_X12_round) dX12_round_164 rfl ?_
      refine z_iconst (M := M_X12_round) dX12_round_166 ?_
      by_cases h_82 : 5 < (w32 first_52)
      · refine z_icmp_gt_t (M := M_X12_round) (tgt := 189) dX12_round_167 (by decide) rfl (by decide +kernel) h_82 ?_
        refine z_iconst (M := M_X12_round) dX12_round_189 ?_
        refine z_goto (M := M_X12_round) (tgt := 194) dX12_round_190 (by decide) ?_
        exact z_st (by rw [zv_t (p := (5 < (w32 first_52)) ∨ (((w32 first_52) = 5) ∧ ((rest_53 = true) ∨ ((w64 (q_lan v_75 1)) = 1)))) (Or.inl h_82)]) J_77
      · refine z_icmp_gt_f (M := M_X12_round) (tgt := 189) dX12_round_167 (by decide) rfl (by decide +kernel) (Int.not_lt.mp h_82) ?_
        refine z_iload (M := M_X12_round) dX12_round_170 rfl ?_
        refine z_iconst (M := M_X12_round) dX12_round_172 ?_
        by_cases h_83 : (w32 first_52) = 5
        · refine z_icmp_ne_f (M := M_X12_round) (tgt := 193) dX12_round_173 (by decide) rfl (by decide +kernel) h_83 ?_
          refine z_zload (M := M_X12_round) dX12_round_176 rfl ?_
          by_cases h_84 : rest_53 = true
          · refine z_zne_t (M := M_X12_round) (tgt := 189) dX12_round_178 (by decide) h_84 ?_
            refine z_iconst (M := M_X12_round) dX12_round_189 ?_
            refine z_goto (M := M_X12_round) (tgt := 194) dX12_round_190 (by decide) ?_
            exact z_st (by rw [zv_t (p := (5 < (w32 first_52)) ∨ (((w32 first_52) = 5) ∧ ((rest_53 = true) ∨ ((w64 (q_lan v_75 1)) = 1)))) (Or.inr ⟨h_83, (Or.inl h_84)⟩)]) J_77
          · refine z_zne_f (M := M_X12_round) (tgt := 189) dX12_round_178 (by decide) h_84 ?_
            refine z_lload_n (M := M_X12_round) dX12_round_181 rfl ?_
            refine z_lconst (M := M_X12_round) (m := 1) dX12_round_182 (by decide +kernel) ?_
            refine z_land (M := M_X12_round) dX12_round_183 ?_
            refine z_lconst (M := M_X12_round) (m := 1) dX12_round_184 (by decide +kernel) ?_
            refine z_lcmp (M := M_X12_round) dX12_round_185 ?_
            by_cases h_85 : (w64 (q_lan v_75 1)) = 1
            · refine z_lif_ne_f (M := M_X12_round) (tgt := 193) dX12_round_186 (by decide) rfl (by decide +kernel) h_85 ?_
              refine z_iconst (M := M_X12_round) dX12_round_189 ?_
              refine z_goto (M := M_X12_round) (tgt := 194) dX12_round_190 (by decide) ?_
              exact z_st (by rw [zv_t (p := (5 < (w32 first_52)) ∨ (((w32 first_52) = 5) ∧ ((rest_53 = true) ∨ ((w64 (q_lan v_75 1)) = 1)))) (Or.inr ⟨h_83, (Or.inr h_85)⟩)]) J_77
            · refine z_lif_ne_t (M := M_X12_round) (tgt := 193) dX12_round_186 (by decide) rfl (by decide +kernel) h_85 ?_
              refine z_iconst (M := M_X12_round) dX12_round_193 ?_
              exact z_st (by rw [zv_f (p := (5 < (w32 first_52)) ∨ (((w32 first_52) = 5) ∧ ((rest_53 = true) ∨ ((w64 (q_lan v_75 1)) = 1)))) (fun q => q.elim h_82 (fun q => (fun q => q.elim h_84 h_85) q.2))]) J_77
        · refine z_icmp_ne_t (M := M_X12_round) (tgt := 193) dX12_round_173 (by decide) rfl (by decide +kernel) h_83 ?_
          refine z_iconst (M := M_X12_round) dX12_round_193 ?_
          exact z_st (by rw [zv_f (p := (5 < (w32 first_52)) ∨ (((w32 first_52) = 5) ∧ ((rest_53 = true) ∨ ((w64 (q_lan v_75 1)) = 1)))) (fun q => q.elim h_82 (fun q => h_83 q.1))]) J_77
    refine z_le (lv' := [some (vr 277), some (vl ahead_0), none, some (vl v_50), none, some (vl k_51), none, some (vi first_52), some (zv rest_53), none, none]) ⟨Or.inr rfl, Or.inr rfl, Or.inl rfl, Or.inr rfl, Or.inl rfl, Or.inr rfl, Or.inl rfl, Or.inr rfl, Or.inr rfl, Or.inl rfl, Or.inl rfl, trivial⟩ ?_
    refine whl_go hw_57 (fun (v_55, k_56) => YY l E M_X12_round 1 0 0 (pS (none) σ') 128 [some (vr 277), some (vl ahead_0), none, some (vl v_55), none, some (vl k_56), none, some (vi first_52), some (zv rest_53), none, none] [] σ 0 0) ?_
    rintro ⟨v_55, k_56⟩ o_61 H K_62 K_63
    rcases if_e H with ⟨h_66, H⟩ | ⟨h_66, H⟩
    · have J_67 : YY l E M_X12_round 1 0 0 (pS (none) σ') 149 [some (vr 277), some (vl ahead_0), none, some (vl v_55), none, some (vl k_56), none, some (vi first_52), some (zv rest_53), none, none] [] σ 0 0 := by
        refine z_ldc2 (M := M_X12_round) (n := 10) dX12_round_149 t_2390 (by decide +kernel) ?_
        refine z_lload_n (M := M_X12_round) dX12_round_152 rfl ?_
        refine z_lmul (M := M_X12_round) dX12_round_153 ?_
        refine z_lstore_n (M := M_X12_round) (lv' := [some (vr 277), some (vl ahead_0), none, some (vl (10 * v_55)), none, some (vl k_56), none, some (vi first_52), some (zv rest_53), none, none]) dX12_round_154 (Nat.le_of_ble_eq_true rfl) rfl rfl ?_
        refine z_lload (M := M_X12_round) dX12_round_155 rfl ?_
        refine z_lconst (M := M_X12_round) (m := 1) dX12_round_157 (by decide +kernel) ?_
        refine z_ladd (M := M_X12_round) dX12_round_158 ?_
        refine z_lstore (M := M_X12_round) (lv' := [some (vr 277), some (vl ahead_0), none, some (vl (10 * v_55)), none, some (vl (k_56 + 1)), none, some (vi first_52), some (zv rest_53), none, none]) dX12_round_159 (Nat.le_of_ble_eq_true rfl) rfl rfl ?_
        refine z_goto (M := M_X12_round) (tgt := 128) dX12_round_161 (by decide) ?_
        exact K_62 _ (Option.some.inj H).symm
      refine z_lload (M := M_X12_round) dX12_round_128 rfl ?_
      refine z_lload_n (M := M_X12_round) dX12_round_130 rfl ?_
      refine z_lcmp (M := M_X12_round) dX12_round_131 ?_
      by_cases h_69 : (w64 k_56) < (w64 ahead_0)
      · refine z_lif_ge_f (M := M_X12_round) (tgt := 164) dX12_round_132 (by decide) rfl rfl h_69 ?_
        refine z_lload_n (M := M_X12_round) dX12_round_135 rfl ?_
        refine z_lconst (M := M_X12_round) (m := 0) dX12_round_136 (by decide +kernel) ?_
        refine z_lcmp (M := M_X12_round) dX12_round_137 ?_
        by_cases h_70 : 0 < (w64 v_55)
        · refine z_lif_le_f (M := M_X12_round) (tgt := 164) dX12_round_138 (by decide) rfl (by decide +kernel) h_70 ?_
          refine z_lload_n (M := M_X12_round) dX12_round_141 rfl ?_
          refine z_ldc2 (M := M_X12_round) (n := 4000000000) dX12_round_142 t_2936 (by decide +kernel) ?_
          refine z_lcmp (M := M_X12_round) dX12_round_145 ?_
          by_cases h_71 : (w64 v_55) < 4000000000
          · refine z_lif_ge_f (M := M_X12_round) (tgt := 164) dX12_round_146 (by decide) rfl (by decide +kernel) h_71 ?_
            exact J_67
          · refine z_lif_ge_t (M := M_X12_round) (tgt := 164) dX12_round_146 (by decide) rfl (by decide +kernel) (Int.not_lt.mp h_71) ?_
            exact absurd h_66 (fun q => h_71 q.2)
        · refine z_lif_le_t (M := M_X12_round) (tgt := 164) dX12_round_138 (by decide) rfl (by decide +kernel) (Int.not_lt.mp h_70) ?_
          exact absurd h_66 (fun q => (fun q => h_70 q.2) q.1)
      · refine z_lif_ge_t (M := M_X12_round) (tgt := 164) dX12_round_132 (by decide) rfl rfl (Int.not_lt.mp h_69) ?_
        exact absurd h_66 (fun q => (fun q => h_69 q.1) q.1)
    · have J_68 : YY l E M_X12_round 1 0 0 (pS (none) σ') 164 [some (vr 277), some (vl ahead_0), none, some (vl v_55), none, some (vl k_56), none, some (vi first_52), some (zv rest_53), none, none] [] σ 0 0 := by
        exact J_86 _ _ (K_63 _ (Option.some.inj H).symm).symm
      refine z_lload (M := M_X12_round) dX12_round_128 rfl ?_
      refine z_lload_n (M := M_X12_round) dX12_round_130 rfl ?_
      refine z_lcmp (M := M_X12_round) dX12_round_131 ?_
      by_cases h_72 : (w64 k_56) < (w64 ahead_0)
      · refine z_lif_ge_f (M := M_X12_round) (tgt := 164) dX12_round_132 (by decide) rfl rfl h_72 ?_
        refine z_lload_n (M := M_X12_round) dX12_round_135 rfl ?_
        refine z_lconst (M := M_X12_round) (m := 0) dX12_round_136 (by decide +kernel) ?_
        refine z_lcmp (M := M_X12_round) dX12_round_137 ?_
        by_cases h_73 : 0 < (w64 v_55)
        · refine z_lif_le_f (M := M_X12_round) (tgt := 164) dX12_round_138 (by decide) rfl (by decide +kernel) h_73 ?_
          refine z_lload_n (M := M_X12_round) dX12_round_141 rfl ?_
          refine z_ldc2 (M := M_X12_round) (n := 4000000000) dX12_round_142 t_2936 (by decide +kernel) ?_
          refine z_lcmp (M := M_X12_round) dX12_round_145 ?_
          by_cases h_74 : (w64 v_55) < 4000000000
          · refine z_lif_ge_f (M := M_X12_round) (tgt := 164) dX12_round_146 (by decide) rfl (by decide +kernel) h_74 ?_
            exact absurd ⟨⟨h_72, h_73⟩, h_74⟩ h_66
          · refine z_lif_ge_t (M := M_X12_round) (tgt := 164) dX12_round_146 (by decide) rfl (by decide +kernel) (Int.not_lt.mp h_74) ?_
            exact J_68
        · refine z_lif_le_t (M := M_X12_round) (tgt := 164) dX12_round_138 (by decide) rfl (by decide +kernel) (Int.not_lt.mp h_73) ?_
          exact J_68
      · refine z_lif_ge_t (M := M_X12_round) (tgt := 164) dX12_round_132 (by decide) rfl rfl (Int.not_lt.mp h_72) ?_
        exact J_68
  refine whl_go hw_6 (fun (v_1, k_2, first_3, rest_4, i_5) => YY l E M_X12_round 1 0 0 (pS (none) σ') 17 [some (vr 277), some (vl ahead_0), none, some (vl v_1), none, some (vl k_2), none, some (vi first_3), some (zv rest_4), some (vi i_5), none] [] σ 0 0) ?_
  rintro ⟨v_1, k_2, first_3, rest_4, i_5⟩ o_10 H K_11 K_12
  refine z_iload (M := M_X12_round) dX12_round_17 rfl ?_
  refine z_aload_n (M := M_X12_round) dX12_round_19 rfl ?_
  refine z_getI (M := M_X12_round) (ci := 15) (C := RX12) (T := TX12) (Nf := 135) (ty := tyX12) cl15 dX12_round_20 ly_277 23 (by decide) t_2414 rfl rfl ?_
  rcases if_e H with ⟨h_13, H⟩ | ⟨h_13, H⟩
  · refine z_icmp_ge_f (M := M_X12_round) (tgt := 128) dX12_round_23 (by decide) rfl rfl h_13 ?_
    refine z_aload_n (M := M_X12_round) dX12_round_26 rfl ?_
    refine z_getR (M := M_X12_round) (ci := 15) (C := RX12) (T := TX12) (Nf := 135) (ty := tyX12) cl15 dX12_round_27 ly_277 3 (by decide) t_2394 rfl ?_
    refine z_iload (M := M_X12_round) dX12_round_30 rfl ?_
    obtain ⟨x_14, x_14_e, hi_15, H⟩ := rd_e H
    refine z_bald (M := M_X12_round) dX12_round_32 ly_278 rfl rfl rfl hi_15 x_14_e ?_
    refine z_bipush (M := M_X12_round) dX12_round_33 (by decide +kernel) ?_
    rcases if_e H with ⟨h_16, H⟩ | ⟨h_16, H⟩
    · refine z_icmp_ne_f (M := M_X12_round) (tgt := 41) dX12_round_35 (by decide) rfl (by decide +kernel) h_16 ?_
      refine z_goto (M := M_X12_round) (tgt := 122) dX12_round_38 (by decide) ?_
      refine z_iinc (M := M_X12_round) (lv' := [some (vr 277), some (vl ahead_0), none, some (vl v_1), none, some (vl k_2), none, some (vi first_3), some (zv rest_4), some (vi (i_5 + 1)), none]) dX12_round_122 rfl (Nat.le_of_ble_eq_true rfl) rfl rfl ?_
      refine z_goto (M := M_X12_round) (tgt := 17) dX12_round_125 (by decide) ?_
      exact K_11 _ (Option.some.inj H).symm
    · refine z_icmp_ne_t (M := M_X12_round) (tgt := 41) dX12_round_35 (by decide) rfl (by decide +kernel) h_16 ?_
      refine z_aload_n (M := M_X12_round) dX12_round_41 rfl ?_
      refine z_getR (M := M_X12_round) (ci := 15) (C := RX12) (T := TX12) (Nf := 135) (ty := tyX12) cl15 dX12_round_42 ly_277 3 (by decide) t_2394 rfl ?_
      refine z_iload (M := M_X12_round) dX12_round_45 rfl ?_
      obtain ⟨x_18, x_18_e, hi_19, H⟩ := rd_e H
      refine z_bald (M := M_X12_round) dX12_round_47 ly_278 rfl rfl rfl hi_19 x_18_e ?_
      refine z_bipush (M := M_X12_round) dX12_round_48 (by decide +kernel) ?_
      refine z_isub (M := M_X12_round) dX12_round_50 ?_
      refine z_istore (M := M_X12_round) (lv' := [some (vr 277), some (vl ahead_0), none, some (vl v_1), none, some (vl k_2), none, some (vi first_3), some (zv rest_4), some (vi i_5), some (vi ((w8 x_18) - 48))]) dX12_round_51 (Nat.le_of_ble_eq_true rfl) rfl rfl ?_
      obtain ⟨v_23, he_20, hk_21⟩ := bd_e H
      have J_48 : ∀ v_44 first_45 rest_46, v_23 = (v_44, first_45, rest_46) → YY l E M_X12_round 1 0 0 (pS (none) σ') 116 [some (vr 277), some (vl ahead_0), none, some (vl v_44), none, some (vl k_2), none, some (vi first_45), some (zv rest_46), some (vi i_5), some (vi ((w8 x_18) - 48))] [] σ 0 0 := by
        intro v_44 first_45 rest_46 e
        have H := hk_21
        rw [e] at H
        refine z_lload (M := M_X12_round) dX12_round_116 rfl ?_
        refine z_lconst (M := M_X12_round) (m := 1) dX12_round_118 (by decide +kernel) ?_
        refine z_ladd (M := M_X12_round) dX12_round_119 ?_
        refine z_lstore (M := M_X12_round) (lv' := [some (vr 277), some (vl ahead_0), none, some (vl v_44), none, some (vl (k_2 + 1)), none, some (vi first_45), some (zv rest_46), some (vi i_5), some (vi ((w8 x_18) - 48))]) dX12_round_120 (Nat.le_of_ble_eq_true rfl) rfl rfl ?_
        refine z_iinc (M := M_X12_round) (lv' := [some (vr 277), some (vl ahead_0), none, some (vl v_44), none, some (vl (k_2 + 1)), none, some (vi first_45), some (zv rest_46), some (vi (i_5 + 1)), some (vi ((w8 x_18) - 48))]) dX12_round_122 rfl (Nat.le_of_ble_eq_true rfl) rfl rfl ?_
        refine z_goto (M := M_X12_round) (tgt := 17) dX12_round_125 (by decide) ?_
        refine z_le (lv' := [some (vr 277), some (vl ahead_0), none, some (vl v_44), none, some (vl (k_2 + 1)), none, some (vi first_45), some (zv rest_46), some (vi (i_5 + 1)), none]) ⟨Or.inr rfl, Or.inr rfl, Or.inl rfl, Or.inr rfl, Or.inl rfl, Or.inr rfl, Or.inl rfl, Or.inr rfl, Or.inr rfl, Or.inr rfl, Or.inl rfl, trivial⟩ ?_
        exact K_11 _ (Option.some.inj H).symm
      have H := he_20
      refine z_lload (M := M_X12_round) dX12_round_53 rfl ?_
      refine z_lload_n (M := M_X12_round) dX12_round_55 rfl ?_
      refine z_lcmp (M := M_X12_round) dX12_round_56 ?_
      rcases if_e H with ⟨h_24, H⟩ | ⟨h_24, H⟩
      · refine z_lif_ge_f (M := M_X12_round) (tgt := 85) dX12_round_57 (by decide) rfl rfl h_24 ?_
        have J_25 : YY l E M_X12_round 1 0 0 (pS (none) σ') 81 [some (vr 277), some (vl ahead_0), none, some (vl v_1), none, some (vl k_2), none, some (vi first_3), some (zv rest_4), some (vi i_5), some (vi ((w8 x_18) - 48))] [vl (if (w64 v_1) < 4000000000 then ((10 * v_1) + (w32 ((w8 x_18) - 48))) else v_1)] σ 0 0 := by
          obtain ⟨x_26, x_26_e, H⟩ := lt_e H
          refine z_st (congrArg (fun z => vl z :: []) x_26_e) ?_
          refine z_lstore_n (M := M_X12_round) (lv' := [some (vr 277), some (vl ahead_0), none, some (vl x_26), none, some (vl k_2), none, some (vi first_3), some (zv rest_4), some (vi i_5), some (vi ((w8 x_18) - 48))]) dX12_round_81 (Nat.le_of_ble_eq_true rfl) rfl rfl ?_
          refine z_goto (M := M_X12_round) (tgt := 116) dX12_round_82 (by decide) ?_
          exact J_48 _ _ _ (Option.some.inj H).symm
        refine z_lload_n (M := M_X12_round) dX12_round_60 rfl ?_
        refine z_ldc2 (M := M_X12_round) (n := 4000000000) dX12_round_61 t_2936 (by decide +kernel) ?_
        refine z_lcmp (M := M_X12_round) dX12_round_64 ?_
        by_cases h_28 : (w64 v_1) < 4000000000
        · refine z_lif_ge_f (M := M_X12_round) (tgt := 80) dX12_round_65 (by decide) rfl (by decide +kernel) h_28 ?_
          refine z_ldc2 (M := M_X12_round) (n := 10) dX12_round_68 t_2390 (by decide +kernel) ?_
          refine z_lload_n (M := M_X12_round) dX12_round_71 rfl ?_
          refine z_lmul (M := M_X12_round) dX12_round_72 ?_
          refine z_iload (M := M_X12_round) dX12_round_73 rfl ?_
          refine z_i2l (M := M_X12_round) dX12_round_75 ?_
          refine z_ladd (M := M_X12_round) dX12_round_76 ?_
          refine z_goto (M := M_X12_round) (tgt := 81) dX12_round_77 (by decide) ?_
          exact z_st (by rw [if_pos (c := (w64 v_1) < 4000000000) h_28]) J_25
        · refine z_lif_ge_t (M := M_X12_round) (tgt := 80) dX12_round_65 (by decide) rfl (by decide +kernel) (Int.not_lt.mp h_28) ?_
          refine z_lload_n (M := M_X12_round) dX12_round_80 rfl ?_
          exact z_st (by rw [if_neg (c := (w64 v_1) < 4000000000) h_28]) J_25
      · refine z_lif_ge_t (M := M_X12_round) (tgt := 85) dX12_round_57 (by decide) rfl rfl (Int.not_lt.mp h_24) ?_
        obtain ⟨v_32, he_29, hk_30⟩ := bd_e H
        have J_43 : ∀ first_40 rest_41, v_32 = (first_40, rest_41) → YY l E M_X12_round 1 0 0 (pS (none) σ') 116 [some (vr 277), some (vl ahead_0), none, some (vl v_1), none, some (vl k_2), none, some (vi first_40), some (zv rest_41), some (vi i_5), some (vi ((w8 x_18) - 48))] [] σ 0 0 := by
          intro first_40 rest_41 e
          have H := hk_30
          rw [e] at H
          exact J_48 _ _ _ (Option.some.inj H).symm
        have H := he_29
        refine z_lload (M := M_X12_round) dX12_round_85 rfl ?_
        refine z_lload_n (M := M_X12_round) dX12_round_87 rfl ?_
        refine z_lcmp (M := M_X12_round) dX12_round_88 ?_
        rcases if_e H with ⟨h_33, H⟩ | ⟨h_33, H⟩
        · refine z_lif_ne_f (M := M_X12_round) (tgt := 99) dX12_round_89 (by decide) rfl rfl h_33 ?_
          refine z_iload (M := M_X12_round) dX12_round_92 rfl ?_
          refine z_istore (M := M_X12_round) (lv' := [some (vr 277), some (vl ahead_0), none, some (vl v_1), none, some (vl k_2), none, some (vi ((w8 x_18) - 48)), some (zv rest_4), some (vi i_5), some (vi ((w8 x_18) - 48))]) dX12_round_94 (Nat.le_of_ble_eq_true rfl) rfl rfl ?_
          refine z_goto (M := M_X12_round) (tgt := 116) dX12_round_96 (by decide) ?_
          exact J_43 _ _ (Option.some.inj H).symm
        · refine z_lif_ne_t (M := M_X12_round) (tgt := 99) dX12_round_89 (by decide) rfl rfl h_33 ?_
          have J_35 : YY l E M_X12_round 1 0 0 (pS (none) σ') 114 [some (vr 277), some (vl ahead_0), none, some (vl v_1), none, some (vl k_2), none, some (vi first_3), some (zv rest_4), some (vi i_5), some (vi ((w8 x_18) - 48))] [zv (decide ((rest_4 = true) ∨ (0 < (w32 ((w8 x_18) - 48)))))] σ 0 0 := by
            obtain ⟨x_36, x_36_e, H⟩ := lt_e H
            refine z_st (congrArg (fun z => zv z :: []) x_36_e) ?_
            refine z_zstore (M := M_X12_round) (lv' := [some (vr 277), some (vl ahead_0), none, some (vl v_1), none, some (vl k_2), none, some (vi first_3), some (zv x_36), some (vi i_5), some (vi ((w8 x_18) - 48))]) dX12_round_114 (Nat.le_of_ble_eq_true rfl) rfl rfl ?_
            exact J_43 _ _ (Option.some.inj H).symm
          refine z_zload (M := M_X12_round) dX12_round_99 rfl ?_
          by_cases h_38 : rest_4 = true
          · refine z_zne_t (M := M_X12_round) (tgt := 109) dX12_round_101 (by decide) h_38 ?_
            refine z_iconst (M := M_X12_round) dX12_round_109 ?_
            refine z_goto (M := M_X12_round) (tgt := 114) dX12_round_110 (by decide) ?_
            exact z_st (by rw [zv_t (p := (rest_4 = true) ∨ (0 < (w32 ((w8 x_18) - 48)))) (Or.inl h_38)]) J_35
          · refine z_zne_f (M := M_X12_round) (tgt := 109) dX12_round_101 (by decide) h_38 ?_
            refine z_iload (M := M_X12_round) dX12_round_104 rfl ?_
            by_cases h_39 : 0 < (w32 ((w8 x_18) - 48))
            · refine z_if_le_f (M := M_X12_round) (tgt := 113) dX12_round_106 (by decide) rfl h_39 ?_
              refine z_iconst (M := M_X12_round) dX12_round_109 ?_
              refine z_goto (M := M_X12_round) (tgt := 114) dX12_round_110 (by decide) ?_
              exact z_st (by rw [zv_t (p := (rest_4 = true) ∨ (0 < (w32 ((w8 x_18) - 48)))) (Or.inr h_39)]) J_35
            · refine z_if_le_t (M := M_X12_round) (tgt := 113) dX12_round_106 (by decide) rfl (Int.not_lt.mp h_39) ?_
              refine z_iconst (M := M_X12_round) dX12_round_113 ?_
              exact z_st (by rw [zv_f (p := (rest_4 = true) ∨ (0 < (w32 ((w8 x_18) - 48)))) (fun q => q.elim h_38 h_39)]) J_35
  · refine z_icmp_ge_t (M := M_X12_round) (tgt := 128) dX12_round_23 (by decide) rfl rfl (Int.not_lt.mp h_13) ?_
    exact J_87 _ _ _ _ _ (K_12 _ (Option.some.inj H).symm).symm
theorem c_X12_number (hl : l.stackTraces = false) {σ : SG} {r : Bool} {σ' : SG}  (H : fR_number σ = some (r, σ')) : en_S l E M_X12_number 3 0 0 [vr 277] σ (pS (some (zv r)) σ') := by
  unfold fR_number at H
  refine z_mk (lv := [some (vr 277), none, none, none, none, none, none, none, none]) m_X12_number rfl hl (Nat.le_of_ble_eq_true rfl) rfl ?_
  refine z_aload_n (M := M_X12_number) dX12_number_0 rfl ?_
  refine z_getI (M := M_X12_number) (ci := 15) (C := RX12) (T := TX12) (Nf := 135) (ty := tyX12) cl15 dX12_number_1 ly_277 17 (by decide) t_2408 rfl rfl ?_
  refine z_istore_n (M := M_X12_number) (lv' := [some (vr 277), some (vi (σ kR_at 0)), none, none, none, none, none, none, none]) dX12_number_4 (Nat.le_of_ble_eq_true rfl) rfl rfl ?_
  refine z_aload_n (M := M_X12_number) dX12_number_5 rfl ?_
  obtain ⟨x_2, hc_1, H⟩ := bd_e H
  refine z_callV (M := M_X12_number) (M' := M_X12_here) (as := []) (rest := []) rfl rfl dX12_number_6 m_X12_here t_2860 t_2862 s_164 (c_X12_here hl  hc_1) rfl rfl ly_277 rfl (Nat.le_of_ble_eq_true rfl) (Nat.le_of_ble_eq_true rfl) (Nat.le_of_ble_eq_true rfl) (Nat.le_of_ble_eq_true rfl) ?_
  refine z_st (st' := [vi x_2]) rfl ?_
  refine z_istore_n (M := M_X12_number) (lv' := [some (vr 277), some (vi (σ kR_at 0)), some (vi x_2), none, none, none, none, none, none]) dX12_number_9 (Nat.le_of_ble_eq_true rfl) rfl rfl ?_
  rcases if_e H with ⟨h_220, H⟩ | ⟨h_220, H⟩
  · have J_221 : YY l E M_X12_number 3 0 0 (pS (some (zv r)) σ') 30 [some (vr 277), some (vi (σ kR_at 0)), some (vi x_2), none, none, none, none, none, none] [] σ 0 0 := by
      refine z_aload_n (M := M_X12_number) dX12_number_30 rfl ?_
      refine z_zconst (M := M_X12_number) (b := false) dX12_number_31 rfl ?_
      obtain ⟨⟨x_5, σ_4⟩, hc_3, H⟩ := bd_e H
      refine z_callV (M := M_X12_number) (M' := M_X12_strange) (as := [zv false]) (rest := []) rfl rfl dX12_number_32 m_X12_strange t_2870 t_2872 s_165 (c_X12_strange hl  hc_3) rfl rfl ly_277 rfl (Nat.le_of_ble_eq_true rfl) (Nat.le_of_ble_eq_true rfl) (Nat.le_of_ble_eq_true rfl) (Nat.le_of_ble_eq_true rfl) ?_
      refine z_st (st' := [zv x_5]) rfl ?_
      cases H
      exact z_zret (M := M_X12_number) dX12_number_35 rfl (Nat.le_of_ble_eq_true rfl) (Nat.le_of_ble_eq_true rfl) ⟨rfl, rfl⟩
    refine z_iload_n (M := M_X12_number) dX12_number_10 rfl ?_
    refine z_callS (M := M_X12_number) (M' := M_X12_isDigit) (as := [vi x_2]) (rest := []) rfl rfl dX12_number_11 m_X12_isDigit t_2878 t_2879 (c_X12_isDigit hl  rfl) rfl rfl (Nat.le_of_ble_eq_true rfl) (Nat.le_of_ble_eq_true rfl) (Nat.le_of_ble_eq_true rfl) (Nat.le_of_ble_eq_true rfl) ?_
    refine z_st (st' := [zv (fR_isDigit x_2)]) rfl ?_
    by_cases h_223 : (fR_isDigit x_2) = true
    · refine z_zne_t (M := M_X12_number) (tgt := 36) dX12_number_14 (by decide) h_223 ?_
      exact absurd h_220 (fun q => (fun q => (not_not_intro h_223) q.1) q.1)
    · refine z_zne_f (M := M_X12_number) (tgt := 36) dX12_number_14 (by decide) h_223 ?_
      refine z_iload_n (M := M_X12_number) dX12_number_17 rfl ?_
      refine z_callS (M := M_X12_number) (M' := M_X12_isSign) (as := [vi x_2]) (rest := []) rfl rfl dX12_number_18 m_X12_isSign t_2881 t_2882 (c_X12_isSign hl  rfl) rfl rfl (Nat.le_of_ble_eq_true rfl) (Nat.le_of_ble_eq_true rfl) (Nat.le_of_ble_eq_true rfl) (Nat.le_of_ble_eq_true rfl) ?_
      refine z_st (st' := [zv (fR_isSign x_2)]) rfl ?_
      by_cases h_224 : (fR_isSign x_2) = true
      · refine z_zne_t (M := M_X12_number) (tgt := 36) dX12_number_21 (by decide) h_224 ?_
        exact absurd h_220 (fun q => (fun q => (not_not_intro h_224) q.2) q.1)
      · refine z_zne_f (M := M_X12_number) (tgt := 36) dX12_number_21 (by decide) h_224 ?_
        refine z_iload_n (M := M_X12_number) dX12_number_24 rfl ?_
        refine z_bipush (M := M_X12_number) dX12_number_25 (by decide +kernel) ?_
        by_cases h_225 : ¬ (w32 x_2) = 46
        · refine z_icmp_eq_f (M := M_X12_number) (tgt := 36) dX12_number_27 (by decide) rfl (by decide +kernel) h_225 ?_
          exact J_221
        · refine z_icmp_eq_t (M := M_X12_number) (tgt := 36) dX12_number_27 (by decide) rfl (by decide +kernel) (Decidable.not_not.mp h_225) ?_
          exact absurd h_220 (fun q => h_225 q.2)
  · have J_222 : YY l E M_X12_number 3 0 0 (pS (some (zv r)) σ') 36 [some (vr 277), some (vi (σ kR_at 0)), some (vi x_2), none, none, none, none, none, none] [] σ 0 0 := by
      obtain ⟨v_9, he_6, hk_7⟩ := bd_e H
      have J_219 : ∀ σ_14, v_9 = σ_14 → YY l E M_X12_number 3 0 0 (pS (some (zv r)) σ') 53 [some (vr 277), some (vi (σ kR_at 0)), some (vi x_2), none, none, none, none, none, none] [] σ_14 0 0 := by
        intro σ_14 e
        have H := hk_7
        rw [e] at H
        refine z_aload_n (M := M_X12_number) dX12_number_53 rfl ?_
        refine z_aload_n (M := M_X12_number) dX12_number_54 rfl ?_
        refine z_getI (M := M_X12_number) (ci := 15) (C := RX12) (T := TX12) (Nf := 135) (ty := tyX12) cl15 dX12_number_55 ly_277 17 (by decide) t_2408 rfl rfl ?_
        obtain ⟨σ_15, σ_15_e, H⟩ := wf_e H
        refine z_putI (M := M_X12_number) (ci := 15) (C := RX12) (T := TX12) (Nf := 135) (ty := tyX12) cl15 dX12_number_58 ly_277 22 (by decide) t_2413 rfl rfl rfl rfl σ_15_e ?_
        refine z_aload_n (M := M_X12_number) dX12_number_61 rfl ?_
        obtain ⟨σ_17, hc_16, H⟩ := bd_e H
        refine z_callV (M := M_X12_number) (M' := M_X12_digitsOn) (as := []) (rest := []) rfl rfl dX12_number_62 m_X12_digitsOn t_2926 t_2928 s_176 (c_X12_digitsOn hl  hc_16) rfl rfl ly_277 rfl (Nat.le_of_ble_eq_true rfl) (Nat.le_of_ble_eq_true rfl) (Nat.le_of_ble_eq_true rfl) (Nat.le_of_ble_eq_true rfl) ?_
        refine z_st (st' := []) rfl ?_
        refine z_aload_n (M := M_X12_number) dX12_number_65 rfl ?_
        refine z_aload_n (M := M_X12_number) dX12_number_66 rfl ?_
        refine z_getI (M := M_X12_number) (ci := 15) (C := RX12) (T := TX12) (Nf := 135) (ty := tyX12) cl15 dX12_number_67 ly_277 17 (by decide) t_2408 rfl rfl ?_
        refine z_aload_n (M := M_X12_number) dX12_number_70 rfl ?_
        refine z_getI (M := M_X12_number) (ci := 15) (C := RX12) (T := TX12) (Nf := 135) (ty := tyX12) cl15 dX12_number_71 ly_277 22 (by decide) t_2413 rfl rfl ?_
        refine z_isub (M := M_X12_number) dX12_number_74 ?_
        obtain ⟨σ_18, σ_18_e, H⟩ := wf_e H
        refine z_putI (M := M_X12_number) (ci := 15) (C := RX12) (T := TX12) (Nf := 135) (ty := tyX12) cl15 dX12_number_75 ly_277 24 (by decide) t_2415 rfl rfl rfl rfl σ_18_e ?_
        refine z_aload_n (M := M_X12_number) dX12_number_78 rfl ?_
        refine z_getI (M := M_X12_number) (ci := 15) (C := RX12) (T := TX12) (Nf := 135) (ty := tyX12) cl15 dX12_number_79 ly_277 24 (by decide) t_2415 rfl rfl ?_
        refine z_istore_n (M := M_X12_number) (lv' := [some (vr 277), some (vi (σ kR_at 0)), some (vi x_2), some (vi (σ_18 kR_numberWhole 0)), none, none, none, none, none]) dX12_number_82 (Nat.le_of_ble_eq_true rfl) rfl rfl ?_
        obtain ⟨v_22, he_19, hk_20⟩ := bd_e H
        have J_218 : ∀ many_32 σ_33, v_22 = (many_32, σ_33) → YY l E M_X12_number 3 0 0 (pS (some (zv r)) σ') 122 [some (vr 277), some (vi (σ kR_at 0)), some (vi x_2), some (vi many_32), none, none, none, none, none] [] σ_33 0 0 := by
          intro many_32 σ_33 e
          have H := hk_20
          rw [e] at H
          refine z_aload_n (M := M_X12_number) dX12_number_122 rfl ?_
          refine z_aload_n (M := M_X12_number) dX12_number_123 rfl ?_
          refine z_getI (M := M_X12_number) (ci := 15) (C := RX12) (T := TX12) (Nf := 135) (ty := tyX12) cl15 dX12_number_124 ly_277 17 (by decide) t_2408 rfl rfl ?_
          obtain ⟨σ_34, σ_34_e, H⟩ := wf_e H
          refine z_putI (M := M_X12_number) (ci := 15) (C := RX12) (T := TX12) (Nf := 135) (ty := tyX12) cl15 dX12_number_127 ly_277 23 (by decide) t_2414 rfl rfl rfl rfl σ_34_e ?_
          have J_35 : YY l E M_X12_number 3 0 0 (pS (some (zv r)) σ') 139 [some (vr 277), some (vi (σ kR_at 0)), some (vi x_2), some (vi many_32), none, none, none, none, none] [zv (decide (0 < (w32 many_32)))] σ_34 0 0 := by
            refine z_zstore (M := M_X12_number) (lv' := [some (vr 277), some (vi (σ kR_at 0)), some (vi x_2), some (vi many_32), some (zv (decide (0 < (w32 many_32)))), none, none, none, none]) dX12_number_139 (Nat.le_of_ble_eq_true rfl) rfl rfl ?_
            refine z_lconst (M := M_X12_number) (m := 0) dX12_number_141 (by decide +kernel) ?_
            refine z_lstore (M := M_X12_number) (lv' := [some (vr 277), some (vi (σ kR_at 0)), some (vi x_2), some (vi many_32), some (zv (decide (0 < (w32 many_32)))), some (vl 0), none, none, none]) dX12_number_142 (Nat.le_of_ble_eq_true rfl) rfl rfl ?_
            obtain ⟨v_39, he_36, hk_37⟩ := bd_e H
            have J_216 : ∀ good_185 power_186 σ_187, v_39 = (good_185, power_186, σ_187) → YY l E M_X12_number 3 0 0 (pS (some (zv r)) σ') 305 [some (vr 277), some (vi (σ kR_at 0)), some (vi x_2), some (vi many_32), some (zv good_185), some (vl power_186), none, none, none] [] σ_187 0 0 := by
              intro good_185 power_186 σ_187 e
              have H := hk_37
              rw [e] at H
              refine z_aload_n (M := M_X12_number) dX12_number_305 rfl ?_
              obtain ⟨x_189, hc_188, H⟩ := bd_e H
              refine z_callV (M := M_X12_number) (M' := M_X12_here) (as := []) (rest := []) rfl rfl dX12_number_306 m_X12_here t_2860 t_2862 s_164 (c_X12_here hl  hc_188) rfl rfl ly_277 rfl (Nat.le_of_ble_eq_true rfl) (Nat.le_of_ble_eq_true rfl) (Nat.le_of_ble_eq_true rfl) (Nat.le_of_ble_eq_true rfl) ?_
              refine z_st (st' := [vi x_189]) rfl ?_
              refine z_istore (M := M_X12_number) (lv' := [some (vr 277), some (vi (σ kR_at 0)), some (vi x_2), some (vi many_32), some (zv good_185), some (vl power_186), none, some (vi x_189), none]) dX12_number_309 (Nat.le_of_ble_eq_true rfl) rfl rfl ?_
              have J_190 : YY l E M_X12_number 3 0 0 (pS (some (zv r)) σ') 353 [some (vr 277), some (vi (σ kR_at 0)), some (vi x_2), some (vi many_32), some (zv good_185), some (vl power_186), none, some (vi x_189), none] [zv (decide ((¬ (w32 x_189) = (-1)) ∧ (((((fR_isLetter x_189) = true) ∨ ((fR_isDigit x_189) = true)) ∨ ((fR_isSign x_189) = true)) ∨ ((w32 x_189) = 46))))] σ_187 0 0 := by
                obtain ⟨x_191, x_191_e, H⟩ := lt_e H
                refine z_st (congrArg (fun z => zv z :: []) x_191_e) ?_
                refine z_zstore (M := M_X12_number) (lv' := [some (vr 277), some (vi (σ kR_at 0)), some (vi x_2), some (vi many_32), some (zv good_185), some (vl power_186), none, some (vi x_189), some (zv x_191)]) dX12_number_353 (Nat.le_of_ble_eq_true rfl) rfl rfl ?_
                rcases if_e H with ⟨h_204, H⟩ | ⟨h_204, H⟩
                · have J_205 : YY l E M_X12_number 3 0 0 (pS (some (zv r)) σ') 365 [some (vr 277), some (vi (σ kR_at 0)), some (vi x_2), some (vi many_32), some (zv good_185), some (vl power_186), none, some (vi x_189), some (zv x_191)] [] σ_187 0 0 := by
                    refine z_aload_n (M := M_X12_number) dX12_number_365 rfl ?_
                    refine z_iconst (M := M_X12_number) dX12_number_366 ?_
                    refine z_iload_n (M := M_X12_number) dX12_number_367 rfl ?_
                    obtain ⟨⟨x_194, σ_193⟩, hc_192, H⟩ := bd_e H
                    refine z_callV (M := M_X12_number) (M' := M_X12_wrong) (as := [vi 4, vi (σ kR_at 0)]) (rest := []) rfl rfl dX12_number_368 m_X12_wrong t_2874 t_2876 s_166 (c_X12_wrong hl  hc_192) rfl rfl ly_277 rfl (Nat.le_of_ble_eq_true rfl) (Nat.le_of_ble_eq_true rfl) (Nat.le_of_ble_eq_true rfl) (Nat.le_of_ble_eq_true rfl) ?_
                    refine z_st (st' := [zv x_194]) rfl ?_
                    cases H
                    exact z_zret (M := M_X12_number) dX12_number_371 rfl (Nat.le_of_ble_eq_true rfl) (Nat.le_of_ble_eq_true rfl) ⟨rfl, rfl⟩
                  refine z_zload (M := M_X12_number) dX12_number_355 rfl ?_
                  by_cases h_207 : good_185 = true
                  · refine z_zeq_f (M := M_X12_number) (tgt := 365) dX12_number_357 (by decide) h_207 ?_
                    refine z_zload (M := M_X12_number) dX12_number_360 rfl ?_
                    by_cases h_208 : x_191 = true
                    · refine z_zeq_f (M := M_X12_number) (tgt := 372) dX12_number_362 (by decide) h_208 ?_
                      exact J_205
                    · refine z_zeq_t (M := M_X12_number) (tgt := 372) dX12_number_362 (by decide) h_208 ?_
                      exact absurd h_204 (fun q => q.elim (not_not_intro h_207) h_208)
                  · refine z_zeq_t (M := M_X12_number) (tgt := 365) dX12_number_357 (by decide) h_207 ?_
                    exact J_205
                · have J_206 : YY l E M_X12_number 3 0 0 (pS (some (zv r)) σ') 372 [some (vr 277), some (vi (σ kR_at 0)), some (vi x_2), some (vi many_32), some (zv good_185), some (vl power_186), none, some (vi x_189), some (zv x_191)] [] σ_187 0 0 := by
                    refine z_aload_n (M := M_X12_number) dX12_number_372 rfl ?_
                    refine z_aload_n (M := M_X12_number) dX12_number_373 rfl ?_
                    refine z_getI (M := M_X12_number) (ci := 15) (C := RX12) (T := TX12) (Nf := 135) (ty := tyX12) cl15 dX12_number_374 ly_277 24 (by decide) t_2415 rfl rfl ?_
                    refine z_i2l (M := M_X12_number) dX12_number_377 ?_
                    refine z_lload (M := M_X12_number) dX12_number_378 rfl ?_
                    refine z_ladd (M := M_X12_number) dX12_number_380 ?_
                    refine z_aload_n (M := M_X12_number) dX12_number_381 rfl ?_
                    refine z_getI (M := M_X12_number) (ci := 15) (C := RX12) (T := TX12) (Nf := 135) (ty := tyX12) cl15 dX12_number_382 ly_277 1 (by decide) t_2392 rfl rfl ?_
                    refine z_i2l (M := M_X12_number) dX12_number_385 ?_
                    refine z_ladd (M := M_X12_number) dX12_number_386 ?_
                    obtain ⟨σ_196, hc_195, H⟩ := bd_e H
                    refine z_callV (M := M_X12_number) (M' := M_X12_round) (as := [vl (((w32 (σ_187 kR_numberWhole 0)) + power_186) + (w32 (σ_187 kR_digits 0)))]) (rest := []) rfl rfl dX12_number_387 m_X12_round t_2932 t_2934 s_177 (c_X12_round hl  hc_195) rfl rfl ly_277 rfl (Nat.le_of_ble_eq_true rfl) (Nat.le_of_ble_eq_true rfl) (Nat.le_of_ble_eq_true rfl) (Nat.le_of_ble_eq_true rfl) ?_
                    refine z_st (st' := []) rfl ?_
                    refine z_aload_n (M := M_X12_number) dX12_number_390 rfl ?_
                    refine z_getL (M := M_X12_number) (ci := 15) (C := RX12) (T := TX12) (Nf := 135) (ty := tyX12) cl15 dX12_number_391 ly_277 25 (by decide) t_2416 rfl rfl ?_
                    refine z_ldc2 (M := M_X12_number) (n := 1000000000) dX12_number_394 t_2937 (by decide +kernel) ?_
                    refine z_lcmp (M := M_X12_number) dX12_number_397 ?_
                    rcases if_e H with ⟨h_197, H⟩ | ⟨h_197, H⟩
                    · refine z_lif_le_f (M := M_X12_number) (tgt := 408) dX12_number_398 (by decide) rfl (by decide +kernel) h_197 ?_
                      refine z_aload_n (M := M_X12_number) dX12_number_401 rfl ?_
                      refine z_iconst (M := M_X12_number) dX12_number_402 ?_
                      refine z_iload_n (M := M_X12_number) dX12_number_403 rfl ?_
                      obtain ⟨⟨x_200, σ_199⟩, hc_198, H⟩ := bd_e H
                      refine z_callV (M := M_X12_number) (M' := M_X12_wrong) (as := [vi 5, vi (σ kR_at 0)]) (rest := []) rfl rfl dX12_number_404 m_X12_wrong t_2874 t_2876 s_166 (c_X12_wrong hl  hc_198) rfl rfl ly_277 rfl (Nat.le_of_ble_eq_true rfl) (Nat.le_of_ble_eq_true rfl) (Nat.le_of_ble_eq_true rfl) (Nat.le_of_ble_eq_true rfl) ?_
                      refine z_st (st' := [zv x_200]) rfl ?_
                      cases H
                      exact z_zret (M := M_X12_number) dX12_number_407 rfl (Nat.le_of_ble_eq_true rfl) (Nat.le_of_ble_eq_true rfl) ⟨rfl, rfl⟩
                    · refine z_lif_le_t (M := M_X12_number) (tgt := 408) dX12_number_398 (by decide) rfl (by decide +kernel) (Int.not_lt.mp h_197) ?_
                      refine z_aload_n (M := M_X12_number) dX12_number_408 rfl ?_
                      have J_201 : YY l E M_X12_number 3 0 0 (pS (some (zv r)) σ') 427 [some (vr 277), some (vi (σ kR_at 0)), some (vi x_2), some (vi many_32), some (zv good_185), some (vl power_186), none, some (vi x_189), some (zv x_191)] [vl (if (w32 x_2) = 45 then (-(σ_196 kR_value 0)) else (σ_196 kR_value 0)), vr 277] σ_196 0 0 := by
                        obtain ⟨σ_202, σ_202_e, H⟩ := wf_e H
                        refine z_putL (M := M_X12_number) (ci := 15) (C := RX12) (T := TX12) (Nf := 135) (ty := tyX12) cl15 dX12_number_427 ly_277 25 (by decide) t_2416 rfl rfl rfl rfl σ_202_e ?_
                        refine z_zconst (M := M_X12_number) (b := true) dX12_number_430 rfl ?_
                        cases H
                        exact z_zret (M := M_X12_number) dX12_number_431 rfl (Nat.le_of_ble_eq_true rfl) (Nat.le_of_ble_eq_true rfl) ⟨rfl, rfl⟩
                      refine z_iload_n (M := M_X12_number) dX12_number_409 rfl ?_
                      refine z_bipush (M := M_X12_number) dX12_number_410 (by decide +kernel) ?_
                      by_cases h_203 : (w32 x_2) = 45
                      · refine z_icmp_ne_f (M := M_X12_number) (tgt := 423) dX12_number_412 (by decide) rfl (by decide +kernel) h_203 ?_
                        refine z_aload_n (M := M_X12_number) dX12_number_415 rfl ?_
                        refine z_getL (M := M_X12_number) (ci := 15) (C := RX12) (T := TX12) (Nf := 135) (ty := tyX12) cl15 dX12_number_416 ly_277 25 (by decide) t_2416 rfl rfl ?_
                        refine z_lneg (M := M_X12_number) dX12_number_419 ?_
                        refine z_goto (M := M_X12_number) (tgt := 427) dX12_number_420 (by decide) ?_
                        exact z_st (by rw [if_pos (c := (w32 x_2) = 45) h_203]) J_201
                      · refine z_icmp_ne_t (M := M_X12_number) (tgt := 423) dX12_number_412 (by decide) rfl (by decide +kernel) h_203 ?_
                        refine z_aload_n (M := M_X12_number) dX12_number_423 rfl ?_
                        refine z_getL (M := M_X12_number) (ci := 15) (C := RX12) (T := TX12) (Nf := 135) (ty := tyX12) cl15 dX12_number_424 ly_277 25 (by decide) t_2416 rfl rfl ?_
                        exact z_st (by rw [if_neg (c := (w32 x_2) = 45) h_203]) J_201
                  refine z_zload (M := M_X12_number) dX12_number_355 rfl ?_
                  by_cases h_209 : good_185 = true
                  · refine z_zeq_f (M := M_X12_number) (tgt := 365) dX12_number_357 (by decide) h_209 ?_
                    refine z_zload (M := M_X12_number) dX12_number_360 rfl ?_
                    by_cases h_210 : x_191 = true
                    · refine z_zeq_f (M := M_X12_number) (tgt := 372) dX12_number_362 (by decide) h_210 ?_
                      exact absurd (Or.inr h_210) h_204
                    · refine z_zeq_t (M := M_X12_number) (tgt := 372) dX12_number_362 (by decide) h_210 ?_
                      exact J_206
                  · refine z_zeq_t (M := M_X12_number) (tgt := 365) dX12_number_357 (by decide) h_209 ?_
                    exact absurd (Or.inl h_209) h_204
              refine z_iload (M := M_X12_number) dX12_number_311 rfl ?_
              refine z_iconst (M := M_X12_number) dX12_number_313 ?_
              by_cases h_211 : ¬ (w32 x_189) = (-1)
              · refine z_icmp_eq_f (M := M_X12_number) (tgt := 352) dX12_number_314 (by decide) rfl (by decide +kernel) h_211 ?_
                refine z_iload (M := M_X12_number) dX12_number_317 rfl ?_
                refine z_callS (M := M_X12_number) (M' := M_X12_isLetter) (as := [vi x_189]) (rest := []) rfl rfl dX12_number_319 m_X12_isLetter t_2867 t_2868 (c_X12_isLetter hl  rfl) rfl rfl (Nat.le_of_ble_eq_true rfl) (Nat.le_of_ble_eq_true rfl) (Nat.le_of_ble_eq_true rfl) (Nat.le_of_ble_eq_true rfl) ?_
                refine z_st (st' := [zv (fR_isLetter x_189)]) rfl ?_
                by_cases h_212 : (fR_isLetter x_189) = true
                · refine z_zne_t (M := M_X12_number) (tgt := 348) dX12_number_322 (by decide) h_212 ?_
                  refine z_iconst (M := M_X12_number) dX12_number_348 ?_
                  refine z_goto (M := M_X12_number) (tgt := 353) dX12_number_349 (by decide) ?_
                  exact z_st (by rw [zv_t (p := (¬ (w32 x_189) = (-1)) ∧ (((((fR_isLetter x_189) = true) ∨ ((fR_isDigit x_189) = true)) ∨ ((fR_isSign x_189) = true)) ∨ ((w32 x_189) = 46))) ⟨h_211, (Or.inl (Or.inl (Or.inl h_212)))⟩]) J_190
                · refine z_zne_f (M := M_X12_number) (tgt := 348) dX12_number_322 (by decide) h_212 ?_
                  refine z_iload (M := M_X12_number) dX12_number_325 rfl ?_
                  refine z_callS (M := M_X12_number) (M' := M_X12_isDigit) (as := [vi x_189]) (rest := []) rfl rfl dX12_number_327 m_X12_isDigit t_2878 t_2879 (c_X12_isDigit hl  rfl) rfl rfl (Nat.le_of_ble_eq_true rfl) (Nat.le_of_ble_eq_true rfl) (Nat.le_of_ble_eq_true rfl) (Nat.le_of_ble_eq_true rfl) ?_
                  refine z_st (st' := [zv (fR_isDigit x_189)]) rfl ?_
                  by_cases h_213 : (fR_isDigit x_189) = true
                  · refine z_zne_t (M := M_X12_number) (tgt := 348) dX12_number_330 (by decide) h_213 ?_
                    refine z_iconst (M := M_X12_number) dX12_number_348 ?_
                    refine z_goto (M := M_X12_number) (tgt := 353) dX12_number_349 (by decide) ?_
                    exact z_st (by rw [zv_t (p := (¬ (w32 x_189) = (-1)) ∧ (((((fR_isLetter x_189) = true) ∨ ((fR_isDigit x_189) = true)) ∨ ((fR_isSign x_189) = true)) ∨ ((w32 x_189) = 46))) ⟨h_211, (Or.inl (Or.inl (Or.inr h_213)))⟩]) J_190
                  · refine z_zne_f (M := M_X12_number) (tgt := 348) dX12_number_330 (by decide) h_213 ?_
                    refine z_iload (M := M_X12_number) dX12_number_333 rfl ?_
                    refine z_callS (M := M_X12_number) (M' := M_X12_isSign) (as := [vi x_189]) (rest := []) rfl rfl dX12_number_335 m_X12_isSign t_2881 t_2882 (c_X12_isSign hl  rfl) rfl rfl (Nat.le_of_ble_eq_true rfl) (Nat.le_of_ble_eq_true rfl) (Nat.le_of_ble_eq_true rfl) (Nat.le_of_ble_eq_true rfl) ?_
                    refine z_st (st' := [zv (fR_isSign x_189)]) rfl ?_
                    by_cases h_214 : (fR_isSign x_189) = true
                    · refine z_zne_t (M := M_X12_number) (tgt := 348) dX12_number_338 (by decide) h_214 ?_
                      refine z_iconst (M := M_X12_number) dX12_number_348 ?_
                      refine z_goto (M := M_X12_number) (tgt := 353) dX12_number_349 (by decide) ?_
                      exact z_st (by rw [zv_t (p := (¬ (w32 x_189) = (-1)) ∧ (((((fR_isLetter x_189) = true) ∨ ((fR_isDigit x_189) = true)) ∨ ((fR_isSign x_189) = true)) ∨ ((w32 x_189) = 46))) ⟨h_211, (Or.inl (Or.inr h_214))⟩]) J_190
                    · refine z_zne_f (M := M_X12_number) (tgt := 348) dX12_number_338 (by decide) h_214 ?_
                      refine z_iload (M := M_X12_number) dX12_number_341 rfl ?_
                      refine z_bipush (M := M_X12_number) dX12_number_343 (by decide +kernel) ?_
                      by_cases h_215 : (w32 x_189) = 46
                      · refine z_icmp_ne_f (M := M_X12_number) (tgt := 352) dX12_number_345 (by decide) rfl (by decide +kernel) h_215 ?_
                        refine z_iconst (M := M_X12_number) dX12_number_348 ?_
                        refine z_goto (M := M_X12_number) (tgt := 353) dX12_number_349 (by decide) ?_
                        exact z_st (by rw [zv_t (p := (¬ (w32 x_189) = (-1)) ∧ (((((fR_isLetter x_189) = true) ∨ ((fR_isDigit x_189) = true)) ∨ ((fR_isSign x_189) = true)) ∨ ((w32 x_189) = 46))) ⟨h_211, (Or.inr h_215)⟩]) J_190
                      · refine z_icmp_ne_t (M := M_X12_number) (tgt := 352) dX12_number_345 (by decide) rfl (by decide +kernel) h_215 ?_
                        refine z_iconst (M := M_X12_number) dX12_number_352 ?_
                        exact z_st (by rw [zv_f (p := (¬ (w32 x_189) = (-1)) ∧ (((((fR_isLetter x_189) = true) ∨ ((fR_isDigit x_189) = true)) ∨ ((fR_isSign x_189) = true)) ∨ ((w32 x_189) = 46))) (fun q => (fun q => q.elim (fun q => q.elim (fun q => q.elim h_212 h_213) h_214) h_215) q.2)]) J_190
              · refine z_icmp_eq_t (M := M_X12_number) (tgt := 352) dX12_number_314 (by decide) rfl (by decide +kernel) (Decidable.not_not.mp h_211) ?_
                refine z_iconst (M := M_X12_number) dX12_number_352 ?_
                exact z_st (by rw [zv_f (p := (¬ (w32 x_189) = (-1)) ∧ (((((fR_isLetter x_189) = true) ∨ ((fR_isDigit x_189) = true)) ∨ ((fR_isSign x_189) = true)) ∨ ((w32 x_189) = 46))) (fun q => h_211 q.1)]) J_190
            have H := he_36
            obtain ⟨v_180, he_181, hk_182⟩ := bd_e H
            have J_183 : v_180 = true → YY l E M_X12_number 3 0 0 (pS (some (zv r)) σ') 162 [some (vr 277), some (vi (σ kR_at 0)), some (vi x_2), some (vi many_32), some (zv (decide (0 < (w32 many_32)))), some (vl 0), none, none, none] [] σ_34 0 0 := by
              intro e
              have H := hk_182
              rw [e] at H
              rcases if_e H with ⟨_, H⟩ | ⟨q, H⟩
              · refine z_aload_n (M := M_X12_number) dX12_number_162 rfl ?_
                refine z_dup (M := M_X12_number) dX12_number_163 rfl ?_
                refine z_getI (M := M_X12_number) (ci := 15) (C := RX12) (T := TX12) (Nf := 135) (ty := tyX12) cl15 dX12_number_164 ly_277 17 (by decide) t_2408 rfl rfl ?_
                refine z_iconst (M := M_X12_number) dX12_number_167 ?_
                refine z_iadd (M := M_X12_number) dX12_number_168 ?_
                obtain ⟨σ_119, σ_119_e, H⟩ := wf_e H
                refine z_putI (M := M_X12_number) (ci := 15) (C := RX12) (T := TX12) (Nf := 135) (ty := tyX12) cl15 dX12_number_169 ly_277 17 (by decide) t_2408 rfl rfl rfl rfl σ_119_e ?_
                obtain ⟨v_175, he_176, hk_177⟩ := bd_e H
                have J_178 : ∀ x_125, v_175 = x_125 → YY l E M_X12_number 3 0 0 (pS (some (zv r)) σ') 186 [some (vr 277), some (vi (σ kR_at 0)), some (vi x_2), some (vi many_32), some (zv (decide (0 < (w32 many_32)))), some (vl 0), none, none, none] [zv x_125] σ_119 0 0 := by
                  intro x_125 e
                  have H := hk_177
                  rw [e] at H
                  refine z_zstore (M := M_X12_number) (lv' := [some (vr 277), some (vi (σ kR_at 0)), some (vi x_2), some (vi many_32), some (zv (decide (0 < (w32 many_32)))), some (vl 0), none, some (zv x_125), none]) dX12_number_186 (Nat.le_of_ble_eq_true rfl) rfl rfl ?_
                  obtain ⟨v_129, he_126, hk_127⟩ := bd_e H
                  have J_174 : ∀ σ_136, v_129 = σ_136 → YY l E M_X12_number 3 0 0 (pS (some (zv r)) σ') 208 [some (vr 277), some (vi (σ kR_at 0)), some (vi x_2), some (vi many_32), some (zv (decide (0 < (w32 many_32)))), some (vl 0), none, some (zv x_125), none] [] σ_136 0 0 := by
                    intro σ_136 e
                    have H := hk_127
                    rw [e] at H
                    refine z_aload_n (M := M_X12_number) dX12_number_208 rfl ?_
                    refine z_getI (M := M_X12_number) (ci := 15) (C := RX12) (T := TX12) (Nf := 135) (ty := tyX12) cl15 dX12_number_209 ly_277 17 (by decide) t_2408 rfl rfl ?_
                    refine z_istore (M := M_X12_number) (lv' := [some (vr 277), some (vi (σ kR_at 0)), some (vi x_2), some (vi many_32), some (zv (decide (0 < (w32 many_32)))), some (vl 0), none, some (zv x_125), some (vi (σ_136 kR_at 0))]) dX12_number_212 (Nat.le_of_ble_eq_true rfl) rfl rfl ?_
                    obtain ⟨rl_142, hw_139, hk_140⟩ := bd_e H
                    have J_173 : ∀ power_164 σ_165, rl_142 = (power_164, σ_165) → YY l E M_X12_number 3 0 0 (pS (some (zv r)) σ') 269 [some (vr 277), some (vi (σ kR_at 0)), some (vi x_2), some (vi many_32), some (zv (decide (0 < (w32 many_32)))), some (vl power_164), none, some (zv x_125), some (vi (σ_136 kR_at 0))] [] σ_165 0 0 := by
                      intro power_164 σ_165 e
                      have H := hk_140
                      rw [e] at H
                      have J_166 : YY l E M_X12_number 3 0 0 (pS (some (zv r)) σ') 288 [some (vr 277), some (vi (σ kR_at 0)), some (vi x_2), some (vi many_32), some (zv (decide (0 < (w32 many_32)))), some (vl power_164), none, some (zv x_125), some (vi (σ_136 kR_at 0))] [zv (decide (((decide (0 < (w32 many_32))) = true) ∧ ((w32 (σ_136 kR_at 0)) < (w32 (σ_165 kR_at 0)))))] σ_165 0 0 := by
                        obtain ⟨x_167, x_167_e, H⟩ := lt_e H
                        refine z_st (congrArg (fun z => zv z :: []) x_167_e) ?_
                        refine z_zstore (M := M_X12_number) (lv' := [some (vr 277), some (vi (σ kR_at 0)), some (vi x_2), some (vi many_32), some (zv x_167), some (vl power_164), none, some (zv x_125), some (vi (σ_136 kR_at 0))]) dX12_number_288 (Nat.le_of_ble_eq_true rfl) rfl rfl ?_
                        have J_168 : YY l E M_X12_number 3 0 0 (pS (some (zv r)) σ') 303 [some (vr 277), some (vi (σ kR_at 0)), some (vi x_2), some (vi many_32), some (zv x_167), some (vl power_164), none, some (zv x_125), some (vi (σ_136 kR_at 0))] [vl (if x_125 = true then (-power_164) else power_164)] σ_165 0 0 := by
                          refine z_lstore (M := M_X12_number) (lv' := [some (vr 277), some (vi (σ kR_at 0)), some (vi x_2), some (vi many_32), some (zv x_167), some (vl (if x_125 = true then (-power_164) else power_164)), none, some (zv x_125), some (vi (σ_136 kR_at 0))]) dX12_number_303 (Nat.le_of_ble_eq_true rfl) rfl rfl ?_
                          refine z_le (lv' := [some (vr 277), some (vi (σ kR_at 0)), some (vi x_2), some (vi many_32), some (zv x_167), some (vl (if x_125 = true then (-power_164) else power_164)), none, none, none]) ⟨Or.inr rfl, Or.inr rfl, Or.inr rfl, Or.inr rfl, Or.inr rfl, Or.inr rfl, Or.inl rfl, Or.inl rfl, Or.inl rfl, trivial⟩ ?_
                          exact J_216 _ _ _ (Option.some.inj H).symm
                        refine z_zload (M := M_X12_number) dX12_number_290 rfl ?_
                        by_cases h_170 : x_125 = true
                        · refine z_zeq_f (M := M_X12_number) (tgt := 301) dX12_number_292 (by decide) h_170 ?_
                          refine z_lload (M := M_X12_number) dX12_number_295 rfl ?_
                          refine z_lneg (M := M_X12_number) dX12_number_297 ?_
                          refine z_goto (M := M_X12_number) (tgt := 303) dX12_number_298 (by decide) ?_
                          exact z_st (by rw [if_pos (c := x_125 = true) h_170]) J_168
                        · refine z_zeq_t (M := M_X12_number) (tgt := 301) dX12_number_292 (by decide) h_170 ?_
                          refine z_lload (M := M_X12_number) dX12_number_301 rfl ?_
                          exact z_st (by rw [if_neg (c := x_125 = true) h_170]) J_168
                      refine z_zload (M := M_X12_number) dX12_number_269 rfl ?_
                      by_cases h_171 : (decide (0 < (w32 many_32))) = true
                      · refine z_zeq_f (M := M_X12_number) (tgt := 287) dX12_number_271 (by decide) h_171 ?_
                        refine z_aload_n (M := M_X12_number) dX12_number_274 rfl ?_
                        refine z_getI (M := M_X12_number) (ci := 15) (C := RX12) (T := TX12) (Nf := 135) (ty := tyX12) cl15 dX12_number_275 ly_277 17 (by decide) t_2408 rfl rfl ?_
                        refine z_iload (M := M_X12_number) dX12_number_278 rfl ?_
                        by_cases h_172 : (w32 (σ_136 kR_at 0)) < (w32 (σ_165 kR_at 0))
                        · refine z_icmp_le_f (M := M_X12_number) (tgt := 287) dX12_number_280 (by decide) rfl rfl h_172 ?_
                          refine z_iconst (M := M_X12_number) dX12_number_283 ?_
                          refine z_goto (M := M_X12_number) (tgt := 288) dX12_number_284 (by decide) ?_
                          exact z_st (by rw [zv_t (p := ((decide (0 < (w32 many_32))) = true) ∧ ((w32 (σ_136 kR_at 0)) < (w32 (σ_165 kR_at 0)))) ⟨h_171, h_172⟩]) J_166
                        · refine z_icmp_le_t (M := M_X12_number) (tgt := 287) dX12_number_280 (by decide) rfl rfl (Int.not_lt.mp h_172) ?_
                          refine z_iconst (M := M_X12_number) dX12_number_287 ?_
                          exact z_st (by rw [zv_f (p := ((decide (0 < (w32 many_32))) = true) ∧ ((w32 (σ_136 kR_at 0)) < (w32 (σ_165 kR_at 0)))) (fun q => h_172 q.2)]) J_166
                      · refine z_zeq_t (M := M_X12_number) (tgt := 287) dX12_number_271 (by decide) h_171 ?_
                        refine z_iconst (M := M_X12_number) dX12_number_287 ?_
                        exact z_st (by rw [zv_f (p := ((decide (0 < (w32 many_32))) = true) ∧ ((w32 (σ_136 kR_at 0)) < (w32 (σ_165 kR_at 0)))) (fun q => h_171 q.1)]) J_166
                    refine whl_go hw_139 (fun (power_137, σ_138) => YY l E M_X12_number 3 0 0 (pS (some (zv r)) σ') 214 [some (vr 277), some (vi (σ kR_at 0)), some (vi x_2), some (vi many_32), some (zv (decide (0 < (w32 many_32)))), some (vl power_137), none, some (zv x_125), some (vi (σ_136 kR_at 0))] [] σ_138 0 0) ?_
                    rintro ⟨power_137, σ_138⟩ o_143 H K_144 K_145
                    refine z_aload_n (M := M_X12_number) dX12_number_214 rfl ?_
                    obtain ⟨x_147, hc_146, H⟩ := bd_e H
                    refine z_callV (M := M_X12_number) (M' := M_X12_here) (as := []) (rest := []) rfl rfl dX12_number_215 m_X12_here t_2860 t_2862 s_164 (c_X12_here hl  hc_146) rfl rfl ly_277 rfl (Nat.le_of_ble_eq_true rfl) (Nat.le_of_ble_eq_true rfl) (Nat.le_of_ble_eq_true rfl) (Nat.le_of_ble_eq_true rfl) ?_
                    refine z_st (st' := [vi x_147]) rfl ?_
                    refine z_callS (M := M_X12_number) (M' := M_X12_isDigit) (as := [vi x_147]) (rest := []) rfl rfl dX12_number_218 m_X12_isDigit t_2878 t_2879 (c_X12_isDigit hl  rfl) rfl rfl (Nat.le_of_ble_eq_true rfl) (Nat.le_of_ble_eq_true rfl) (Nat.le_of_ble_eq_true rfl) (Nat.le_of_ble_eq_true rfl) ?_
                    refine z_st (st' := [zv (fR_isDigit x_147)]) rfl ?_
                    rcases if_e H with ⟨h_148, H⟩ | ⟨h_148, H⟩
                    · refine z_zeq_f (M := M_X12_number) (tgt := 269) dX12_number_221 (by decide) h_148 ?_
                      obtain ⟨v_159, he_160, hk_161⟩ := bd_e H
                      have J_162 : ∀ x_156, v_159 = x_156 → YY l E M_X12_number 3 0 0 (pS (some (zv r)) σ') 254 [some (vr 277), some (vi (σ kR_at 0)), some (vi x_2), some (vi many_32), some (zv (decide (0 < (w32 many_32)))), some (vl power_137), none, some (zv x_125), some (vi (σ_136 kR_at 0))] [vl x_156] σ_138 0 0 := by
                        intro x_156 e
                        have H := hk_161
                        rw [e] at H
                        refine z_lstore (M := M_X12_number) (lv' := [some (vr 277), some (vi (σ kR_at 0)), some (vi x_2), some (vi many_32), some (zv (decide (0 < (w32 many_32)))), some (vl x_156), none, some (zv x_125), some (vi (σ_136 kR_at 0))]) dX12_number_254 (Nat.le_of_ble_eq_true rfl) rfl rfl ?_
                        refine z_aload_n (M := M_X12_number) dX12_number_256 rfl ?_
                        refine z_dup (M := M_X12_number) dX12_number_257 rfl ?_
                        refine z_getI (M := M_X12_number) (ci := 15) (C := RX12) (T := TX12) (Nf := 135) (ty := tyX12) cl15 dX12_number_258 ly_277 17 (by decide) t_2408 rfl rfl ?_
                        refine z_iconst (M := M_X12_number) dX12_number_261 ?_
                        refine z_iadd (M := M_X12_number) dX12_number_262 ?_
                        obtain ⟨σ_157, σ_157_e, H⟩ := wf_e H
                        refine z_putI (M := M_X12_number) (ci := 15) (C := RX12) (T := TX12) (Nf := 135) (ty := tyX12) cl15 dX12_number_263 ly_277 17 (by decide) t_2408 rfl rfl rfl rfl σ_157_e ?_
                        refine z_goto (M := M_X12_number) (tgt := 214) dX12_number_266 (by decide) ?_
                        exact K_144 _ (Option.some.inj H).symm
                      have H := he_160
                      refine z_lload (M := M_X12_number) dX12_number_224 rfl ?_
                      refine z_ldc2 (M := M_X12_number) (n := 1000000) dX12_number_226 t_2930 (by decide +kernel) ?_
                      refine z_lcmp (M := M_X12_number) dX12_number_229 ?_
                      rcases if_e H with ⟨h_151, H⟩ | ⟨h_151, H⟩
                      · refine z_lif_ge_f (M := M_X12_number) (tgt := 252) dX12_number_230 (by decide) rfl (by decide +kernel) h_151 ?_
                        refine z_ldc2 (M := M_X12_number) (n := 10) dX12_number_233 t_2390 (by decide +kernel) ?_
                        refine z_lload (M := M_X12_number) dX12_number_236 rfl ?_
                        refine z_lmul (M := M_X12_number) dX12_number_238 ?_
                        refine z_aload_n (M := M_X12_number) dX12_number_239 rfl ?_
                        obtain ⟨x_153, hc_152, H⟩ := bd_e H
                        refine z_callV (M := M_X12_number) (M' := M_X12_here) (as := []) (rest := [vl (10 * power_137)]) rfl rfl dX12_number_240 m_X12_here t_2860 t_2862 s_164 (c_X12_here hl  hc_152) rfl rfl ly_277 rfl (Nat.le_of_ble_eq_true rfl) (Nat.le_of_ble_eq_true rfl) (Nat.le_of_ble_eq_true rfl) (Nat.le_of_ble_eq_true rfl) ?_
                        refine z_st (st' := [vi x_153, vl (10 * power_137)]) rfl ?_
                        refine z_i2l (M := M_X12_number) dX12_number_243 ?_
                        refine z_ladd (M := M_X12_number) dX12_number_244 ?_
                        refine z_ldc2 (M := M_X12_number) (n := 48) dX12_number_245 t_2931 (by decide +kernel) ?_
                        refine z_lsub (M := M_X12_number) dX12_number_248 ?_
                        refine z_goto (M := M_X12_number) (tgt := 254) dX12_number_249 (by decide) ?_
                        exact J_162 _ (Option.some.inj H).symm
                      · refine z_lif_ge_t (M := M_X12_number) (tgt := 252) dX12_number_230 (by decide) rfl (by decide +kernel) (Int.not_lt.mp h_151) ?_
                        refine z_lload (M := M_X12_number) dX12_number_252 rfl ?_
                        exact J_162 _ (Option.some.inj H).symm
                    · refine z_zeq_t (M := M_X12_number) (tgt := 269) dX12_number_221 (by decide) h_148 ?_
                      exact J_173 _ _ (K_145 _ (Option.some.inj H).symm).symm
                  have H := he_126
                  refine z_aload_n (M := M_X12_number) dX12_number_188 rfl ?_
                  obtain ⟨x_131, hc_130, H⟩ := bd_e H
                  refine z_callV (M := M_X12_number) (M' := M_X12_here) (as := []) (rest := []) rfl rfl dX12_number_189 m_X12_here t_2860 t_2862 s_164 (c_X12_here hl  hc_130) rfl rfl ly_277 rfl (Nat.le_of_ble_eq_true rfl) (Nat.le_of_ble_eq_true rfl) (Nat.le_of_ble_eq_true rfl) (Nat.le_of_ble_eq_true rfl) ?_
                  refine z_st (st' := [vi x_131]) rfl ?_
                  refine z_callS (M := M_X12_number) (M' := M_X12_isSign) (as := [vi x_131]) (rest := []) rfl rfl dX12_number_192 m_X12_isSign t_2881 t_2882 (c_X12_isSign hl  rfl) rfl rfl (Nat.le_of_ble_eq_true rfl) (Nat.le_of_ble_eq_true rfl) (Nat.le_of_ble_eq_true rfl) (Nat.le_of_ble_eq_true rfl) ?_
                  refine z_st (st' := [zv (fR_isSign x_131)]) rfl ?_
                  rcases if_e H with ⟨h_132, H⟩ | ⟨h_132, H⟩
                  · refine z_zeq_f (M := M_X12_number) (tgt := 208) dX12_number_195 (by decide) h_132 ?_
                    refine z_aload_n (M := M_X12_number) dX12_number_198 rfl ?_
                    refine z_dup (M := M_X12_number) dX12_number_199 rfl ?_
                    refine z_getI (M := M_X12_number) (ci := 15) (C := RX12) (T := TX12) (Nf := 135) (ty := tyX12) cl15 dX12_number_200 ly_277 17 (by decide) t_2408 rfl rfl ?_
                    refine z_iconst (M := M_X12_number) dX12_number_203 ?_
                    refine z_iadd (M := M_X12_number) dX12_number_204 ?_
                    obtain ⟨σ_133, σ_133_e, H⟩ := wf_e H
                    refine z_putI (M := M_X12_number) (ci := 15) (C := RX12) (T := TX12) (Nf := 135) (ty := tyX12) cl15 dX12_number_205 ly_277 17 (by decide) t_2408 rfl rfl rfl rfl σ_133_e ?_
                    exact J_174 _ (Option.some.inj H).symm
                  · refine z_zeq_t (M := M_X12_number) (tgt := 208) dX12_number_195 (by decide) h_132 ?_
                    exact J_174 _ (Option.some.inj H).symm
                have H := he_176
                refine z_aload_n (M := M_X12_number) dX12_number_172 rfl ?_
                obtain ⟨x_121, hc_120, H⟩ := bd_e H
                refine z_callV (M := M_X12_number) (M' := M_X12_here) (as := []) (rest := []) rfl rfl dX12_number_173 m_X12_here t_2860 t_2862 s_164 (c_X12_here hl  hc_120) rfl rfl ly_277 rfl (Nat.le_of_ble_eq_true rfl) (Nat.le_of_ble_eq_true rfl) (Nat.le_of_ble_eq_true rfl) (Nat.le_of_ble_eq_true rfl) ?_
                refine z_st (st' := [vi x_121]) rfl ?_
                refine z_bipush (M := M_X12_number) dX12_number_176 (by decide +kernel) ?_
                rcases if_e H with ⟨h_122, H⟩ | ⟨h_122, H⟩
                · refine z_icmp_ne_f (M := M_X12_number) (tgt := 185) dX12_number_178 (by decide) rfl (by decide +kernel) h_122 ?_
                  refine z_zconst (M := M_X12_number) (b := true) dX12_number_181 rfl ?_
                  refine z_goto (M := M_X12_number) (tgt := 186) dX12_number_182 (by decide) ?_
                  exact J_178 _ (Option.some.inj H).symm
                · refine z_icmp_ne_t (M := M_X12_number) (tgt := 185) dX12_number_178 (by decide) rfl (by decide +kernel) h_122 ?_
                  refine z_zconst (M := M_X12_number) (b := false) dX12_number_185 rfl ?_
                  exact J_178 _ (Option.some.inj H).symm
              · exact absurd rfl q
            have J_184 : v_180 = false → YY l E M_X12_number 3 0 0 (pS (some (zv r)) σ') 305 [some (vr 277), some (vi (σ kR_at 0)), some (vi x_2), some (vi many_32), some (zv (decide (0 < (w32 many_32)))), some (vl 0), none, none, none] [] σ_34 0 0 := by
              intro e
              have H := hk_182
              rw [e] at H
              rcases if_e H with ⟨q, H⟩ | ⟨_, H⟩
              · exact nomatch q
              · exact J_216 _ _ _ (Option.some.inj H).symm
            have H := he_181
            refine z_aload_n (M := M_X12_number) dX12_number_144 rfl ?_
            obtain ⟨x_110, hc_109, H⟩ := bd_e H
            refine z_callV (M := M_X12_number) (M' := M_X12_here) (as := []) (rest := []) rfl rfl dX12_number_145 m_X12_here t_2860 t_2862 s_164 (c_X12_here hl  hc_109) rfl rfl ly_277 rfl (Nat.le_of_ble_eq_true rfl) (Nat.le_of_ble_eq_true rfl) (Nat.le_of_ble_eq_true rfl) (Nat.le_of_ble_eq_true rfl) ?_
            refine z_st (st' := [vi x_110]) rfl ?_
            refine z_bipush (M := M_X12_number) dX12_number_148 (by decide +kernel) ?_
            rcases if_e H with ⟨h_111, H⟩ | ⟨h_111, H⟩
            · refine z_icmp_eq_t (M := M_X12_number) (tgt := 162) dX12_number_150 (by decide) rfl (by decide +kernel) h_111 ?_
              exact J_183 (Option.some.inj H).symm
            · refine z_icmp_eq_f (M := M_X12_number) (tgt := 162) dX12_number_150 (by decide) rfl (by decide +kernel) h_111 ?_
              refine z_aload_n (M := M_X12_number) dX12_number_153 rfl ?_
              obtain ⟨x_114, hc_113, H⟩ := bd_e H
              refine z_callV (M := M_X12_number) (M' := M_X12_here) (as := []) (rest := []) rfl rfl dX12_number_154 m_X12_here t_2860 t_2862 s_164 (c_X12_here hl  hc_113) rfl rfl ly_277 rfl (Nat.le_of_ble_eq_true rfl) (Nat.le_of_ble_eq_true rfl) (Nat.le_of_ble_eq_true rfl) (Nat.le_of_ble_eq_true rfl) ?_
              refine z_st (st' := [vi x_114]) rfl ?_
              refine z_bipush (M := M_X12_number) dX12_number_157 (by decide +kernel) ?_
              rcases if_e H with ⟨h_115, H⟩ | ⟨h_115, H⟩
              · refine z_icmp_ne_f (M := M_X12_number) (tgt := 305) dX12_number_159 (by decide) rfl (by decide +kernel) h_115 ?_
                exact J_183 (Option.some.inj H).symm
              · refine z_icmp_ne_t (M := M_X12_number) (tgt := 305) dX12_number_159 (by decide) rfl (by decide +kernel) h_115 ?_
                exact J_184 (Option.some.inj H).symm
          refine z_iload_n (M := M_X12_number) dX12_number_130 rfl ?_
          by_cases h_217 : 0 < (w32 many_32)
          · refine z_if_le_f (M := M_X12_number) (tgt := 138) dX12_number_131 (by decide) rfl h_217 ?_
            refine z_iconst (M := M_X12_number) dX12_number_134 ?_
            refine z_goto (M := M_X12_number) (tgt := 139) dX12_number_135 (by decide) ?_
            exact z_st (by rw [zv_t (p := 0 < (w32 many_32)) h_217]) J_35
          · refine z_if_le_t (M := M_X12_number) (tgt := 138) dX12_number_131 (by decide) rfl (Int.not_lt.mp h_217) ?_
            refine z_iconst (M := M_X12_number) dX12_number_138 ?_
            exact z_st (by rw [zv_f (p := 0 < (w32 many_32)) h_217]) J_35
        have H := he_19
        refine z_aload_n (M := M_X12_number) dX12_number_83 rfl ?_
        obtain ⟨x_24, hc_23, H⟩ := bd_e H
        refine z_callV (M := M_X12_number) (M' := M_X12_here) (as := []) (rest := []) rfl rfl dX12_number_84 m_X12_here t_2860 t_2862 s_164 (c_X12_here hl  hc_23) rfl rfl ly_277 rfl (Nat.le_of_ble_eq_true rfl) (Nat.le_of_ble_eq_true rfl) (Nat.le_of_ble_eq_true rfl) (Nat.le_of_ble_eq_true rfl) ?_
        refine z_st (st' := [vi x_24]) rfl ?_
        refine z_bipush (M := M_X12_number) dX12_number_87 (by decide +kernel) ?_
        rcases if_e H with ⟨h_25, H⟩ | ⟨h_25, H⟩
        · refine z_icmp_ne_f (M := M_X12_number) (tgt := 122) dX12_number_89 (by decide) rfl (by decide +kernel) h_25 ?_
          refine z_aload_n (M := M_X12_number) dX12_number_92 rfl ?_
          refine z_dup (M := M_X12_number) dX12_number_93 rfl ?_
          refine z_getI (M := M_X12_number) (ci := 15) (C := RX12) (T := TX12) (Nf := 135) (ty := tyX12) cl15 dX12_number_94 ly_277 17 (by decide) t_2408 rfl rfl ?_
          refine z_iconst (M := M_X12_number) dX12_number_97 ?_
          refine z_iadd (M := M_X12_number) dX12_number_98 ?_
          obtain ⟨σ_26, σ_26_e, H⟩ := wf_e H
          refine z_putI (M := M_X12_number) (ci := 15) (C := RX12) (T := TX12) (Nf := 135) (ty := tyX12) cl15 dX12_number_99 ly_277 17 (by decide) t_2408 rfl rfl rfl rfl σ_26_e ?_
          refine z_aload_n (M := M_X12_number) dX12_number_102 rfl ?_
          refine z_getI (M := M_X12_number) (ci := 15) (C := RX12) (T := TX12) (Nf := 135) (ty := tyX12) cl15 dX12_number_103 ly_277 17 (by decide) t_2408 rfl rfl ?_
          refine z_istore (M := M_X12_number) (lv' := [some (vr 277), some (vi (σ kR_at 0)), some (vi x_2), some (vi (σ_18 kR_numberWhole 0)), some (vi (σ_26 kR_at 0)), none, none, none, none]) dX12_number_106 (Nat.le_of_ble_eq_true rfl) rfl rfl ?_
          refine z_aload_n (M := M_X12_number) dX12_number_108 rfl ?_
          obtain ⟨σ_28, hc_27, H⟩ := bd_e H
          refine z_callV (M := M_X12_number) (M' := M_X12_digitsOn) (as := []) (rest := []) rfl rfl dX12_number_109 m_X12_digitsOn t_2926 t_2928 s_176 (c_X12_digitsOn hl  hc_27) rfl rfl ly_277 rfl (Nat.le_of_ble_eq_true rfl) (Nat.le_of_ble_eq_true rfl) (Nat.le_of_ble_eq_true rfl) (Nat.le_of_ble_eq_true rfl) ?_
          refine z_st (st' := []) rfl ?_
          refine z_iload_n (M := M_X12_number) dX12_number_112 rfl ?_
          refine z_aload_n (M := M_X12_number) dX12_number_113 rfl ?_
          refine z_getI (M := M_X12_number) (ci := 15) (C := RX12) (T := TX12) (Nf := 135) (ty := tyX12) cl15 dX12_number_114 ly_277 17 (by decide) t_2408 rfl rfl ?_
          refine z_iload (M := M_X12_number) dX12_number_117 rfl ?_
          refine z_isub (M := M_X12_number) dX12_number_119 ?_
          refine z_iadd (M := M_X12_number) dX12_number_120 ?_
          obtain ⟨x_29, x_29_e, H⟩ := lt_e H
          refine z_st (congrArg (fun z => vi z :: []) x_29_e) ?_
          refine z_istore_n (M := M_X12_number) (lv' := [some (vr 277), some (vi (σ kR_at 0)), some (vi x_2), some (vi x_29), some (vi (σ_26 kR_at 0)), none, none, none, none]) dX12_number_121 (Nat.le_of_ble_eq_true rfl) rfl rfl ?_
          refine z_le (lv' := [some (vr 277), some (vi (σ kR_at 0)), some (vi x_2), some (vi x_29), none, none, none, none, none]) ⟨Or.inr rfl, Or.inr rfl, Or.inr rfl, Or.inr rfl, Or.inl rfl, Or.inl rfl, Or.inl rfl, Or.inl rfl, Or.inl rfl, trivial⟩ ?_
          exact J_218 _ _ (Option.some.inj H).symm
        · refine z_icmp_ne_t (M := M_X12_number) (tgt := 122) dX12_number_89 (by decide) rfl (by decide +kernel) h_25 ?_
          exact J_218 _ _ (Option.some.inj H).symm
      have H := he_6
      refine z_iload_n (M := M_X12_number) dX12_number_36 rfl ?_
      refine z_callS (M := M_X12_number) (M' := M_X12_isSign) (as := [vi x_2]) (rest := []) rfl rfl dX12_number_37 m_X12_isSign t_2881 t_2882 (c_X12_isSign hl  rfl) rfl rfl (Nat.le_of_ble_eq_true rfl) (Nat.le_of_ble_eq_true rfl) (Nat.le_of_ble_eq_true rfl) (Nat.le_of_ble_eq_true rfl) ?_
      refine z_st (st' := [zv (fR_isSign x_2)]) rfl ?_
      rcases if_e H with ⟨h_10, H⟩ | ⟨h_10, H⟩
      · refine z_zeq_f (M := M_X12_number) (tgt := 53) dX12_number_40 (by decide) h_10 ?_
        refine z_aload_n (M := M_X12_number) dX12_number_43 rfl ?_
        refine z_dup (M := M_X12_number) dX12_number_44 rfl ?_
        refine z_getI (M := M_X12_number) (ci := 15) (C := RX12) (T := TX12) (Nf := 135) (ty := tyX12) cl15 dX12_number_45 ly_277 17 (by decide) t_2408 rfl rfl ?_
        refine z_iconst (M := M_X12_number) dX12_number_48 ?_
        refine z_iadd (M := M_X12_number) dX12_number_49 ?_
        obtain ⟨σ_11, σ_11_e, H⟩ := wf_e H
        refine z_putI (M := M_X12_number) (ci := 15) (C := RX12) (T := TX12) (Nf := 135) (ty := tyX12) cl15 dX12_number_50 ly_277 17 (by decide) t_2408 rfl rfl rfl rfl σ_11_e ?_
        exact J_219 _ (Option.some.inj H).symm
      · refine z_zeq_t (M := M_X12_number) (tgt := 53) dX12_number_40 (by decide) h_10 ?_
        exact J_219 _ (Option.some.inj H).symm
    refine z_iload_n (M := M_X12_number) dX12_number_10 rfl ?_
    refine z_callS (M := M_X12_number) (M' := M_X12_isDigit) (as := [vi x_2]) (rest := []) rfl rfl dX12_number_11 m_X12_isDigit t_2878 t_2879 (c_X12_isDigit hl  rfl) rfl rfl (Nat.le_of_ble_eq_true rfl) (Nat.le_of_ble_eq_true rfl) (Nat.le_of_ble_eq_true rfl) (Nat.le_of_ble_eq_true rfl) ?_
    refine z_st (st' := [zv (fR_isDigit x_2)]) rfl ?_
    by_cases h_226 : (fR_isDigit x_2) = true
    · refine z_zne_t (M := M_X12_number) (tgt := 36) dX12_number_14 (by decide) h_226 ?_
      exact J_222
    · refine z_zne_f (M := M_X12_number) (tgt := 36) dX12_number_14 (by decide) h_226 ?_
      refine z_iload_n (M := M_X12_number) dX12_number_17 rfl ?_
      refine z_callS (M := M_X12_number) (M' := M_X12_isSign) (as := [vi x_2]) (rest := []) rfl rfl dX12_number_18 m_X12_isSign t_2881 t_2882 (c_X12_isSign hl  rfl) rfl rfl (Nat.le_of_ble_eq_true rfl) (Nat.le_of_ble_eq_true rfl) (Nat.le_of_ble_eq_true rfl) (Nat.le_of_ble_eq_true rfl) ?_
      refine z_st (st' := [zv (fR_isSign x_2)]) rfl ?_
      by_cases h_227 : (fR_isSign x_2) = true
      · refine z_zne_t (M := M_X12_number) (tgt := 36) dX12_number_21 (by decide) h_227 ?_
        exact J_222
      · refine z_zne_f (M := M_X12_number) (tgt := 36) dX12_number_21 (by decide) h_227 ?_
        refine z_iload_n (M := M_X12_number) dX12_number_24 rfl ?_
        refine z_bipush (M := M_X12_number) dX12_number_25 (by decide +kernel) ?_
        by_cases h_228 : ¬ (w32 x_2) = 46
        · refine z_icmp_eq_f (M := M_X12_number) (tgt := 36) dX12_number_27 (by decide) rfl (by decide +kernel) h_228 ?_
          exact absurd ⟨⟨h_226, h_227⟩, h_228⟩ h_220
        · refine z_icmp_eq_t (M := M_X12_number) (tgt := 36) dX12_number_27 (by decide) rfl (by decide +kernel) (Decidable.not_not.mp h_228) ?_
          exact J_222
theorem c_X12_coordinate (hl : l.stackTraces = false) {σ : SG} {r : Bool} {σ' : SG}  (H : fR_coordinate σ = some (r, σ')) : en_S l E M_X12_coordinate 4 0 0 [vr 277] σ (pS (some (zv r)) σ') := by
  unfold fR_coordinate at H
  refine z_mk (lv := [some (vr 277), none, none]) m_X12_coordinate rfl hl (Nat.le_of_ble_eq_true rfl) rfl ?_
  refine z_aload_n (M := M_X12_coordinate) dX12_coordinate_0 rfl ?_
  obtain ⟨σ_2, hc_1, H⟩ := bd_e H
  refine z_callV (M := M_X12_coordinate) (M' := M_X12_skip) (as := []) (rest := []) rfl rfl dX12_coordinate_1 m_X12_skip t_2856 t_2858 s_163 (c_X12_skip hl  hc_1) rfl rfl ly_277 rfl (Nat.le_of_ble_eq_true rfl) (Nat.le_of_ble_eq_true rfl) (Nat.le_of_ble_eq_true rfl) (Nat.le_of_ble_eq_true rfl) ?_
  refine z_st (st' := []) rfl ?_
  refine z_aload_n (M := M_X12_coordinate) dX12_coordinate_4 rfl ?_
  refine z_getR (M := M_X12_coordinate) (ci := 15) (C := RX12) (T := TX12) (Nf := 135) (ty := tyX12) cl15 dX12_coordinate_5 ly_277 11 (by decide) t_2402 rfl ?_
  refine z_bipush (M := M_X12_coordinate) dX12_coordinate_8 (by decide +kernel) ?_
  obtain ⟨x_3, x_3_e, hi_4, H⟩ := rd_e H
  refine z_iald (M := M_X12_coordinate) dX12_coordinate_10 ly_282 rfl (by decide +kernel) rfl hi_4 x_3_e ?_
  refine z_sipush (M := M_X12_coordinate) dX12_coordinate_11 (by decide +kernel) ?_
  rcases if_e H with ⟨h_5, H⟩ | ⟨h_5, H⟩
  · refine z_icmp_ne_f (M := M_X12_coordinate) (tgt := 28) dX12_coordinate_14 (by decide) rfl (by decide +kernel) h_5 ?_
    refine z_aload_n (M := M_X12_coordinate) dX12_coordinate_17 rfl ?_
    refine z_bipush (M := M_X12_coordinate) dX12_coordinate_18 (by decide +kernel) ?_
    refine z_aload_n (M := M_X12_coordinate) dX12_coordinate_20 rfl ?_
    refine z_getI (M := M_X12_coordinate) (ci := 15) (C := RX12) (T := TX12) (Nf := 135) (ty := tyX12) cl15 dX12_coordinate_21 ly_277 17 (by decide) t_2408 rfl rfl ?_
    obtain ⟨⟨x_8, σ_7⟩, hc_6, H⟩ := bd_e H
    refine z_callV (M := M_X12_coordinate) (M' := M_X12_wrong) (as := [vi 7, vi (σ_2 kR_at 0)]) (rest := []) rfl rfl dX12_coordinate_24 m_X12_wrong t_2874 t_2876 s_166 (c_X12_wrong hl  hc_6) rfl rfl ly_277 rfl (Nat.le_of_ble_eq_true rfl) (Nat.le_of_ble_eq_true rfl) (Nat.le_of_ble_eq_true rfl) (Nat.le_of_ble_eq_true rfl) ?_
    refine z_st (st' := [zv x_8]) rfl ?_
    cases H
    exact z_zret (M := M_X12_coordinate) dX12_coordinate_27 rfl (Nat.le_of_ble_eq_true rfl) (Nat.le_of_ble_eq_true rfl) ⟨rfl, rfl⟩
  · refine z_icmp_ne_t (M := M_X12_coordinate) (tgt := 28) dX12_coordinate_14 (by decide) rfl (by decide +kernel) h_5 ?_
    refine z_aload_n (M := M_X12_coordinate) dX12_coordinate_28 rfl ?_
    obtain ⟨⟨x_11, σ_10⟩, hc_9, H⟩ := bd_e H
    refine z_callV (M := M_X12_coordinate) (M' := M_X12_number) (as := []) (rest := []) rfl rfl dX12_coordinate_29 m_X12_number t_2922 t_2924 s_175 (c_X12_number hl  hc_9) rfl rfl ly_277 rfl (Nat.le_of_ble_eq_true rfl) (Nat.le_of_ble_eq_true rfl) (Nat.le_of_ble_eq_true rfl) (Nat.le_of_ble_eq_true rfl) ?_
    refine z_st (st' := [zv x_11]) rfl ?_
    rcases if_e H with ⟨h_12, H⟩ | ⟨h_12, H⟩
    · refine z_zne_t (M := M_X12_coordinate) (tgt := 37) dX12_coordinate_32 (by decide) h_12 ?_
      refine z_aload_n (M := M_X12_coordinate) dX12_coordinate_37 rfl ?_
      refine z_getL (M := M_X12_coordinate) (ci := 15) (C := RX12) (T := TX12) (Nf := 135) (ty := tyX12) cl15 dX12_coordinate_38 ly_277 25 (by decide) t_2416 rfl rfl ?_
      refine z_lstore_n (M := M_X12_coordinate) (lv' := [some (vr 277), some (vl (σ_10 kR_value 0)), none]) dX12_coordinate_41 (Nat.le_of_ble_eq_true rfl) rfl rfl ?_
      refine z_aload_n (M := M_X12_coordinate) dX12_coordinate_42 rfl ?_
      obtain ⟨x_14, hc_13, H⟩ := bd_e H
      refine z_callV (M := M_X12_coordinate) (M' := M_X12_here) (as := []) (rest := []) rfl rfl dX12_coordinate_43 m_X12_here t_2860 t_2862 s_164 (c_X12_here hl  hc_13) rfl rfl ly_277 rfl (Nat.le_of_ble_eq_true rfl) (Nat.le_of_ble_eq_true rfl) (Nat.le_of_ble_eq_true rfl) (Nat.le_of_ble_eq_true rfl) ?_
      refine z_st (st' := [vi x_14]) rfl ?_
      refine z_callS (M := M_X12_coordinate) (M' := M_X12_isBlank) (as := [vi x_14]) (rest := []) rfl rfl dX12_coordinate_46 m_X12_isBlank t_2864 t_2865 (c_X12_isBlank hl  rfl) rfl rfl (Nat.le_of_ble_eq_true rfl) (Nat.le_of_ble_eq_true rfl) (Nat.le_of_ble_eq_true rfl) (Nat.le_of_ble_eq_true rfl) ?_
      refine z_st (st' := [zv (fR_isBlank x_14)]) rfl ?_
      rcases if_e H with ⟨h_15, H⟩ | ⟨h_15, H⟩
      · refine z_zne_t (M := M_X12_coordinate) (tgt := 58) dX12_coordinate_49 (by decide) h_15 ?_
        refine z_aload_n (M := M_X12_coordinate) dX12_coordinate_58 rfl ?_
        obtain ⟨σ_17, hc_16, H⟩ := bd_e H
        refine z_callV (M := M_X12_coordinate) (M' := M_X12_skip) (as := []) (rest := []) rfl rfl dX12_coordinate_59 m_X12_skip t_2856 t_2858 s_163 (c_X12_skip hl  hc_16) rfl rfl ly_277 rfl (Nat.le_of_ble_eq_true rfl) (Nat.le_of_ble_eq_true rfl) (Nat.le_of_ble_eq_true rfl) (Nat.le_of_ble_eq_true rfl) ?_
        refine z_st (st' := []) rfl ?_
        refine z_aload_n (M := M_X12_coordinate) dX12_coordinate_62 rfl ?_
        obtain ⟨⟨x_20, σ_19⟩, hc_18, H⟩ := bd_e H
        refine z_callV (M := M_X12_coordinate) (M' := M_X12_number) (as := []) (rest := []) rfl rfl dX12_coordinate_63 m_X12_number t_2922 t_2924 s_175 (c_X12_number hl  hc_18) rfl rfl ly_277 rfl (Nat.le_of_ble_eq_true rfl) (Nat.le_of_ble_eq_true rfl) (Nat.le_of_ble_eq_true rfl) (Nat.le_of_ble_eq_true rfl) ?_
        refine z_st (st' := [zv x_20]) rfl ?_
        rcases if_e H with ⟨h_21, H⟩ | ⟨h_21, H⟩
        · refine z_zne_t (M := M_X12_coordinate) (tgt := 71) dX12_coordinate_66 (by decide) h_21 ?_
          refine z_aload_n (M := M_X12_coordinate) dX12_coordinate_71 rfl ?_
          refine z_lload_n (M := M_X12_coordinate) dX12_coordinate_72 rfl ?_
          refine z_aload_n (M := M_X12_coordinate) dX12_coordinate_73 rfl ?_
          refine z_getL (M := M_X12_coordinate) (ci := 15) (C := RX12) (T := TX12) (Nf := 135) (ty := tyX12) cl15 dX12_coordinate_74 ly_277 25 (by decide) t_2416 rfl rfl ?_
          obtain ⟨σ_23, hc_22, H⟩ := bd_e H
          refine z_callV (M := M_X12_coordinate) (M' := M_X12_dot) (as := [vl (σ_10 kR_value 0), vl (σ_19 kR_value 0)]) (rest := []) rfl rfl dX12_coordinate_77 m_X12_dot t_2938 t_2940 s_178 (c_X12_dot hl  hc_22) rfl rfl ly_277 rfl (Nat.le_of_ble_eq_true rfl) (Nat.le_of_ble_eq_true rfl) (Nat.le_of_ble_eq_true rfl) (Nat.le_of_ble_eq_true rfl) ?_
          refine z_st (st' := []) rfl ?_
          refine z_zconst (M := M_X12_coordinate) (b := true) dX12_coordinate_80 rfl ?_
          cases H
          exact z_zret (M := M_X12_coordinate) dX12_coordinate_81 rfl (Nat.le_of_ble_eq_true rfl) (Nat.le_of_ble_eq_true rfl) ⟨rfl, rfl⟩
        · refine z_zne_f (M := M_X12_coordinate) (tgt := 71) dX12_coordinate_66 (by decide) h_21 ?_
          refine z_zconst (M := M_X12_coordinate) (b := false) dX12_coordinate_69 rfl ?_
          cases H
          exact z_zret (M := M_X12_coordinate) dX12_coordinate_70 rfl (Nat.le_of_ble_eq_true rfl) (Nat.le_of_ble_eq_true rfl) ⟨rfl, rfl⟩
      · refine z_zne_f (M := M_X12_coordinate) (tgt := 58) dX12_coordinate_49 (by decide) h_15 ?_
        refine z_aload_n (M := M_X12_coordinate) dX12_coordinate_52 rfl ?_
        refine z_zconst (M := M_X12_coordinate) (b := false) dX12_coordinate_53 rfl ?_
        obtain ⟨⟨x_26, σ_25⟩, hc_24, H⟩ := bd_e H
        refine z_callV (M := M_X12_coordinate) (M' := M_X12_strange) (as := [zv false]) (rest := []) rfl rfl dX12_coordinate_54 m_X12_strange t_2870 t_2872 s_165 (c_X12_strange hl  hc_24) rfl rfl ly_277 rfl (Nat.le_of_ble_eq_true rfl) (Nat.le_of_ble_eq_true rfl) (Nat.le_of_ble_eq_true rfl) (Nat.le_of_ble_eq_true rfl) ?_
        refine z_st (st' := [zv x_26]) rfl ?_
        cases H
        exact z_zret (M := M_X12_coordinate) dX12_coordinate_57 rfl (Nat.le_of_ble_eq_true rfl) (Nat.le_of_ble_eq_true rfl) ⟨rfl, rfl⟩
    · refine z_zne_f (M := M_X12_coordinate) (tgt := 37) dX12_coordinate_32 (by decide) h_12 ?_
      refine z_zconst (M := M_X12_coordinate) (b := false) dX12_coordinate_35 rfl ?_
      cases H
      exact z_zret (M := M_X12_coordinate) dX12_coordinate_36 rfl (Nat.le_of_ble_eq_true rfl) (Nat.le_of_ble_eq_true rfl) ⟨rfl, rfl⟩
theorem c_X12_row (hl : l.stackTraces = false) {σ : SG} {number_0 : Int} {r : Bool} {σ' : SG}  (H : fR_row σ number_0 = some (r, σ')) : en_S l E M_X12_row 5 0 0 [vr 277, vi number_0] σ (pS (some (zv r)) σ') := by
  unfold fR_row at H
  refine z_mk (lv := [some (vr 277), some (vi number_0), none]) m_X12_row rfl hl (Nat.le_of_ble_eq_true rfl) rfl ?_
  refine z_iconst (M := M_X12_row) dX12_row_0 ?_
  refine z_istore_n (M := M_X12_row) (lv' := [some (vr 277), some (vi number_0), some (vi 1)]) dX12_row_1 (Nat.le_of_ble_eq_true rfl) rfl rfl ?_
  obtain ⟨rl_6, hw_3, hk_4, hk_5⟩ := bx_e H
  have J_26 : ∀ on_22 σ_23, rl_6 = (.inl (on_22, σ_23)) → YY l E M_X12_row 5 0 0 (pS (some (zv r)) σ') 29 [some (vr 277), some (vi number_0), some (vi on_22)] [] σ_23 0 0 := by
    intro on_22 σ_23 e
    have H := hk_4 _ e
    have J_24 : YY l E M_X12_row 5 0 0 (pS (some (zv r)) σ') 38 [some (vr 277), some (vi number_0), some (vi on_22)] [zv (decide ((w32 on_22) = 0))] σ_23 0 0 := by
      cases H
      exact z_zret (M := M_X12_row) dX12_row_38 rfl (Nat.le_of_ble_eq_true rfl) (Nat.le_of_ble_eq_true rfl) ⟨rfl, rfl⟩
    refine z_iload_n (M := M_X12_row) dX12_row_29 rfl ?_
    by_cases h_25 : (w32 on_22) = 0
    · refine z_if_ne_f (M := M_X12_row) (tgt := 37) dX12_row_30 (by decide) rfl h_25 ?_
      refine z_iconst (M := M_X12_row) dX12_row_33 ?_
      refine z_goto (M := M_X12_row) (tgt := 38) dX12_row_34 (by decide) ?_
      exact z_st (by rw [zv_t (p := (w32 on_22) = 0) h_25]) J_24
    · refine z_if_ne_t (M := M_X12_row) (tgt := 37) dX12_row_30 (by decide) rfl h_25 ?_
      refine z_iconst (M := M_X12_row) dX12_row_37 ?_
      exact z_st (by rw [zv_f (p := (w32 on_22) = 0) h_25]) J_24
  refine whl_go hw_3 (fun (on_1, σ_2) => YY l E M_X12_row 5 0 0 (pS (some (zv r)) σ') 2 [some (vr 277), some (vi number_0), some (vi on_1)] [] σ_2 0 0) ?_
  rintro ⟨on_1, σ_2⟩ o_7 H K_8 K_9
  refine z_iload_n (M := M_X12_row) dX12_row_2 rfl ?_
  refine z_iconst (M := M_X12_row) dX12_row_3 ?_
  rcases if_e H with ⟨h_10, H⟩ | ⟨h_10, H⟩
  · refine z_icmp_ne_f (M := M_X12_row) (tgt := 29) dX12_row_4 (by decide) rfl (by decide +kernel) h_10 ?_
    refine z_aload_n (M := M_X12_row) dX12_row_7 rfl ?_
    obtain ⟨⟨x_13, σ_12⟩, hc_11, H⟩ := bd_e H
    refine z_callV (M := M_X12_row) (M' := M_X12_coordinate) (as := []) (rest := []) rfl rfl dX12_row_8 m_X12_coordinate t_2918 t_2920 s_174 (c_X12_coordinate hl  hc_11) rfl rfl ly_277 rfl (Nat.le_of_ble_eq_true rfl) (Nat.le_of_ble_eq_true rfl) (Nat.le_of_ble_eq_true rfl) (Nat.le_of_ble_eq_true rfl) ?_
    refine z_st (st' := [zv x_13]) rfl ?_
    rcases if_e H with ⟨h_14, H⟩ | ⟨h_14, H⟩
    · refine z_zne_t (M := M_X12_row) (tgt := 16) dX12_row_11 (by decide) h_14 ?_
      refine z_aload_n (M := M_X12_row) dX12_row_16 rfl ?_
      refine z_iload_n (M := M_X12_row) dX12_row_17 rfl ?_
      obtain ⟨σ_16, hc_15, H⟩ := bd_e H
      refine z_callV (M := M_X12_row) (M' := M_X12_more) (as := [vi number_0]) (rest := []) rfl rfl dX12_row_18 m_X12_more t_2906 t_2908 s_171 (c_X12_more hl  hc_15) rfl rfl ly_277 rfl (Nat.le_of_ble_eq_true rfl) (Nat.le_of_ble_eq_true rfl) (Nat.le_of_ble_eq_true rfl) (Nat.le_of_ble_eq_true rfl) ?_
      refine z_st (st' := []) rfl ?_
      refine z_aload_n (M := M_X12_row) dX12_row_21 rfl ?_
      obtain ⟨⟨x_19, σ_18⟩, hc_17, H⟩ := bd_e H
      refine z_callV (M := M_X12_row) (M' := M_X12_goesOn) (as := []) (rest := []) rfl rfl dX12_row_22 m_X12_goesOn t_2950 t_2952 s_181 (c_X12_goesOn hl  hc_17) rfl rfl ly_277 rfl (Nat.le_of_ble_eq_true rfl) (Nat.le_of_ble_eq_true rfl) (Nat.le_of_ble_eq_true rfl) (Nat.le_of_ble_eq_true rfl) ?_
      refine z_st (st' := [vi x_19]) rfl ?_
      refine z_istore_n (M := M_X12_row) (lv' := [some (vr 277), some (vi number_0), some (vi x_19)]) dX12_row_25 (Nat.le_of_ble_eq_true rfl) rfl rfl ?_
      refine z_goto (M := M_X12_row) (tgt := 2) dX12_row_26 (by decide) ?_
      exact K_8 _ (Option.some.inj H).symm
    · refine z_zne_f (M := M_X12_row) (tgt := 16) dX12_row_11 (by decide) h_14 ?_
      refine z_zconst (M := M_X12_row) (b := false) dX12_row_14 rfl ?_
      have H := congrArg some (hk_5 _ ((K_9 _ (Option.some.inj H).symm).symm))
      cases H
      exact z_zret (M := M_X12_row) dX12_row_15 rfl (Nat.le_of_ble_eq_true rfl) (Nat.le_of_ble_eq_true rfl) ⟨rfl, rfl⟩
  · refine z_icmp_ne_t (M := M_X12_row) (tgt := 29) dX12_row_4 (by decide) rfl (by decide +kernel) h_10 ?_
    exact J_26 _ _ (K_9 _ (Option.some.inj H).symm).symm
theorem c_X12_rings (hl : l.stackTraces = false) {σ : SG} {number_0 : Int} {r : Bool} {σ' : SG}  (H : fR_rings σ number_0 = some (r, σ')) : en_S l E M_X12_rings 6 0 0 [vr 277, vi number_0] σ (pS (some (zv r)) σ') := by
  unfold fR_rings at H
  refine z_mk (lv := [some (vr 277), some (vi number_0), none, none]) m_X12_rings rfl hl (Nat.le_of_ble_eq_true rfl) rfl ?_
  refine z_iconst (M := M_X12_rings) dX12_rings_0 ?_
  refine z_istore_n (M := M_X12_rings) (lv' := [some (vr 277), some (vi number_0), some (vi 1), none]) dX12_rings_1 (Nat.le_of_ble_eq_true rfl) rfl rfl ?_
  obtain ⟨rl_6, hw_3, hk_4, hk_5⟩ := bx_e H
  have J_45 : ∀ on_41 σ_42, rl_6 = (.inl (on_41, σ_42)) → YY l E M_X12_rings 6 0 0 (pS (some (zv r)) σ') 96 [some (vr 277), some (vi number_0), some (vi on_41), none] [] σ_42 0 0 := by
    intro on_41 σ_42 e
    have H := hk_4 _ e
    have J_43 : YY l E M_X12_rings 6 0 0 (pS (some (zv r)) σ') 105 [some (vr 277), some (vi number_0), some (vi on_41), none] [zv (decide ((w32 on_41) = 0))] σ_42 0 0 := by
      cases H
      exact z_zret (M := M_X12_rings) dX12_rings_105 rfl (Nat.le_of_ble_eq_true rfl) (Nat.le_of_ble_eq_true rfl) ⟨rfl, rfl⟩
    refine z_iload_n (M := M_X12_rings) dX12_rings_96 rfl ?_
    by_cases h_44 : (w32 on_41) = 0
    · refine z_if_ne_f (M := M_X12_rings) (tgt := 104) dX12_rings_97 (by decide) rfl h_44 ?_
      refine z_iconst (M := M_X12_rings) dX12_rings_100 ?_
      refine z_goto (M := M_X12_rings) (tgt := 105) dX12_rings_101 (by decide) ?_
      exact z_st (by rw [zv_t (p := (w32 on_41) = 0) h_44]) J_43
    · refine z_if_ne_t (M := M_X12_rings) (tgt := 104) dX12_rings_97 (by decide) rfl h_44 ?_
      refine z_iconst (M := M_X12_rings) dX12_rings_104 ?_
      exact z_st (by rw [zv_f (p := (w32 on_41) = 0) h_44]) J_43
  refine whl_go hw_3 (fun (on_1, σ_2) => YY l E M_X12_rings 6 0 0 (pS (some (zv r)) σ') 2 [some (vr 277), some (vi number_0), some (vi on_1), none] [] σ_2 0 0) ?_
  rintro ⟨on_1, σ_2⟩ o_7 H K_8 K_9
  refine z_iload_n (M := M_X12_rings) dX12_rings_2 rfl ?_
  refine z_iconst (M := M_X12_rings) dX12_rings_3 ?_
  rcases if_e H with ⟨h_10, H⟩ | ⟨h_10, H⟩
  · refine z_icmp_ne_f (M := M_X12_rings) (tgt := 96) dX12_rings_4 (by decide) rfl (by decide +kernel) h_10 ?_
    refine z_aload_n (M := M_X12_rings) dX12_rings_7 rfl ?_
    obtain ⟨σ_12, hc_11, H⟩ := bd_e H
    refine z_callV (M := M_X12_rings) (M' := M_X12_skip) (as := []) (rest := []) rfl rfl dX12_rings_8 m_X12_skip t_2856 t_2858 s_163 (c_X12_skip hl  hc_11) rfl rfl ly_277 rfl (Nat.le_of_ble_eq_true rfl) (Nat.le_of_ble_eq_true rfl) (Nat.le_of_ble_eq_true rfl) (Nat.le_of_ble_eq_true rfl) ?_
    refine z_st (st' := []) rfl ?_
    refine z_aload_n (M := M_X12_rings) dX12_rings_11 rfl ?_
    refine z_getR (M := M_X12_rings) (ci := 15) (C := RX12) (T := TX12) (Nf := 135) (ty := tyX12) cl15 dX12_rings_12 ly_277 9 (by decide) t_2400 rfl ?_
    refine z_bipush (M := M_X12_rings) dX12_rings_15 (by decide +kernel) ?_
    obtain ⟨x_13, x_13_e, hi_14, H⟩ := rd_e H
    refine z_iald (M := M_X12_rings) dX12_rings_17 ly_280 rfl (by decide +kernel) rfl hi_14 x_13_e ?_
    refine z_sipush (M := M_X12_rings) dX12_rings_18 (by decide +kernel) ?_
    rcases if_e H with ⟨h_15, H⟩ | ⟨h_15, H⟩
    · refine z_icmp_ne_f (M := M_X12_rings) (tgt := 35) dX12_rings_21 (by decide) rfl (by decide +kernel) h_15 ?_
      refine z_aload_n (M := M_X12_rings) dX12_rings_24 rfl ?_
      refine z_bipush (M := M_X12_rings) dX12_rings_25 (by decide +kernel) ?_
      refine z_aload_n (M := M_X12_rings) dX12_rings_27 rfl ?_
      refine z_getI (M := M_X12_rings) (ci := 15) (C := RX12) (T := TX12) (Nf := 135) (ty := tyX12) cl15 dX12_rings_28 ly_277 17 (by decide) t_2408 rfl rfl ?_
      obtain ⟨⟨x_18, σ_17⟩, hc_16, H⟩ := bd_e H
      refine z_callV (M := M_X12_rings) (M' := M_X12_wrong) (as := [vi 7, vi (σ_12 kR_at 0)]) (rest := []) rfl rfl dX12_rings_31 m_X12_wrong t_2874 t_2876 s_166 (c_X12_wrong hl  hc_16) rfl rfl ly_277 rfl (Nat.le_of_ble_eq_true rfl) (Nat.le_of_ble_eq_true rfl) (Nat.le_of_ble_eq_true rfl) (Nat.le_of_ble_eq_true rfl) ?_
      refine z_st (st' := [zv x_18]) rfl ?_
      have H := congrArg some (hk_5 _ ((K_9 _ (Option.some.inj H).symm).symm))
      cases H
      exact z_zret (M := M_X12_rings) dX12_rings_34 rfl (Nat.le_of_ble_eq_true rfl) (Nat.le_of_ble_eq_true rfl) ⟨rfl, rfl⟩
    · refine z_icmp_ne_t (M := M_X12_rings) (tgt := 35) dX12_rings_21 (by decide) rfl (by decide +kernel) h_15 ?_
      refine z_aload_n (M := M_X12_rings) dX12_rings_35 rfl ?_
      obtain ⟨x_20, hc_19, H⟩ := bd_e H
      refine z_callV (M := M_X12_rings) (M' := M_X12_here) (as := []) (rest := []) rfl rfl dX12_rings_36 m_X12_here t_2860 t_2862 s_164 (c_X12_here hl  hc_19) rfl rfl ly_277 rfl (Nat.le_of_ble_eq_true rfl) (Nat.le_of_ble_eq_true rfl) (Nat.le_of_ble_eq_true rfl) (Nat.le_of_ble_eq_true rfl) ?_
      refine z_st (st' := [vi x_20]) rfl ?_
      refine z_bipush (M := M_X12_rings) dX12_rings_39 (by decide +kernel) ?_
      rcases if_e H with ⟨h_21, H⟩ | ⟨h_21, H⟩
      · refine z_icmp_eq_f (M := M_X12_rings) (tgt := 50) dX12_rings_41 (by decide) rfl (by decide +kernel) h_21 ?_
        refine z_aload_n (M := M_X12_rings) dX12_rings_44 rfl ?_
        refine z_zconst (M := M_X12_rings) (b := false) dX12_rings_45 rfl ?_
        obtain ⟨⟨x_24, σ_23⟩, hc_22, H⟩ := bd_e H
        refine z_callV (M := M_X12_rings) (M' := M_X12_strange) (as := [zv false]) (rest := []) rfl rfl dX12_rings_46 m_X12_strange t_2870 t_2872 s_165 (c_X12_strange hl  hc_22) rfl rfl ly_277 rfl (Nat.le_of_ble_eq_true rfl) (Nat.le_of_ble_eq_true rfl) (Nat.le_of_ble_eq_true rfl) (Nat.le_of_ble_eq_true rfl) ?_
        refine z_st (st' := [zv x_24]) rfl ?_
        have H := congrArg some (hk_5 _ ((K_9 _ (Option.some.inj H).symm).symm))
        cases H
        exact z_zret (M := M_X12_rings) dX12_rings_49 rfl (Nat.le_of_ble_eq_true rfl) (Nat.le_of_ble_eq_true rfl) ⟨rfl, rfl⟩
      · refine z_icmp_eq_t (M := M_X12_rings) (tgt := 50) dX12_rings_41 (by decide) rfl (by decide +kernel) (Decidable.not_not.mp h_21) ?_
        refine z_aload_n (M := M_X12_rings) dX12_rings_50 rfl ?_
        refine z_dup (M := M_X12_rings) dX12_rings_51 rfl ?_
        refine z_getI (M := M_X12_rings) (ci := 15) (C := RX12) (T := TX12) (Nf := 135) (ty := tyX12) cl15 dX12_rings_52 ly_277 17 (by decide) t_2408 rfl rfl ?_
        refine z_iconst (M := M_X12_rings) dX12_rings_55 ?_
        refine z_iadd (M := M_X12_rings) dX12_rings_56 ?_
        obtain ⟨σ_25, σ_25_e, H⟩ := wf_e H
        refine z_putI (M := M_X12_rings) (ci := 15) (C := RX12) (T := TX12) (Nf := 135) (ty := tyX12) cl15 dX12_rings_57 ly_277 17 (by decide) t_2408 rfl rfl rfl rfl σ_25_e ?_
        refine z_aload_n (M := M_X12_rings) dX12_rings_60 rfl ?_
        refine z_getR (M := M_X12_rings) (ci := 15) (C := RX12) (T := TX12) (Nf := 135) (ty := tyX12) cl15 dX12_rings_61 ly_277 9 (by decide) t_2400 rfl ?_
        refine z_bipush (M := M_X12_rings) dX12_rings_64 (by decide +kernel) ?_
        obtain ⟨x_26, x_26_e, hi_27, H⟩ := rd_e H
        refine z_iald (M := M_X12_rings) dX12_rings_66 ly_280 rfl (by decide +kernel) rfl hi_27 x_26_e ?_
        refine z_istore_n (M := M_X12_rings) (lv' := [some (vr 277), some (vi number_0), some (vi on_1), some (vi x_26)]) dX12_rings_67 (Nat.le_of_ble_eq_true rfl) rfl rfl ?_
        refine z_aload_n (M := M_X12_rings) dX12_rings_68 rfl ?_
        refine z_iconst (M := M_X12_rings) dX12_rings_69 ?_
        obtain ⟨σ_29, hc_28, H⟩ := bd_e H
        refine z_callV (M := M_X12_rings) (M' := M_X12_tell) (as := [vi 0]) (rest := []) rfl rfl dX12_rings_70 m_X12_tell t_2902 t_2904 s_170 (c_X12_tell hl  hc_28) rfl rfl ly_277 rfl (Nat.le_of_ble_eq_true rfl) (Nat.le_of_ble_eq_true rfl) (Nat.le_of_ble_eq_true rfl) (Nat.le_of_ble_eq_true rfl) ?_
        refine z_st (st' := []) rfl ?_
        refine z_aload_n (M := M_X12_rings) dX12_rings_73 rfl ?_
        refine z_iload_n (M := M_X12_rings) dX12_rings_74 rfl ?_
        obtain ⟨σ_31, hc_30, H⟩ := bd_e H
        refine z_callV (M := M_X12_rings) (M' := M_X12_more) (as := [vi number_0]) (rest := []) rfl rfl dX12_rings_75 m_X12_more t_2906 t_2908 s_171 (c_X12_more hl  hc_30) rfl rfl ly_277 rfl (Nat.le_of_ble_eq_true rfl) (Nat.le_of_ble_eq_true rfl) (Nat.le_of_ble_eq_true rfl) (Nat.le_of_ble_eq_true rfl) ?_
        refine z_st (st' := []) rfl ?_
        refine z_aload_n (M := M_X12_rings) dX12_rings_78 rfl ?_
        refine z_iload_n (M := M_X12_rings) dX12_rings_79 rfl ?_
        obtain ⟨⟨x_34, σ_33⟩, hc_32, H⟩ := bd_e H
        refine z_callV (M := M_X12_rings) (M' := M_X12_row) (as := [vi x_26]) (rest := []) rfl rfl dX12_rings_80 m_X12_row t_2946 t_2948 s_180 (c_X12_row hl  hc_32) rfl rfl ly_277 rfl (Nat.le_of_ble_eq_true rfl) (Nat.le_of_ble_eq_true rfl) (Nat.le_of_ble_eq_true rfl) (Nat.le_of_ble_eq_true rfl) ?_
        refine z_st (st' := [zv x_34]) rfl ?_
        rcases if_e H with ⟨h_35, H⟩ | ⟨h_35, H⟩
        · refine z_zne_t (M := M_X12_rings) (tgt := 88) dX12_rings_83 (by decide) h_35 ?_
          refine z_aload_n (M := M_X12_rings) dX12_rings_88 rfl ?_
          obtain ⟨⟨x_38, σ_37⟩, hc_36, H⟩ := bd_e H
          refine z_callV (M := M_X12_rings) (M' := M_X12_goesOn) (as := []) (rest := []) rfl rfl dX12_rings_89 m_X12_goesOn t_2950 t_2952 s_181 (c_X12_goesOn hl  hc_36) rfl rfl ly_277 rfl (Nat.le_of_ble_eq_true rfl) (Nat.le_of_ble_eq_true rfl) (Nat.le_of_ble_eq_true rfl) (Nat.le_of_ble_eq_true rfl) ?_
          refine z_st (st' := [vi x_38]) rfl ?_
          refine z_istore_n (M := M_X12_rings) (lv' := [some (vr 277), some (vi number_0), some (vi x_38), some (vi x_26)]) dX12_rings_92 (Nat.le_of_ble_eq_true rfl) rfl rfl ?_
          refine z_goto (M := M_X12_rings) (tgt := 2) dX12_rings_93 (by decide) ?_
          refine z_le (lv' := [some (vr 277), some (vi number_0), some (vi x_38), none]) ⟨Or.inr rfl, Or.inr rfl, Or.inr rfl, Or.inl rfl, trivial⟩ ?_
          exact K_8 _ (Option.some.inj H).symm
        · refine z_zne_f (M := M_X12_rings) (tgt := 88) dX12_rings_83 (by decide) h_35 ?_
          refine z_zconst (M := M_X12_rings) (b := false) dX12_rings_86 rfl ?_
          have H := congrArg some (hk_5 _ ((K_9 _ (Option.some.inj H).symm).symm))
          cases H
          exact z_zret (M := M_X12_rings) dX12_rings_87 rfl (Nat.le_of_ble_eq_true rfl) (Nat.le_of_ble_eq_true rfl) ⟨rfl, rfl⟩
  · refine z_icmp_ne_t (M := M_X12_rings) (tgt := 96) dX12_rings_4 (by decide) rfl (by decide +kernel) h_10 ?_
    exact J_45 _ _ (K_9 _ (Option.some.inj H).symm).symm
theorem c_X12_there (hl : l.stackTraces = false) {σ : SG} {n_0 : Int} {r : Bool}  (H : fR_there σ n_0 = r) : en_S l E M_X12_there 1 0 0 [vr 277, vi n_0] σ (pS (some (zv r)) σ) := by
  unfold fR_there at H
  refine z_mk (lv := [some (vr 277), some (vi n_0)]) m_X12_there rfl hl (Nat.le_of_ble_eq_true rfl) rfl ?_
  have J_1 : YY l E M_X12_there 1 0 0 (pS (some (zv r)) σ) 18 [some (vr 277), some (vi n_0)] [zv (decide ((w32 ((σ kR_at 0) + n_0)) ≤ (w32 (σ kR_size 0))))] σ 0 0 := by
    cases H
    exact z_zret (M := M_X12_there) dX12_there_18 rfl (Nat.le_of_ble_eq_true rfl) (Nat.le_of_ble_eq_true rfl) ⟨rfl, rfl⟩
  refine z_aload_n (M := M_X12_there) dX12_there_0 rfl ?_
  refine z_getI (M := M_X12_there) (ci := 15) (C := RX12) (T := TX12) (Nf := 135) (ty := tyX12) cl15 dX12_there_1 ly_277 17 (by decide) t_2408 rfl rfl ?_
  refine z_iload_n (M := M_X12_there) dX12_there_4 rfl ?_
  refine z_iadd (M := M_X12_there) dX12_there_5 ?_
  refine z_aload_n (M := M_X12_there) dX12_there_6 rfl ?_
  refine z_getI (M := M_X12_there) (ci := 15) (C := RX12) (T := TX12) (Nf := 135) (ty := tyX12) cl15 dX12_there_7 ly_277 18 (by decide) t_2409 rfl rfl ?_
  by_cases h_2 : (w32 ((σ kR_at 0) + n_0)) ≤ (w32 (σ kR_size 0))
  · refine z_icmp_gt_f (M := M_X12_there) (tgt := 17) dX12_there_10 (by decide) rfl rfl h_2 ?_
    refine z_iconst (M := M_X12_there) dX12_there_13 ?_
    refine z_goto (M := M_X12_there) (tgt := 18) dX12_there_14 (by decide) ?_
    exact z_st (by rw [zv_t (p := (w32 ((σ kR_at 0) + n_0)) ≤ (w32 (σ kR_size 0))) h_2]) J_1
  · refine z_icmp_gt_t (M := M_X12_there) (tgt := 17) dX12_there_10 (by decide) rfl rfl (Int.not_le.mp h_2) ?_
    refine z_iconst (M := M_X12_there) dX12_there_17 ?_
    exact z_st (by rw [zv_f (p := (w32 ((σ kR_at 0) + n_0)) ≤ (w32 (σ kR_size 0))) h_2]) J_1
theorem c_X12_whole (hl : l.stackTraces = false) {σ : SG} {from_0 : Int} {n_0 : Int} {r : Int}  (H : fR_whole σ from_0 n_0 = some r) : en_S l E M_X12_whole 1 0 0 [vr 277, vi from_0, vi n_0] σ (pS (some (vl r)) σ) := by
  unfold fR_whole at H
  refine z_mk (lv := [some (vr 277), some (vi from_0), some (vi n_0), none, none, none, none]) m_X12_whole rfl hl (Nat.le_of_ble_eq_true rfl) rfl ?_
  refine z_lconst (M := M_X12_whole) (m := 0) dX12_whole_0 (by decide +kernel) ?_
  refine z_lstore_n (M := M_X12_whole) (lv' := [some (vr 277), some (vi from_0), some (vi n_0), some (vl 0), none, none, none]) dX12_whole_1 (Nat.le_of_ble_eq_true rfl) rfl rfl ?_
  refine z_iconst (M := M_X12_whole) dX12_whole_2 ?_
  refine z_istore (M := M_X12_whole) (lv' := [some (vr 277), some (vi from_0), some (vi n_0), some (vl 0), none, some (vi 0), none]) dX12_whole_3 (Nat.le_of_ble_eq_true rfl) rfl rfl ?_
  obtain ⟨rl_6, hw_3, hk_4⟩ := bd_e H
  have J_20 : ∀ v_18 k_19, rl_6 = (v_18, k_19) → YY l E M_X12_whole 1 0 0 (pS (some (vl r)) σ) 59 [some (vr 277), some (vi from_0), some (vi n_0), some (vl v_18), none, some (vi k_19), none] [] σ 0 0 := by
    intro v_18 k_19 e
    have H := hk_4
    rw [e] at H
    refine z_lload_n (M := M_X12_whole) dX12_whole_59 rfl ?_
    cases H
    exact z_lret (M := M_X12_whole) dX12_whole_60 rfl (Nat.le_of_ble_eq_true rfl) (Nat.le_of_ble_eq_true rfl) ⟨rfl, rfl⟩
  refine whl_go hw_3 (fun (v_1, k_2) => YY l E M_X12_whole 1 0 0 (pS (some (vl r)) σ) 5 [some (vr 277), some (vi from_0), some (vi n_0), some (vl v_1), none, some (vi k_2), none] [] σ 0 0) ?_
  rintro ⟨v_1, k_2⟩ o_7 H K_8 K_9
  refine z_iload (M := M_X12_whole) dX12_whole_5 rfl ?_
  refine z_iload_n (M := M_X12_whole) dX12_whole_7 rfl ?_
  rcases if_e H with ⟨h_10, H⟩ | ⟨h_10, H⟩
  · refine z_icmp_ge_f (M := M_X12_whole) (tgt := 59) dX12_whole_8 (by decide) rfl rfl h_10 ?_
    have J_11 : YY l E M_X12_whole 1 0 0 (pS (some (vl r)) σ) 33 [some (vr 277), some (vi from_0), some (vi n_0), some (vl v_1), none, some (vi k_2), none] [vi (if (nz (σ kR_bigFirst 0)) = true then (from_0 + k_2) else (((from_0 + n_0) - 1) - k_2))] σ 0 0 := by
      obtain ⟨x_12, x_12_e, H⟩ := lt_e H
      refine z_st (congrArg (fun z => vi z :: []) x_12_e) ?_
      refine z_istore (M := M_X12_whole) (lv' := [some (vr 277), some (vi from_0), some (vi n_0), some (vl v_1), none, some (vi k_2), some (vi x_12)]) dX12_whole_33 (Nat.le_of_ble_eq_true rfl) rfl rfl ?_
      refine z_lload_n (M := M_X12_whole) dX12_whole_35 rfl ?_
      refine z_bipush (M := M_X12_whole) dX12_whole_36 (by decide +kernel) ?_
      refine z_lshl (M := M_X12_whole) dX12_whole_38 ?_
      refine z_aload_n (M := M_X12_whole) dX12_whole_39 rfl ?_
      refine z_getR (M := M_X12_whole) (ci := 15) (C := RX12) (T := TX12) (Nf := 135) (ty := tyX12) cl15 dX12_whole_40 ly_277 3 (by decide) t_2394 rfl ?_
      refine z_iload (M := M_X12_whole) dX12_whole_43 rfl ?_
      obtain ⟨x_13, x_13_e, hi_14, H⟩ := rd_e H
      refine z_bald (M := M_X12_whole) dX12_whole_45 ly_278 rfl rfl rfl hi_14 x_13_e ?_
      refine z_i2l (M := M_X12_whole) dX12_whole_46 ?_
      refine z_ldc2 (M := M_X12_whole) (n := 255) dX12_whole_47 t_2982 (by decide +kernel) ?_
      refine z_land (M := M_X12_whole) dX12_whole_50 ?_
      refine z_lor (M := M_X12_whole) dX12_whole_51 ?_
      refine z_lstore_n (M := M_X12_whole) (lv' := [some (vr 277), some (vi from_0), some (vi n_0), some (vl (q_lor (q_lsl v_1 8) (q_lan (w32 (w8 x_13)) 255))), none, some (vi k_2), some (vi x_12)]) dX12_whole_52 (Nat.le_of_ble_eq_true rfl) rfl rfl ?_
      refine z_iinc (M := M_X12_whole) (lv' := [some (vr 277), some (vi from_0), some (vi n_0), some (vl (q_lor (q_lsl v_1 8) (q_lan (w32 (w8 x_13)) 255))), none, some (vi (k_2 + 1)), some (vi x_12)]) dX12_whole_53 rfl (Nat.le_of_ble_eq_true rfl) rfl rfl ?_
      refine z_goto (M := M_X12_whole) (tgt := 5) dX12_whole_56 (by decide) ?_
      refine z_le (lv' := [some (vr 277), some (vi from_0), some (vi n_0), some (vl (q_lor (q_lsl v_1 8) (q_lan (w32 (w8 x_13)) 255))), none, some (vi (k_2 + 1)), none]) ⟨Or.inr rfl, Or.inr rfl, Or.inr rfl, Or.inr rfl, Or.inl rfl, Or.inr rfl, Or.inl rfl, trivial⟩ ?_
      exact K_8 _ (Option.some.inj H).symm
    refine z_aload_n (M := M_X12_whole) dX12_whole_11 rfl ?_
    refine z_getZ (M := M_X12_whole) (ci := 15) (C := RX12) (T := TX12) (Nf := 135) (ty := tyX12) cl15 dX12_whole_12 ly_277 26 (by decide) t_2417 rfl rfl ?_
    by_cases h_16 : (nz (σ kR_bigFirst 0)) = true
    · refine z_zeq_f (M := M_X12_whole) (tgt := 25) dX12_whole_15 (by decide) h_16 ?_
      refine z_iload_n (M := M_X12_whole) dX12_whole_18 rfl ?_
      refine z_iload (M := M_X12_whole) dX12_whole_19 rfl ?_
      refine z_iadd (M := M_X12_whole) dX12_whole_21 ?_
      refine z_goto (M := M_X12_whole) (tgt := 33) dX12_whole_22 (by decide) ?_
      exact z_st (by rw [if_pos (c := (nz (σ kR_bigFirst 0)) = true) h_16]) J_11
    · refine z_zeq_t (M := M_X12_whole) (tgt := 25) dX12_whole_15 (by decide) h_16 ?_
      refine z_iload_n (M := M_X12_whole) dX12_whole_25 rfl ?_
      refine z_iload_n (M := M_X12_whole) dX12_whole_26 rfl ?_
      refine z_iadd (M := M_X12_whole) dX12_whole_27 ?_
      refine z_iconst (M := M_X12_whole) dX12_whole_28 ?_
      refine z_isub (M := M_X12_whole) dX12_whole_29 ?_
      refine z_iload (M := M_X12_whole) dX12_whole_30 rfl ?_
      refine z_isub (M := M_X12_whole) dX12_whole_32 ?_
      exact z_st (by rw [if_neg (c := (nz (σ kR_bigFirst 0)) = true) h_16]) J_11
  · refine z_icmp_ge_t (M := M_X12_whole) (tgt := 59) dX12_whole_8 (by decide) rfl rfl (Int.not_lt.mp h_10) ?_
    exact J_20 _ _ (K_9 _ (Option.some.inj H).symm).symm
theorem c_X12_partsOfBytes (hl : l.stackTraces = false) {σ : SG} {kind_0 : Int} {count_0 : Int} {r : Bool} {σ' : SG}  (H : fR_partsOfBytes σ kind_0 count_0 = some (r, σ')) : en_S l E M_X12_partsOfBytes 1 0 0 [vr 277, vi kind_0, vl count_0] σ (pS (some (zv r)) σ') := by
  unfold fR_partsOfBytes at H
  refine z_mk (lv := [some (vr 277), some (vi kind_0), some (vl count_0), none]) m_X12_partsOfBytes rfl hl (Nat.le_of_ble_eq_true rfl) rfl ?_
  refine z_aload_n (M := M_X12_partsOfBytes) dX12_partsOfBytes_0 rfl ?_
  refine z_getR (M := M_X12_partsOfBytes) (ci := 15) (C := RX12) (T := TX12) (Nf := 135) (ty := tyX12) cl15 dX12_partsOfBytes_1 ly_277 27 (by decide) t_2418 rfl ?_
  refine z_aload_n (M := M_X12_partsOfBytes) dX12_partsOfBytes_4 rfl ?_
  refine z_getI (M := M_X12_partsOfBytes) (ci := 15) (C := RX12) (T := TX12) (Nf := 135) (ty := tyX12) cl15 dX12_partsOfBytes_5 ly_277 29 (by decide) t_2420 rfl rfl ?_
  refine z_lload_n (M := M_X12_partsOfBytes) dX12_partsOfBytes_8 rfl ?_
  obtain ⟨σ_1, σ_1_e, hi_2, H⟩ := wa_e H
  refine z_last (M := M_X12_partsOfBytes) dX12_partsOfBytes_9 ly_288 rfl rfl rfl hi_2 σ_1_e ?_
  refine z_aload_n (M := M_X12_partsOfBytes) dX12_partsOfBytes_10 rfl ?_
  refine z_getR (M := M_X12_partsOfBytes) (ci := 15) (C := RX12) (T := TX12) (Nf := 135) (ty := tyX12) cl15 dX12_partsOfBytes_11 ly_277 28 (by decide) t_2419 rfl ?_
  refine z_aload_n (M := M_X12_partsOfBytes) dX12_partsOfBytes_14 rfl ?_
  refine z_getI (M := M_X12_partsOfBytes) (ci := 15) (C := RX12) (T := TX12) (Nf := 135) (ty := tyX12) cl15 dX12_partsOfBytes_15 ly_277 29 (by decide) t_2420 rfl rfl ?_
  have J_3 : YY l E M_X12_partsOfBytes 1 0 0 (pS (some (zv r)) σ') 31 [some (vr 277), some (vi kind_0), some (vl count_0), none] [vi (if (w32 kind_0) = 7 then 0 else (kind_0 - 3)), vi (σ_1 kR_levels 0), vr 289] σ_1 0 0 := by
    obtain ⟨σ_4, σ_4_e, hi_5, H⟩ := wa_e H
    refine z_iast (M := M_X12_partsOfBytes) dX12_partsOfBytes_31 ly_289 rfl rfl rfl hi_5 σ_4_e ?_
    refine z_aload_n (M := M_X12_partsOfBytes) dX12_partsOfBytes_32 rfl ?_
    refine z_dup (M := M_X12_partsOfBytes) dX12_partsOfBytes_33 rfl ?_
    refine z_getI (M := M_X12_partsOfBytes) (ci := 15) (C := RX12) (T := TX12) (Nf := 135) (ty := tyX12) cl15 dX12_partsOfBytes_34 ly_277 29 (by decide) t_2420 rfl rfl ?_
    refine z_iconst (M := M_X12_partsOfBytes) dX12_partsOfBytes_37 ?_
    refine z_iadd (M := M_X12_partsOfBytes) dX12_partsOfBytes_38 ?_
    obtain ⟨σ_6, σ_6_e, H⟩ := wf_e H
    refine z_putI (M := M_X12_partsOfBytes) (ci := 15) (C := RX12) (T := TX12) (Nf := 135) (ty := tyX12) cl15 dX12_partsOfBytes_39 ly_277 29 (by decide) t_2420 rfl rfl rfl rfl σ_6_e ?_
    refine z_aload_n (M := M_X12_partsOfBytes) dX12_partsOfBytes_42 rfl ?_
    have J_7 : YY l E M_X12_partsOfBytes 1 0 0 (pS (some (zv r)) σ') 62 [some (vr 277), some (vi kind_0), some (vl count_0), none] [vi (if (w32 kind_0) = 7 then ((σ_6 kR_open 0) + 1) else (σ_6 kR_open 0)), vr 277] σ_6 0 0 := by
      obtain ⟨σ_8, σ_8_e, H⟩ := wf_e H
      refine z_putI (M := M_X12_partsOfBytes) (ci := 15) (C := RX12) (T := TX12) (Nf := 135) (ty := tyX12) cl15 dX12_partsOfBytes_62 ly_277 20 (by decide) t_2411 rfl rfl rfl rfl σ_8_e ?_
      refine z_zconst (M := M_X12_partsOfBytes) (b := true) dX12_partsOfBytes_65 rfl ?_
      cases H
      exact z_zret (M := M_X12_partsOfBytes) dX12_partsOfBytes_66 rfl (Nat.le_of_ble_eq_true rfl) (Nat.le_of_ble_eq_true rfl) ⟨rfl, rfl⟩
    refine z_iload_n (M := M_X12_partsOfBytes) dX12_partsOfBytes_43 rfl ?_
    refine z_bipush (M := M_X12_partsOfBytes) dX12_partsOfBytes_44 (by decide +kernel) ?_
    by_cases h_9 : (w32 kind_0) = 7
    · refine z_icmp_ne_f (M := M_X12_partsOfBytes) (tgt := 58) dX12_partsOfBytes_46 (by decide) rfl (by decide +kernel) h_9 ?_
      refine z_aload_n (M := M_X12_partsOfBytes) dX12_partsOfBytes_49 rfl ?_
      refine z_getI (M := M_X12_partsOfBytes) (ci := 15) (C := RX12) (T := TX12) (Nf := 135) (ty := tyX12) cl15 dX12_partsOfBytes_50 ly_277 20 (by decide) t_2411 rfl rfl ?_
      refine z_iconst (M := M_X12_partsOfBytes) dX12_partsOfBytes_53 ?_
      refine z_iadd (M := M_X12_partsOfBytes) dX12_partsOfBytes_54 ?_
      refine z_goto (M := M_X12_partsOfBytes) (tgt := 62) dX12_partsOfBytes_55 (by decide) ?_
      exact z_st (by rw [if_pos (c := (w32 kind_0) = 7) h_9]) J_7
    · refine z_icmp_ne_t (M := M_X12_partsOfBytes) (tgt := 58) dX12_partsOfBytes_46 (by decide) rfl (by decide +kernel) h_9 ?_
      refine z_aload_n (M := M_X12_partsOfBytes) dX12_partsOfBytes_58 rfl ?_
      refine z_getI (M := M_X12_partsOfBytes) (ci := 15) (C := RX12) (T := TX12) (Nf := 135) (ty := tyX12) cl15 dX12_partsOfBytes_59 ly_277 20 (by decide) t_2411 rfl rfl ?_
      exact z_st (by rw [if_neg (c := (w32 kind_0) = 7) h_9]) J_7
  refine z_iload_n (M := M_X12_partsOfBytes) dX12_partsOfBytes_18 rfl ?_
  refine z_bipush (M := M_X12_partsOfBytes) dX12_partsOfBytes_19 (by decide +kernel) ?_
  by_cases h_10 : (w32 kind_0) = 7
  · refine z_icmp_ne_f (M := M_X12_partsOfBytes) (tgt := 28) dX12_partsOfBytes_21 (by decide) rfl (by decide +kernel) h_10 ?_
    refine z_iconst (M := M_X12_partsOfBytes) dX12_partsOfBytes_24 ?_
    refine z_goto (M := M_X12_partsOfBytes) (tgt := 31) dX12_partsOfBytes_25 (by decide) ?_
    exact z_st (by rw [if_pos (c := (w32 kind_0) = 7) h_10]) J_3
  · refine z_icmp_ne_t (M := M_X12_partsOfBytes) (tgt := 28) dX12_partsOfBytes_21 (by decide) rfl (by decide +kernel) h_10 ?_
    refine z_iload_n (M := M_X12_partsOfBytes) dX12_partsOfBytes_28 rfl ?_
    refine z_iconst (M := M_X12_partsOfBytes) dX12_partsOfBytes_29 ?_
    refine z_isub (M := M_X12_partsOfBytes) dX12_partsOfBytes_30 ?_
    exact z_st (by rw [if_neg (c := (w32 kind_0) = 7) h_10]) J_3
theorem c_X12_inUnits (hl : l.stackTraces = false) {σ : SG} {b_0 : Int} {r : Int}  (H : fR_inUnits σ b_0 = r) : en_S l E M_X12_inUnits 1 0 0 [vr 277, vl b_0] σ (pS (some (vl r)) σ) := by
  unfold fR_inUnits at H
  refine z_mk (lv := [some (vr 277), some (vl b_0), none, none, none, none, none, none, none, none, none, none, none, none, none, none]) m_X12_inUnits rfl hl (Nat.le_of_ble_eq_true rfl) rfl ?_
  refine z_lload_n (M := M_X12_inUnits) dX12_inUnits_0 rfl ?_
  refine z_bipush (M := M_X12_inUnits) dX12_inUnits_1 (by decide +kernel) ?_
  refine z_lushr (M := M_X12_inUnits) dX12_inUnits_3 ?_
  refine z_ldc2 (M := M_X12_inUnits) (n := 2047) dX12_inUnits_4 t_2994 (by decide +kernel) ?_
  refine z_land (M := M_X12_inUnits) dX12_inUnits_7 ?_
  refine z_l2i (M := M_X12_inUnits) dX12_inUnits_8 ?_
  refine z_istore_n (M := M_X12_inUnits) (lv' := [some (vr 277), some (vl b_0), none, some (vi (q_lan (q_lus b_0 52) 2047)), none, none, none, none, none, none, none, none, none, none, none, none]) dX12_inUnits_9 (Nat.le_of_ble_eq_true rfl) rfl rfl ?_
  refine z_lload_n (M := M_X12_inUnits) dX12_inUnits_10 rfl ?_
  refine z_ldc2 (M := M_X12_inUnits) (n := 4503599627370495) dX12_inUnits_11 t_2995 (by decide +kernel) ?_
  refine z_land (M := M_X12_inUnits) dX12_inUnits_14 ?_
  refine z_lstore (M := M_X12_inUnits) (lv' := [some (vr 277), some (vl b_0), none, some (vi (q_lan (q_lus b_0 52) 2047)), some (vl (q_lan b_0 4503599627370495)), none, none, none, none, none, none, none, none, none, none, none]) dX12_inUnits_15 (Nat.le_of_ble_eq_true rfl) rfl rfl ?_
  have J_1 : YY l E M_X12_inUnits 1 0 0 (pS (some (vl r)) σ) 32 [some (vr 277), some (vl b_0), none, some (vi (q_lan (q_lus b_0 52) 2047)), some (vl (q_lan b_0 4503599627370495)), none, none, none, none, none, none, none, none, none, none, none] [vl (if (w32 (q_lan (q_lus b_0 52) 2047)) = 0 then (q_lan b_0 4503599627370495) else (q_lor (q_lan b_0 4503599627370495) 4503599627370496))] σ 0 0 := by
    refine z_aload_n (M := M_X12_inUnits) dX12_inUnits_32 rfl ?_
    refine z_getL (M := M_X12_inUnits) (ci := 15) (C := RX12) (T := TX12) (Nf := 135) (ty := tyX12) cl15 dX12_inUnits_33 ly_277 2 (by decide) t_2393 rfl rfl ?_
    refine z_lmul (M := M_X12_inUnits) dX12_inUnits_36 ?_
    refine z_lstore (M := M_X12_inUnits) (lv' := [some (vr 277), some (vl b_0), none, some (vi (q_lan (q_lus b_0 52) 2047)), some (vl (q_lan b_0 4503599627370495)), none, some (vl ((if (w32 (q_lan (q_lus b_0 52) 2047)) = 0 then (q_lan b_0 4503599627370495) else (q_lor (q_lan b_0 4503599627370495) 4503599627370496)) * (σ kR_unit 0))), none, none, none, none, none, none, none, none, none]) dX12_inUnits_37 (Nat.le_of_ble_eq_true rfl) rfl rfl ?_
    have J_2 : YY l E M_X12_inUnits 1 0 0 (pS (some (vl r)) σ) 48 [some (vr 277), some (vl b_0), none, some (vi (q_lan (q_lus b_0 52) 2047)), some (vl (q_lan b_0 4503599627370495)), none, some (vl ((if (w32 (q_lan (q_lus b_0 52) 2047)) = 0 then (q_lan b_0 4503599627370495) else (q_lor (q_lan b_0 4503599627370495) 4503599627370496)) * (σ kR_unit 0))), none, none, none, none, none, none, none, none, none] [vi (if (w32 (q_lan (q_lus b_0 52) 2047)) = 0 then 1 else (q_lan (q_lus b_0 52) 2047))] σ 0 0 := by
      refine z_sipush (M := M_X12_inUnits) dX12_inUnits_48 (by decide +kernel) ?_
      refine z_isub (M := M_X12_inUnits) dX12_inUnits_51 ?_
      refine z_istore (M := M_X12_inUnits) (lv' := [some (vr 277), some (vl b_0), none, some (vi (q_lan (q_lus b_0 52) 2047)), some (vl (q_lan b_0 4503599627370495)), none, some (vl ((if (w32 (q_lan (q_lus b_0 52) 2047)) = 0 then (q_lan b_0 4503599627370495) else (q_lor (q_lan b_0 4503599627370495) 4503599627370496)) * (σ kR_unit 0))), none, some (vi ((if (w32 (q_lan (q_lus b_0 52) 2047)) = 0 then 1 else (q_lan (q_lus b_0 52) 2047)) - 1075)), none, none, none, none, none, none, none]) dX12_inUnits_52 (Nat.le_of_ble_eq_true rfl) rfl rfl ?_
      refine z_lload (M := M_X12_inUnits) dX12_inUnits_54 rfl ?_
      refine z_lconst (M := M_X12_inUnits) (m := 0) dX12_inUnits_56 (by decide +kernel) ?_
      refine z_lcmp (M := M_X12_inUnits) dX12_inUnits_57 ?_
      rcases if_e H with ⟨h_3, H⟩ | ⟨h_3, H⟩
      · refine z_lif_ne_f (M := M_X12_inUnits) (tgt := 63) dX12_inUnits_58 (by decide) rfl (by decide +kernel) h_3 ?_
        refine z_lconst (M := M_X12_inUnits) (m := 0) dX12_inUnits_61 (by decide +kernel) ?_
        cases H
        exact z_lret (M := M_X12_inUnits) dX12_inUnits_62 rfl (Nat.le_of_ble_eq_true rfl) (Nat.le_of_ble_eq_true rfl) ⟨rfl, rfl⟩
      · refine z_lif_ne_t (M := M_X12_inUnits) (tgt := 63) dX12_inUnits_58 (by decide) rfl (by decide +kernel) h_3 ?_
        refine z_iload (M := M_X12_inUnits) dX12_inUnits_63 rfl ?_
        rcases if_e H with ⟨h_4, H⟩ | ⟨h_4, H⟩
        · refine z_if_lt_f (M := M_X12_inUnits) (tgt := 72) dX12_inUnits_65 (by decide) rfl h_4 ?_
          refine z_ldc2 (M := M_X12_inUnits) (n := 4000000000) dX12_inUnits_68 t_2936 (by decide +kernel) ?_
          cases H
          exact z_lret (M := M_X12_inUnits) dX12_inUnits_71 rfl (Nat.le_of_ble_eq_true rfl) (Nat.le_of_ble_eq_true rfl) ⟨rfl, rfl⟩
        · refine z_if_lt_t (M := M_X12_inUnits) (tgt := 72) dX12_inUnits_65 (by decide) rfl (Int.not_le.mp h_4) ?_
          refine z_iload (M := M_X12_inUnits) dX12_inUnits_72 rfl ?_
          refine z_bipush (M := M_X12_inUnits) dX12_inUnits_74 (by decide +kernel) ?_
          rcases if_e H with ⟨h_5, H⟩ | ⟨h_5, H⟩
          · refine z_icmp_ge_f (M := M_X12_inUnits) (tgt := 81) dX12_inUnits_76 (by decide) rfl (by decide +kernel) h_5 ?_
            refine z_lconst (M := M_X12_inUnits) (m := 0) dX12_inUnits_79 (by decide +kernel) ?_
            cases H
            exact z_lret (M := M_X12_inUnits) dX12_inUnits_80 rfl (Nat.le_of_ble_eq_true rfl) (Nat.le_of_ble_eq_true rfl) ⟨rfl, rfl⟩
          · refine z_icmp_ge_t (M := M_X12_inUnits) (tgt := 81) dX12_inUnits_76 (by decide) rfl (by decide +kernel) (Int.not_lt.mp h_5) ?_
            refine z_lload (M := M_X12_inUnits) dX12_inUnits_81 rfl ?_
            refine z_iload (M := M_X12_inUnits) dX12_inUnits_83 rfl ?_
            refine z_ineg (M := M_X12_inUnits) dX12_inUnits_85 ?_
            refine z_lushr (M := M_X12_inUnits) dX12_inUnits_86 ?_
            refine z_lstore (M := M_X12_inUnits) (lv' := [some (vr 277), some (vl b_0), none, some (vi (q_lan (q_lus b_0 52) 2047)), some (vl (q_lan b_0 4503599627370495)), none, some (vl ((if (w32 (q_lan (q_lus b_0 52) 2047)) = 0 then (q_lan b_0 4503599627370495) else (q_lor (q_lan b_0 4503599627370495) 4503599627370496)) * (σ kR_unit 0))), none, some (vi ((if (w32 (q_lan (q_lus b_0 52) 2047)) = 0 then 1 else (q_lan (q_lus b_0 52) 2047)) - 1075)), some (vl (q_lus ((if (w32 (q_lan (q_lus b_0 52) 2047)) = 0 then (q_lan b_0 4503599627370495) else (q_lor (q_lan b_0 4503599627370495) 4503599627370496)) * (σ kR_unit 0)) (-((if (w32 (q_lan (q_lus b_0 52) 2047)) = 0 then 1 else (q_lan (q_lus b_0 52) 2047)) - 1075)))), none, none, none, none, none, none]) dX12_inUnits_87 (Nat.le_of_ble_eq_true rfl) rfl rfl ?_
            refine z_lload (M := M_X12_inUnits) dX12_inUnits_89 rfl ?_
            refine z_lload (M := M_X12_inUnits) dX12_inUnits_91 rfl ?_
            refine z_iload (M := M_X12_inUnits) dX12_inUnits_93 rfl ?_
            refine z_ineg (M := M_X12_inUnits) dX12_inUnits_95 ?_
            refine z_lshl (M := M_X12_inUnits) dX12_inUnits_96 ?_
            refine z_lsub (M := M_X12_inUnits) dX12_inUnits_97 ?_
            refine z_lstore (M := M_X12_inUnits) (lv' := [some (vr 277), some (vl b_0), none, some (vi (q_lan (q_lus b_0 52) 2047)), some (vl (q_lan b_0 4503599627370495)), none, some (vl ((if (w32 (q_lan (q_lus b_0 52) 2047)) = 0 then (q_lan b_0 4503599627370495) else (q_lor (q_lan b_0 4503599627370495) 4503599627370496)) * (σ kR_unit 0))), none, some (vi ((if (w32 (q_lan (q_lus b_0 52) 2047)) = 0 then 1 else (q_lan (q_lus b_0 52) 2047)) - 1075)), some (vl (q_lus ((if (w32 (q_lan (q_lus b_0 52) 2047)) = 0 then (q_lan b_0 4503599627370495) else (q_lor (q_lan b_0 4503599627370495) 4503599627370496)) * (σ kR_unit 0)) (-((if (w32 (q_lan (q_lus b_0 52) 2047)) = 0 then 1 else (q_lan (q_lus b_0 52) 2047)) - 1075)))), none, some (vl (((if (w32 (q_lan (q_lus b_0 52) 2047)) = 0 then (q_lan b_0 4503599627370495) else (q_lor (q_lan b_0 4503599627370495) 4503599627370496)) * (σ kR_unit 0)) - (q_lsl (q_lus ((if (w32 (q_lan (q_lus b_0 52) 2047)) = 0 then (q_lan b_0 4503599627370495) else (q_lor (q_lan b_0 4503599627370495) 4503599627370496)) * (σ kR_unit 0)) (-((if (w32 (q_lan (q_lus b_0 52) 2047)) = 0 then 1 else (q_lan (q_lus b_0 52) 2047)) - 1075))) (-((if (w32 (q_lan (q_lus b_0 52) 2047)) = 0 then 1 else (q_lan (q_lus b_0 52) 2047)) - 1075))))), none, none, none, none]) dX12_inUnits_98 (Nat.le_of_ble_eq_true rfl) rfl rfl ?_
            refine z_lconst (M := M_X12_inUnits) (m := 1) dX12_inUnits_100 (by decide +kernel) ?_
            refine z_iload (M := M_X12_inUnits) dX12_inUnits_101 rfl ?_
            refine z_ineg (M := M_X12_inUnits) dX12_inUnits_103 ?_
            refine z_iconst (M := M_X12_inUnits) dX12_inUnits_104 ?_
            refine z_isub (M := M_X12_inUnits) dX12_inUnits_105 ?_
            refine z_lshl (M := M_X12_inUnits) dX12_inUnits_106 ?_
            refine z_lstore (M := M_X12_inUnits) (lv' := [some (vr 277), some (vl b_0), none, some (vi (q_lan (q_lus b_0 52) 2047)), some (vl (q_lan b_0 4503599627370495)), none, some (vl ((if (w32 (q_lan (q_lus b_0 52) 2047)) = 0 then (q_lan b_0 4503599627370495) else (q_lor (q_lan b_0 4503599627370495) 4503599627370496)) * (σ kR_unit 0))), none, some (vi ((if (w32 (q_lan (q_lus b_0 52) 2047)) = 0 then 1 else (q_lan (q_lus b_0 52) 2047)) - 1075)), some (vl (q_lus ((if (w32 (q_lan (q_lus b_0 52) 2047)) = 0 then (q_lan b_0 4503599627370495) else (q_lor (q_lan b_0 4503599627370495) 4503599627370496)) * (σ kR_unit 0)) (-((if (w32 (q_lan (q_lus b_0 52) 2047)) = 0 then 1 else (q_lan (q_lus b_0 52) 2047)) - 1075)))), none, some (vl (((if (w32 (q_lan (q_lus b_0 52) 2047)) = 0 then (q_lan b_0 4503599627370495) else (q_lor (q_lan b_0 4503599627370495) 4503599627370496)) * (σ kR_unit 0)) - (q_lsl (q_lus ((if (w32 (q_lan (q_lus b_0 52) 2047)) = 0 then (q_lan b_0 4503599627370495) else (q_lor (q_lan b_0 4503599627370495) 4503599627370496)) * (σ kR_unit 0)) (-((if (w32 (q_lan (q_lus b_0 52) 2047)) = 0 then 1 else (q_lan (q_lus b_0 52) 2047)) - 1075))) (-((if (w32 (q_lan (q_lus b_0 52) 2047)) = 0 then 1 else (q_lan (q_lus b_0 52) 2047)) - 1075))))), none, some (vl (q_lsl 1 ((-((if (w32 (q_lan (q_lus b_0 52) 2047)) = 0 then 1 else (q_lan (q_lus b_0 52) 2047)) - 1075)) - 1))), none, none]) dX12_inUnits_107 (Nat.le_of_ble_eq_true rfl) rfl rfl ?_
            have J_6 : YY l E M_X12_inUnits 1 0 0 (pS (some (vl r)) σ) 139 [some (vr 277), some (vl b_0), none, some (vi (q_lan (q_lus b_0 52) 2047)), some (vl (q_lan b_0 4503599627370495)), none, some (vl ((if (w32 (q_lan (q_lus b_0 52) 2047)) = 0 then (q_lan b_0 4503599627370495) else (q_lor (q_lan b_0 4503599627370495) 4503599627370496)) * (σ kR_unit 0))), none, some (vi ((if (w32 (q_lan (q_lus b_0 52) 2047)) = 0 then 1 else (q_lan (q_lus b_0 52) 2047)) - 1075)), some (vl (q_lus ((if (w32 (q_lan (q_lus b_0 52) 2047)) = 0 then (q_lan b_0 4503599627370495) else (q_lor (q_lan b_0 4503599627370495) 4503599627370496)) * (σ kR_unit 0)) (-((if (w32 (q_lan (q_lus b_0 52) 2047)) = 0 then 1 else (q_lan (q_lus b_0 52) 2047)) - 1075)))), none, some (vl (((if (w32 (q_lan (q_lus b_0 52) 2047)) = 0 then (q_lan b_0 4503599627370495) else (q_lor (q_lan b_0 4503599627370495) 4503599627370496)) * (σ kR_unit 0)) - (q_lsl (q_lus ((if (w32 (q_lan (q_lus b_0 52) 2047)) = 0 then (q_lan b_0 4503599627370495) else (q_lor (q_lan b_0 4503599627370495) 4503599627370496)) * (σ kR_unit 0)) (-((if (w32 (q_lan (q_lus b_0 52) 2047)) = 0 then 1 else (q_lan (q_lus b_0 52) 2047)) - 1075))) (-((if (w32 (q_lan (q_lus b_0 52) 2047)) = 0 then 1 else (q_lan (q_lus b_0 52) 2047)) - 1075))))), none, some (vl (q_lsl 1 ((-((if (w32 (q_lan (q_lus b_0 52) 2047)) = 0 then 1 else (q_lan (q_lus b_0 52) 2047)) - 1075)) - 1))), none, none] [zv (decide (((w64 (q_lsl 1 ((-((if (w32 (q_lan (q_lus b_0 52) 2047)) = 0 then 1 else (q_lan (q_lus b_0 52) 2047)) - 1075)) - 1))) < (w64 (((if (w32 (q_lan (q_lus b_0 52) 2047)) = 0 then (q_lan b_0 4503599627370495) else (q_lor (q_lan b_0 4503599627370495) 4503599627370496)) * (σ kR_unit 0)) - (q_lsl (q_lus ((if (w32 (q_lan (q_lus b_0 52) 2047)) = 0 then (q_lan b_0 4503599627370495) else (q_lor (q_lan b_0 4503599627370495) 4503599627370496)) * (σ kR_unit 0)) (-((if (w32 (q_lan (q_lus b_0 52) 2047)) = 0 then 1 else (q_lan (q_lus b_0 52) 2047)) - 1075))) (-((if (w32 (q_lan (q_lus b_0 52) 2047)) = 0 then 1 else (q_lan (q_lus b_0 52) 2047)) - 1075)))))) ∨ (((w64 (((if (w32 (q_lan (q_lus b_0 52) 2047)) = 0 then (q_lan b_0 4503599627370495) else (q_lor (q_lan b_0 4503599627370495) 4503599627370496)) * (σ kR_unit 0)) - (q_lsl (q_lus ((if (w32 (q_lan (q_lus b_0 52) 2047)) = 0 then (q_lan b_0 4503599627370495) else (q_lor (q_lan b_0 4503599627370495) 4503599627370496)) * (σ kR_unit 0)) (-((if (w32 (q_lan (q_lus b_0 52) 2047)) = 0 then 1 else (q_lan (q_lus b_0 52) 2047)) - 1075))) (-((if (w32 (q_lan (q_lus b_0 52) 2047)) = 0 then 1 else (q_lan (q_lus b_0 52) 2047)) - 1075))))) = (w64 (q_lsl 1 ((-((if (w32 (q_lan (q_lus b_0 52) 2047)) = 0 then 1 else (q_lan (q_lus b_0 52) 2047)) - 1075)) - 1)))) ∧ ((w64 (q_lan (q_lus ((if (w32 (q_lan (q_lus b_0 52) 2047)) = 0 then (q_lan b_0 4503599627370495) else (q_lor (q_lan b_0 4503599627370495) 4503599627370496)) * (σ kR_unit 0)) (-((if (w32 (q_lan (q_lus b_0 52) 2047)) = 0 then 1 else (q_lan (q_lus b_0 52) 2047)) - 1075))) 1)) = 1))))] σ 0 0 := by
              refine z_zstore (M := M_X12_inUnits) (lv' := [some (vr 277), some (vl b_0), none, some (vi (q_lan (q_lus b_0 52) 2047)), some (vl (q_lan b_0 4503599627370495)), none, some (vl ((if (w32 (q_lan (q_lus b_0 52) 2047)) = 0 then (q_lan b_0 4503599627370495) else (q_lor (q_lan b_0 4503599627370495) 4503599627370496)) * (σ kR_unit 0))), none, some (vi ((if (w32 (q_lan (q_lus b_0 52) 2047)) = 0 then 1 else (q_lan (q_lus b_0 52) 2047)) - 1075)), some (vl (q_lus ((if (w32 (q_lan (q_lus b_0 52) 2047)) = 0 then (q_lan b_0 4503599627370495) else (q_lor (q_lan b_0 4503599627370495) 4503599627370496)) * (σ kR_unit 0)) (-((if (w32 (q_lan (q_lus b_0 52) 2047)) = 0 then 1 else (q_lan (q_lus b_0 52) 2047)) - 1075)))), none, some (vl (((if (w32 (q_lan (q_lus b_0 52) 2047)) = 0 then (q_lan b_0 4503599627370495) else (q_lor (q_lan b_0 4503599627370495) 4503599627370496)) * (σ kR_unit 0)) - (q_lsl (q_lus ((if (w32 (q_lan (q_lus b_0 52) 2047)) = 0 then (q_lan b_0 4503599627370495) else (q_lor (q_lan b_0 4503599627370495) 4503599627370496)) * (σ kR_unit 0)) (-((if (w32 (q_lan (q_lus b_0 52) 2047)) = 0 then 1 else (q_lan (q_lus b_0 52) 2047)) - 1075))) (-((if (w32 (q_lan (q_lus b_0 52) 2047)) = 0 then 1 else (q_lan (q_lus b_0 52) 2047)) - 1075))))), none, some (vl (q_lsl 1 ((-((if (w32 (q_lan (q_lus b_0 52) 2047)) = 0 then 1 else (q_lan (q_lus b_0 52) 2047)) - 1075)) - 1))), none, some (zv (decide (((w64 (q_lsl 1 ((-((if (w32 (q_lan (q_lus b_0 52) 2047)) = 0 then 1 else (q_lan (q_lus b_0 52) 2047)) - 1075)) - 1))) < (w64 (((if (w32 (q_lan (q_lus b_0 52) 2047)) = 0 then (q_lan b_0 4503599627370495) else (q_lor (q_lan b_0 4503599627370495) 4503599627370496)) * (σ kR_unit 0)) - (q_lsl (q_lus ((if (w32 (q_lan (q_lus b_0 52) 2047)) = 0 then (q_lan b_0 4503599627370495) else (q_lor (q_lan b_0 4503599627370495) 4503599627370496)) * (σ kR_unit 0)) (-((if (w32 (q_lan (q_lus b_0 52) 2047)) = 0 then 1 else (q_lan (q_lus b_0 52) 2047)) - 1075))) (-((if (w32 (q_lan (q_lus b_0 52) 2047)) = 0 then 1 else (q_lan (q_lus b_0 52) 2047)) - 1075)))))) ∨ (((w64 (((if (w32 (q_lan (q_lus b_0 52) 2047)) = 0 then (q_lan b_0 4503599627370495) else (q_lor (q_lan b_0 4503599627370495) 4503599627370496)) * (σ kR_unit 0)) - (q_lsl (q_lus ((if (w32 (q_lan (q_lus b_0 52) 2047)) = 0 then (q_lan b_0 4503599627370495) else (q_lor (q_lan b_0 4503599627370495) 4503599627370496)) * (σ kR_unit 0)) (-((if (w32 (q_lan (q_lus b_0 52) 2047)) = 0 then 1 else (q_lan (q_lus b_0 52) 2047)) - 1075))) (-((if (w32 (q_lan (q_lus b_0 52) 2047)) = 0 then 1 else (q_lan (q_lus b_0 52) 2047)) - 1075))))) = (w64 (q_lsl 1 ((-((if (w32 (q_lan (q_lus b_0 52) 2047)) = 0 then 1 else (q_lan (q_lus b_0 52) 2047)) - 1075)) - 1)))) ∧ ((w64 (q_lan (q_lus ((if (w32 (q_lan (q_lus b_0 52) 2047)) = 0 then (q_lan b_0 4503599627370495) else (q_lor (q_lan b_0 4503599627370495) 4503599627370496)) * (σ kR_unit 0)) (-((if (w32 (q_lan (q_lus b_0 52) 2047)) = 0 then 1 else (q_lan (q_lus b_0 52) 2047)) - 1075))) 1)) = 1)))))]) dX12_inUnits_139 (Nat.le_of_ble_eq_true rfl) rfl rfl ?_
              have J_9 : YY l E M_X12_inUnits 1 0 0 (pS (some (vl r)) σ) 170 [some (vr 277), some (vl b_0), none, some (vi (q_lan (q_lus b_0 52) 2047)), some (vl (q_lan b_0 4503599627370495)), none, some (vl ((if (w32 (q_lan (q_lus b_0 52) 2047)) = 0 then (q_lan b_0 4503599627370495) else (q_lor (q_lan b_0 4503599627370495) 4503599627370496)) * (σ kR_unit 0))), none, some (vi ((if (w32 (q_lan (q_lus b_0 52) 2047)) = 0 then 1 else (q_lan (q_lus b_0 52) 2047)) - 1075)), some (vl (q_lus ((if (w32 (q_lan (q_lus b_0 52) 2047)) = 0 then (q_lan b_0 4503599627370495) else (q_lor (q_lan b_0 4503599627370495) 4503599627370496)) * (σ kR_unit 0)) (-((if (w32 (q_lan (q_lus b_0 52) 2047)) = 0 then 1 else (q_lan (q_lus b_0 52) 2047)) - 1075)))), none, some (vl (((if (w32 (q_lan (q_lus b_0 52) 2047)) = 0 then (q_lan b_0 4503599627370495) else (q_lor (q_lan b_0 4503599627370495) 4503599627370496)) * (σ kR_unit 0)) - (q_lsl (q_lus ((if (w32 (q_lan (q_lus b_0 52) 2047)) = 0 then (q_lan b_0 4503599627370495) else (q_lor (q_lan b_0 4503599627370495) 4503599627370496)) * (σ kR_unit 0)) (-((if (w32 (q_lan (q_lus b_0 52) 2047)) = 0 then 1 else (q_lan (q_lus b_0 52) 2047)) - 1075))) (-((if (w32 (q_lan (q_lus b_0 52) 2047)) = 0 then 1 else (q_lan (q_lus b_0 52) 2047)) - 1075))))), none, some (vl (q_lsl 1 ((-((if (w32 (q_lan (q_lus b_0 52) 2047)) = 0 then 1 else (q_lan (q_lus b_0 52) 2047)) - 1075)) - 1))), none, some (zv (decide (((w64 (q_lsl 1 ((-((if (w32 (q_lan (q_lus b_0 52) 2047)) = 0 then 1 else (q_lan (q_lus b_0 52) 2047)) - 1075)) - 1))) < (w64 (((if (w32 (q_lan (q_lus b_0 52) 2047)) = 0 then (q_lan b_0 4503599627370495) else (q_lor (q_lan b_0 4503599627370495) 4503599627370496)) * (σ kR_unit 0)) - (q_lsl (q_lus ((if (w32 (q_lan (q_lus b_0 52) 2047)) = 0 then (q_lan b_0 4503599627370495) else (q_lor (q_lan b_0 4503599627370495) 4503599627370496)) * (σ kR_unit 0)) (-((if (w32 (q_lan (q_lus b_0 52) 2047)) = 0 then 1 else (q_lan (q_lus b_0 52) 2047)) - 1075))) (-((if (w32 (q_lan (q_lus b_0 52) 2047)) = 0 then 1 else (q_lan (q_lus b_0 52) 2047)) - 1075)))))) ∨ (((w64 (((if (w32 (q_lan (q_lus b_0 52) 2047)) = 0 then (q_lan b_0 4503599627370495) else (q_lor (q_lan b_0 4503599627370495) 4503599627370496)) * (σ kR_unit 0)) - (q_lsl (q_lus ((if (w32 (q_lan (q_lus b_0 52) 2047)) = 0 then (q_lan b_0 4503599627370495) else (q_lor (q_lan b_0 4503599627370495) 4503599627370496)) * (σ kR_unit 0)) (-((if (w32 (q_lan (q_lus b_0 52) 2047)) = 0 then 1 else (q_lan (q_lus b_0 52) 2047)) - 1075))) (-((if (w32 (q_lan (q_lus b_0 52) 2047)) = 0 then 1 else (q_lan (q_lus b_0 52) 2047)) - 1075))))) = (w64 (q_lsl 1 ((-((if (w32 (q_lan (q_lus b_0 52) 2047)) = 0 then 1 else (q_lan (q_lus b_0 52) 2047)) - 1075)) - 1)))) ∧ ((w64 (q_lan (q_lus ((if (w32 (q_lan (q_lus b_0 52) 2047)) = 0 then (q_lan b_0 4503599627370495) else (q_lor (q_lan b_0 4503599627370495) 4503599627370496)) * (σ kR_unit 0)) (-((if (w32 (q_lan (q_lus b_0 52) 2047)) = 0 then 1 else (q_lan (q_lus b_0 52) 2047)) - 1075))) 1)) = 1)))))] [vl (if 4000000000 ≤ (w64 (q_lus ((if (w32 (q_lan (q_lus b_0 52) 2047)) = 0 then (q_lan b_0 4503599627370495) else (q_lor (q_lan b_0 4503599627370495) 4503599627370496)) * (σ kR_unit 0)) (-((if (w32 (q_lan (q_lus b_0 52) 2047)) = 0 then 1 else (q_lan (q_lus b_0 52) 2047)) - 1075)))) then 4000000000 else (if (decide (((w64 (q_lsl 1 ((-((if (w32 (q_lan (q_lus b_0 52) 2047)) = 0 then 1 else (q_lan (q_lus b_0 52) 2047)) - 1075)) - 1))) < (w64 (((if (w32 (q_lan (q_lus b_0 52) 2047)) = 0 then (q_lan b_0 4503599627370495) else (q_lor (q_lan b_0 4503599627370495) 4503599627370496)) * (σ kR_unit 0)) - (q_lsl (q_lus ((if (w32 (q_lan (q_lus b_0 52) 2047)) = 0 then (q_lan b_0 4503599627370495) else (q_lor (q_lan b_0 4503599627370495) 4503599627370496)) * (σ kR_unit 0)) (-((if (w32 (q_lan (q_lus b_0 52) 2047)) = 0 then 1 else (q_lan (q_lus b_0 52) 2047)) - 1075))) (-((if (w32 (q_lan (q_lus b_0 52) 2047)) = 0 then 1 else (q_lan (q_lus b_0 52) 2047)) - 1075)))))) ∨ (((w64 (((if (w32 (q_lan (q_lus b_0 52) 2047)) = 0 then (q_lan b_0 4503599627370495) else (q_lor (q_lan b_0 4503599627370495) 4503599627370496)) * (σ kR_unit 0)) - (q_lsl (q_lus ((if (w32 (q_lan (q_lus b_0 52) 2047)) = 0 then (q_lan b_0 4503599627370495) else (q_lor (q_lan b_0 4503599627370495) 4503599627370496)) * (σ kR_unit 0)) (-((if (w32 (q_lan (q_lus b_0 52) 2047)) = 0 then 1 else (q_lan (q_lus b_0 52) 2047)) - 1075))) (-((if (w32 (q_lan (q_lus b_0 52) 2047)) = 0 then 1 else (q_lan (q_lus b_0 52) 2047)) - 1075))))) = (w64 (q_lsl 1 ((-((if (w32 (q_lan (q_lus b_0 52) 2047)) = 0 then 1 else (q_lan (q_lus b_0 52) 2047)) - 1075)) - 1)))) ∧ ((w64 (q_lan (q_lus ((if (w32 (q_lan (q_lus b_0 52) 2047)) = 0 then (q_lan b_0 4503599627370495) else (q_lor (q_lan b_0 4503599627370495) 4503599627370496)) * (σ kR_unit 0)) (-((if (w32 (q_lan (q_lus b_0 52) 2047)) = 0 then 1 else (q_lan (q_lus b_0 52) 2047)) - 1075))) 1)) = 1)))) = true then ((q_lus ((if (w32 (q_lan (q_lus b_0 52) 2047)) = 0 then (q_lan b_0 4503599627370495) else (q_lor (q_lan b_0 4503599627370495) 4503599627370496)) * (σ kR_unit 0)) (-((if (w32 (q_lan (q_lus b_0 52) 2047)) = 0 then 1 else (q_lan (q_lus b_0 52) 2047)) - 1075))) + 1) else (q_lus ((if (w32 (q_lan (q_lus b_0 52) 2047)) = 0 then (q_lan b_0 4503599627370495) else (q_lor (q_lan b_0 4503599627370495) 4503599627370496)) * (σ kR_unit 0)) (-((if (w32 (q_lan (q_lus b_0 52) 2047)) = 0 then 1 else (q_lan (q_lus b_0 52) 2047)) - 1075)))))] σ 0 0 := by
                cases H
                exact z_lret (M := M_X12_inUnits) dX12_inUnits_170 rfl (Nat.le_of_ble_eq_true rfl) (Nat.le_of_ble_eq_true rfl) ⟨rfl, rfl⟩
              refine z_lload (M := M_X12_inUnits) dX12_inUnits_141 rfl ?_
              refine z_ldc2 (M := M_X12_inUnits) (n := 4000000000) dX12_inUnits_143 t_2936 (by decide +kernel) ?_
              refine z_lcmp (M := M_X12_inUnits) dX12_inUnits_146 ?_
              by_cases h_10 : 4000000000 ≤ (w64 (q_lus ((if (w32 (q_lan (q_lus b_0 52) 2047)) = 0 then (q_lan b_0 4503599627370495) else (q_lor (q_lan b_0 4503599627370495) 4503599627370496)) * (σ kR_unit 0)) (-((if (w32 (q_lan (q_lus b_0 52) 2047)) = 0 then 1 else (q_lan (q_lus b_0 52) 2047)) - 1075))))
              · refine z_lif_lt_f (M := M_X12_inUnits) (tgt := 156) dX12_inUnits_147 (by decide) rfl (by decide +kernel) h_10 ?_
                refine z_ldc2 (M := M_X12_inUnits) (n := 4000000000) dX12_inUnits_150 t_2936 (by decide +kernel) ?_
                refine z_goto (M := M_X12_inUnits) (tgt := 170) dX12_inUnits_153 (by decide) ?_
                exact z_st (by rw [if_pos (c := 4000000000 ≤ (w64 (q_lus ((if (w32 (q_lan (q_lus b_0 52) 2047)) = 0 then (q_lan b_0 4503599627370495) else (q_lor (q_lan b_0 4503599627370495) 4503599627370496)) * (σ kR_unit 0)) (-((if (w32 (q_lan (q_lus b_0 52) 2047)) = 0 then 1 else (q_lan (q_lus b_0 52) 2047)) - 1075))))) h_10]) J_9
              · refine z_lif_lt_t (M := M_X12_inUnits) (tgt := 156) dX12_inUnits_147 (by decide) rfl (by decide +kernel) (Int.not_le.mp h_10) ?_
                have J_11 : YY l E M_X12_inUnits 1 0 0 (pS (some (vl r)) σ) 170 [some (vr 277), some (vl b_0), none, some (vi (q_lan (q_lus b_0 52) 2047)), some (vl (q_lan b_0 4503599627370495)), none, some (vl ((if (w32 (q_lan (q_lus b_0 52) 2047)) = 0 then (q_lan b_0 4503599627370495) else (q_lor (q_lan b_0 4503599627370495) 4503599627370496)) * (σ kR_unit 0))), none, some (vi ((if (w32 (q_lan (q_lus b_0 52) 2047)) = 0 then 1 else (q_lan (q_lus b_0 52) 2047)) - 1075)), some (vl (q_lus ((if (w32 (q_lan (q_lus b_0 52) 2047)) = 0 then (q_lan b_0 4503599627370495) else (q_lor (q_lan b_0 4503599627370495) 4503599627370496)) * (σ kR_unit 0)) (-((if (w32 (q_lan (q_lus b_0 52) 2047)) = 0 then 1 else (q_lan (q_lus b_0 52) 2047)) - 1075)))), none, some (vl (((if (w32 (q_lan (q_lus b_0 52) 2047)) = 0 then (q_lan b_0 4503599627370495) else (q_lor (q_lan b_0 4503599627370495) 4503599627370496)) * (σ kR_unit 0)) - (q_lsl (q_lus ((if (w32 (q_lan (q_lus b_0 52) 2047)) = 0 then (q_lan b_0 4503599627370495) else (q_lor (q_lan b_0 4503599627370495) 4503599627370496)) * (σ kR_unit 0)) (-((if (w32 (q_lan (q_lus b_0 52) 2047)) = 0 then 1 else (q_lan (q_lus b_0 52) 2047)) - 1075))) (-((if (w32 (q_lan (q_lus b_0 52) 2047)) = 0 then 1 else (q_lan (q_lus b_0 52) 2047)) - 1075))))), none, some (vl (q_lsl 1 ((-((if (w32 (q_lan (q_lus b_0 52) 2047)) = 0 then 1 else (q_lan (q_lus b_0 52) 2047)) - 1075)) - 1))), none, some (zv (decide (((w64 (q_lsl 1 ((-((if (w32 (q_lan (q_lus b_0 52) 2047)) = 0 then 1 else (q_lan (q_lus b_0 52) 2047)) - 1075)) - 1))) < (w64 (((if (w32 (q_lan (q_lus b_0 52) 2047)) = 0 then (q_lan b_0 4503599627370495) else (q_lor (q_lan b_0 4503599627370495) 4503599627370496)) * (σ kR_unit 0)) - (q_lsl (q_lus ((if (w32 (q_lan (q_lus b_0 52) 2047)) = 0 then (q_lan b_0 4503599627370495) else (q_lor (q_lan b_0 4503599627370495) 4503599627370496)) * (σ kR_unit 0)) (-((if (w32 (q_lan (q_lus b_0 52) 2047)) = 0 then 1 else (q_lan (q_lus b_0 52) 2047)) - 1075))) (-((if (w32 (q_lan (q_lus b_0 52) 2047)) = 0 then 1 else (q_lan (q_lus b_0 52) 2047)) - 1075)))))) ∨ (((w64 (((if (w32 (q_lan (q_lus b_0 52) 2047)) = 0 then (q_lan b_0 4503599627370495) else (q_lor (q_lan b_0 4503599627370495) 4503599627370496)) * (σ kR_unit 0)) - (q_lsl (q_lus ((if (w32 (q_lan (q_lus b_0 52) 2047)) = 0 then (q_lan b_0 4503599627370495) else (q_lor (q_lan b_0 4503599627370495) 4503599627370496)) * (σ kR_unit 0)) (-((if (w32 (q_lan (q_lus b_0 52) 2047)) = 0 then 1 else (q_lan (q_lus b_0 52) 2047)) - 1075))) (-((if (w32 (q_lan (q_lus b_0 52) 2047)) = 0 then 1 else (q_lan (q_lus b_0 52) 2047)) - 1075))))) = (w64 (q_lsl 1 ((-((if (w32 (q_lan (q_lus b_0 52) 2047)) = 0 then 1 else (q_lan (q_lus b_0 52) 2047)) - 1075)) - 1)))) ∧ ((w64 (q_lan (q_lus ((if (w32 (q_lan (q_lus b_0 52) 2047)) = 0 then (q_lan b_0 4503599627370495) else (q_lor (q_lan b_0 4503599627370495) 4503599627370496)) * (σ kR_unit 0)) (-((if (w32 (q_lan (q_lus b_0 52) 2047)) = 0 then 1 else (q_lan (q_lus b_0 52) 2047)) - 1075))) 1)) = 1)))))] [vl (if (decide (((w64 (q_lsl 1 ((-((if (w32 (q_lan (q_lus b_0 52) 2047)) = 0 then 1 else (q_lan (q_lus b_0 52) 2047)) - 1075)) - 1))) < (w64 (((if (w32 (q_lan (q_lus b_0 52) 2047)) = 0 then (q_lan b_0 4503599627370495) else (q_lor (q_lan b_0 4503599627370495) 4503599627370496)) * (σ kR_unit 0)) - (q_lsl (q_lus ((if (w32 (q_lan (q_lus b_0 52) 2047)) = 0 then (q_lan b_0 4503599627370495) else (q_lor (q_lan b_0 4503599627370495) 4503599627370496)) * (σ kR_unit 0)) (-((if (w32 (q_lan (q_lus b_0 52) 2047)) = 0 then 1 else (q_lan (q_lus b_0 52) 2047)) - 1075))) (-((if (w32 (q_lan (q_lus b_0 52) 2047)) = 0 then 1 else (q_lan (q_lus b_0 52) 2047)) - 1075)))))) ∨ (((w64 (((if (w32 (q_lan (q_lus b_0 52) 2047)) = 0 then (q_lan b_0 4503599627370495) else (q_lor (q_lan b_0 4503599627370495) 4503599627370496)) * (σ kR_unit 0)) - (q_lsl (q_lus ((if (w32 (q_lan (q_lus b_0 52) 2047)) = 0 then (q_lan b_0 4503599627370495) else (q_lor (q_lan b_0 4503599627370495) 4503599627370496)) * (σ kR_unit 0)) (-((if (w32 (q_lan (q_lus b_0 52) 2047)) = 0 then 1 else (q_lan (q_lus b_0 52) 2047)) - 1075))) (-((if (w32 (q_lan (q_lus b_0 52) 2047)) = 0 then 1 else (q_lan (q_lus b_0 52) 2047)) - 1075))))) = (w64 (q_lsl 1 ((-((if (w32 (q_lan (q_lus b_0 52) 2047)) = 0 then 1 else (q_lan (q_lus b_0 52) 2047)) - 1075)) - 1)))) ∧ ((w64 (q_lan (q_lus ((if (w32 (q_lan (q_lus b_0 52) 2047)) = 0 then (q_lan b_0 4503599627370495) else (q_lor (q_lan b_0 4503599627370495) 4503599627370496)) * (σ kR_unit 0)) (-((if (w32 (q_lan (q_lus b_0 52) 2047)) = 0 then 1 else (q_lan (q_lus b_0 52) 2047)) - 1075))) 1)) = 1)))) = true then ((q_lus ((if (w32 (q_lan (q_lus b_0 52) 2047)) = 0 then (q_lan b_0 4503599627370495) else (q_lor (q_lan b_0 4503599627370495) 4503599627370496)) * (σ kR_unit 0)) (-((if (w32 (q_lan (q_lus b_0 52) 2047)) = 0 then 1 else (q_lan (q_lus b_0 52) 2047)) - 1075))) + 1) else (q_lus ((if (w32 (q_lan (q_lus b_0 52) 2047)) = 0 then (q_lan b_0 4503599627370495) else (q_lor (q_lan b_0 4503599627370495) 4503599627370496)) * (σ kR_unit 0)) (-((if (w32 (q_lan (q_lus b_0 52) 2047)) = 0 then 1 else (q_lan (q_lus b_0 52) 2047)) - 1075))))] σ 0 0 := by
                  exact z_st (by rw [if_neg (c := 4000000000 ≤ (w64 (q_lus ((if (w32 (q_lan (q_lus b_0 52) 2047)) = 0 then (q_lan b_0 4503599627370495) else (q_lor (q_lan b_0 4503599627370495) 4503599627370496)) * (σ kR_unit 0)) (-((if (w32 (q_lan (q_lus b_0 52) 2047)) = 0 then 1 else (q_lan (q_lus b_0 52) 2047)) - 1075))))) h_10]) J_9
                refine z_zload (M := M_X12_inUnits) dX12_inUnits_156 rfl ?_
                by_cases h_12 : (decide (((w64 (q_lsl 1 ((-((if (w32 (q_lan (q_lus b_0 52) 2047)) = 0 then 1 else (q_lan (q_lus b_0 52) 2047)) - 1075)) - 1))) < (w64 (((if (w32 (q_lan (q_lus b_0 52) 2047)) = 0 then (q_lan b_0 4503599627370495) else (q_lor (q_lan b_0 4503599627370495) 4503599627370496)) * (σ kR_unit 0)) - (q_lsl (q_lus ((if (w32 (q_lan (q_lus b_0 52) 2047)) = 0 then (q_lan b_0 4503599627370495) else (q_lor (q_lan b_0 4503599627370495) 4503599627370496)) * (σ kR_unit 0)) (-((if (w32 (q_lan (q_lus b_0 52) 2047)) = 0 then 1 else (q_lan (q_lus b_0 52) 2047)) - 1075))) (-((if (w32 (q_lan (q_lus b_0 52) 2047)) = 0 then 1 else (q_lan (q_lus b_0 52) 2047)) - 1075)))))) ∨ (((w64 (((if (w32 (q_lan (q_lus b_0 52) 2047)) = 0 then (q_lan b_0 4503599627370495) else (q_lor (q_lan b_0 4503599627370495) 4503599627370496)) * (σ kR_unit 0)) - (q_lsl (q_lus ((if (w32 (q_lan (q_lus b_0 52) 2047)) = 0 then (q_lan b_0 4503599627370495) else (q_lor (q_lan b_0 4503599627370495) 4503599627370496)) * (σ kR_unit 0)) (-((if (w32 (q_lan (q_lus b_0 52) 2047)) = 0 then 1 else (q_lan (q_lus b_0 52) 2047)) - 1075))) (-((if (w32 (q_lan (q_lus b_0 52) 2047)) = 0 then 1 else (q_lan (q_lus b_0 52) 2047)) - 1075))))) = (w64 (q_lsl 1 ((-((if (w32 (q_lan (q_lus b_0 52) 2047)) = 0 then 1 else (q_lan (q_lus b_0 52) 2047)) - 1075)) - 1)))) ∧ ((w64 (q_lan (q_lus ((if (w32 (q_lan (q_lus b_0 52) 2047)) = 0 then (q_lan b_0 4503599627370495) else (q_lor (q_lan b_0 4503599627370495) 4503599627370496)) * (σ kR_unit 0)) (-((if (w32 (q_lan (q_lus b_0 52) 2047)) = 0 then 1 else (q_lan (q_lus b_0 52) 2047)) - 1075))) 1)) = 1)))) = true
                · refine z_zeq_f (M := M_X12_inUnits) (tgt := 168) dX12_inUnits_158 (by decide) h_12 ?_
                  refine z_lload (M := M_X12_inUnits) dX12_inUnits_161 rfl ?_
                  refine z_lconst (M := M_X12_inUnits) (m := 1) dX12_inUnits_163 (by decide +kernel) ?_
                  refine z_ladd (M := M_X12_inUnits) dX12_inUnits_164 ?_
                  refine z_goto (M := M_X12_inUnits) (tgt := 170) dX12_inUnits_165 (by decide) ?_
                  exact z_st (by rw [if_pos (c := (decide (((w64 (q_lsl 1 ((-((if (w32 (q_lan (q_lus b_0 52) 2047)) = 0 then 1 else (q_lan (q_lus b_0 52) 2047)) - 1075)) - 1))) < (w64 (((if (w32 (q_lan (q_lus b_0 52) 2047)) = 0 then (q_lan b_0 4503599627370495) else (q_lor (q_lan b_0 4503599627370495) 4503599627370496)) * (σ kR_unit 0)) - (q_lsl (q_lus ((if (w32 (q_lan (q_lus b_0 52) 2047)) = 0 then (q_lan b_0 4503599627370495) else (q_lor (q_lan b_0 4503599627370495) 4503599627370496)) * (σ kR_unit 0)) (-((if (w32 (q_lan (q_lus b_0 52) 2047)) = 0 then 1 else (q_lan (q_lus b_0 52) 2047)) - 1075))) (-((if (w32 (q_lan (q_lus b_0 52) 2047)) = 0 then 1 else (q_lan (q_lus b_0 52) 2047)) - 1075)))))) ∨ (((w64 (((if (w32 (q_lan (q_lus b_0 52) 2047)) = 0 then (q_lan b_0 4503599627370495) else (q_lor (q_lan b_0 4503599627370495) 4503599627370496)) * (σ kR_unit 0)) - (q_lsl (q_lus ((if (w32 (q_lan (q_lus b_0 52) 2047)) = 0 then (q_lan b_0 4503599627370495) else (q_lor (q_lan b_0 4503599627370495) 4503599627370496)) * (σ kR_unit 0)) (-((if (w32 (q_lan (q_lus b_0 52) 2047)) = 0 then 1 else (q_lan (q_lus b_0 52) 2047)) - 1075))) (-((if (w32 (q_lan (q_lus b_0 52) 2047)) = 0 then 1 else (q_lan (q_lus b_0 52) 2047)) - 1075))))) = (w64 (q_lsl 1 ((-((if (w32 (q_lan (q_lus b_0 52) 2047)) = 0 then 1 else (q_lan (q_lus b_0 52) 2047)) - 1075)) - 1)))) ∧ ((w64 (q_lan (q_lus ((if (w32 (q_lan (q_lus b_0 52) 2047)) = 0 then (q_lan b_0 4503599627370495) else (q_lor (q_lan b_0 4503599627370495) 4503599627370496)) * (σ kR_unit 0)) (-((if (w32 (q_lan (q_lus b_0 52) 2047)) = 0 then 1 else (q_lan (q_lus b_0 52) 2047)) - 1075))) 1)) = 1)))) = true) h_12]) J_11
                · refine z_zeq_t (M := M_X12_inUnits) (tgt := 168) dX12_inUnits_158 (by decide) h_12 ?_
                  refine z_lload (M := M_X12_inUnits) dX12_inUnits_168 rfl ?_
                  exact z_st (by rw [if_neg (c := (decide (((w64 (q_lsl 1 ((-((if (w32 (q_lan (q_lus b_0 52) 2047)) = 0 then 1 else (q_lan (q_lus b_0 52) 2047)) - 1075)) - 1))) < (w64 (((if (w32 (q_lan (q_lus b_0 52) 2047)) = 0 then (q_lan b_0 4503599627370495) else (q_lor (q_lan b_0 4503599627370495) 4503599627370496)) * (σ kR_unit 0)) - (q_lsl (q_lus ((if (w32 (q_lan (q_lus b_0 52) 2047)) = 0 then (q_lan b_0 4503599627370495) else (q_lor (q_lan b_0 4503599627370495) 4503599627370496)) * (σ kR_unit 0)) (-((if (w32 (q_lan (q_lus b_0 52) 2047)) = 0 then 1 else (q_lan (q_lus b_0 52) 2047)) - 1075))) (-((if (w32 (q_lan (q_lus b_0 52) 2047)) = 0 then 1 else (q_lan (q_lus b_0 52) 2047)) - 1075)))))) ∨ (((w64 (((if (w32 (q_lan (q_lus b_0 52) 2047)) = 0 then (q_lan b_0 4503599627370495) else (q_lor (q_lan b_0 4503599627370495) 4503599627370496)) * (σ kR_unit 0)) - (q_lsl (q_lus ((if (w32 (q_lan (q_lus b_0 52) 2047)) = 0 then (q_lan b_0 4503599627370495) else (q_lor (q_lan b_0 4503599627370495) 4503599627370496)) * (σ kR_unit 0)) (-((if (w32 (q_lan (q_lus b_0 52) 2047)) = 0 then 1 else (q_lan (q_lus b_0 52) 2047)) - 1075))) (-((if (w32 (q_lan (q_lus b_0 52) 2047)) = 0 then 1 else (q_lan (q_lus b_0 52) 2047)) - 1075))))) = (w64 (q_lsl 1 ((-((if (w32 (q_lan (q_lus b_0 52) 2047)) = 0 then 1 else (q_lan (q_lus b_0 52) 2047)) - 1075)) - 1)))) ∧ ((w64 (q_lan (q_lus ((if (w32 (q_lan (q_lus b_0 52) 2047)) = 0 then (q_lan b_0 4503599627370495) else (q_lor (q_lan b_0 4503599627370495) 4503599627370496)) * (σ kR_unit 0)) (-((if (w32 (q_lan (q_lus b_0 52) 2047)) = 0 then 1 else (q_lan (q_lus b_0 52) 2047)) - 1075))) 1)) = 1)))) = true) h_12]) J_11
            refine z_lload (M := M_X12_inUnits) dX12_inUnits_109 rfl ?_
            refine z_lload (M := M_X12_inUnits) dX12_inUnits_111 rfl ?_
            refine z_lcmp (M := M_X12_inUnits) dX12_inUnits_113 ?_
            by_cases h_13 : (w64 (q_lsl 1 ((-((if (w32 (q_lan (q_lus b_0 52) 2047)) = 0 then 1 else (q_lan (q_lus b_0 52) 2047)) - 1075)) - 1))) < (w64 (((if (w32 (q_lan (q_lus b_0 52) 2047)) = 0 then (q_lan b_0 4503599627370495) else (q_lor (q_lan b_0 4503599627370495) 4503599627370496)) * (σ kR_unit 0)) - (q_lsl (q_lus ((if (w32 (q_lan (q_lus b_0 52) 2047)) = 0 then (q_lan b_0 4503599627370495) else (q_lor (q_lan b_0 4503599627370495) 4503599627370496)) * (σ kR_unit 0)) (-((if (w32 (q_lan (q_lus b_0 52) 2047)) = 0 then 1 else (q_lan (q_lus b_0 52) 2047)) - 1075))) (-((if (w32 (q_lan (q_lus b_0 52) 2047)) = 0 then 1 else (q_lan (q_lus b_0 52) 2047)) - 1075)))))
            · refine z_lif_gt_t (M := M_X12_inUnits) (tgt := 134) dX12_inUnits_114 (by decide) rfl rfl h_13 ?_
              refine z_iconst (M := M_X12_inUnits) dX12_inUnits_134 ?_
              refine z_goto (M := M_X12_inUnits) (tgt := 139) dX12_inUnits_135 (by decide) ?_
              exact z_st (by rw [zv_t (p := ((w64 (q_lsl 1 ((-((if (w32 (q_lan (q_lus b_0 52) 2047)) = 0 then 1 else (q_lan (q_lus b_0 52) 2047)) - 1075)) - 1))) < (w64 (((if (w32 (q_lan (q_lus b_0 52) 2047)) = 0 then (q_lan b_0 4503599627370495) else (q_lor (q_lan b_0 4503599627370495) 4503599627370496)) * (σ kR_unit 0)) - (q_lsl (q_lus ((if (w32 (q_lan (q_lus b_0 52) 2047)) = 0 then (q_lan b_0 4503599627370495) else (q_lor (q_lan b_0 4503599627370495) 4503599627370496)) * (σ kR_unit 0)) (-((if (w32 (q_lan (q_lus b_0 52) 2047)) = 0 then 1 else (q_lan (q_lus b_0 52) 2047)) - 1075))) (-((if (w32 (q_lan (q_lus b_0 52) 2047)) = 0 then 1 else (q_lan (q_lus b_0 52) 2047)) - 1075)))))) ∨ (((w64 (((if (w32 (q_lan (q_lus b_0 52) 2047)) = 0 then (q_lan b_0 4503599627370495) else (q_lor (q_lan b_0 4503599627370495) 4503599627370496)) * (σ kR_unit 0)) - (q_lsl (q_lus ((if (w32 (q_lan (q_lus b_0 52) 2047)) = 0 then (q_lan b_0 4503599627370495) else (q_lor (q_lan b_0 4503599627370495) 4503599627370496)) * (σ kR_unit 0)) (-((if (w32 (q_lan (q_lus b_0 52) 2047)) = 0 then 1 else (q_lan (q_lus b_0 52) 2047)) - 1075))) (-((if (w32 (q_lan (q_lus b_0 52) 2047)) = 0 then 1 else (q_lan (q_lus b_0 52) 2047)) - 1075))))) = (w64 (q_lsl 1 ((-((if (w32 (q_lan (q_lus b_0 52) 2047)) = 0 then 1 else (q_lan (q_lus b_0 52) 2047)) - 1075)) - 1)))) ∧ ((w64 (q_lan (q_lus ((if (w32 (q_lan (q_lus b_0 52) 2047)) = 0 then (q_lan b_0 4503599627370495) else (q_lor (q_lan b_0 4503599627370495) 4503599627370496)) * (σ kR_unit 0)) (-((if (w32 (q_lan (q_lus b_0 52) 2047)) = 0 then 1 else (q_lan (q_lus b_0 52) 2047)) - 1075))) 1)) = 1))) (Or.inl h_13)]) J_6
            · refine z_lif_gt_f (M := M_X12_inUnits) (tgt := 134) dX12_inUnits_114 (by decide) rfl rfl (Int.not_lt.mp h_13) ?_
              refine z_lload (M := M_X12_inUnits) dX12_inUnits_117 rfl ?_
              refine z_lload (M := M_X12_inUnits) dX12_inUnits_119 rfl ?_
              refine z_lcmp (M := M_X12_inUnits) dX12_inUnits_121 ?_
              by_cases h_14 : (w64 (((if (w32 (q_lan (q_lus b_0 52) 2047)) = 0 then (q_lan b_0 4503599627370495) else (q_lor (q_lan b_0 4503599627370495) 4503599627370496)) * (σ kR_unit 0)) - (q_lsl (q_lus ((if (w32 (q_lan (q_lus b_0 52) 2047)) = 0 then (q_lan b_0 4503599627370495) else (q_lor (q_lan b_0 4503599627370495) 4503599627370496)) * (σ kR_unit 0)) (-((if (w32 (q_lan (q_lus b_0 52) 2047)) = 0 then 1 else (q_lan (q_lus b_0 52) 2047)) - 1075))) (-((if (w32 (q_lan (q_lus b_0 52) 2047)) = 0 then 1 else (q_lan (q_lus b_0 52) 2047)) - 1075))))) = (w64 (q_lsl 1 ((-((if (w32 (q_lan (q_lus b_0 52) 2047)) = 0 then 1 else (q_lan (q_lus b_0 52) 2047)) - 1075)) - 1)))
              · refine z_lif_ne_f (M := M_X12_inUnits) (tgt := 138) dX12_inUnits_122 (by decide) rfl rfl h_14 ?_
                refine z_lload (M := M_X12_inUnits) dX12_inUnits_125 rfl ?_
                refine z_lconst (M := M_X12_inUnits) (m := 1) dX12_inUnits_127 (by decide +kernel) ?_
                refine z_land (M := M_X12_inUnits) dX12_inUnits_128 ?_
                refine z_lconst (M := M_X12_inUnits) (m := 1) dX12_inUnits_129 (by decide +kernel) ?_
                refine z_lcmp (M := M_X12_inUnits) dX12_inUnits_130 ?_
                by_cases h_15 : (w64 (q_lan (q_lus ((if (w32 (q_lan (q_lus b_0 52) 2047)) = 0 then (q_lan b_0 4503599627370495) else (q_lor (q_lan b_0 4503599627370495) 4503599627370496)) * (σ kR_unit 0)) (-((if (w32 (q_lan (q_lus b_0 52) 2047)) = 0 then 1 else (q_lan (q_lus b_0 52) 2047)) - 1075))) 1)) = 1
                · refine z_lif_ne_f (M := M_X12_inUnits) (tgt := 138) dX12_inUnits_131 (by decide) rfl (by decide +kernel) h_15 ?_
                  refine z_iconst (M := M_X12_inUnits) dX12_inUnits_134 ?_
                  refine z_goto (M := M_X12_inUnits) (tgt := 139) dX12_inUnits_135 (by decide) ?_
                  exact z_st (by rw [zv_t (p := ((w64 (q_lsl 1 ((-((if (w32 (q_lan (q_lus b_0 52) 2047)) = 0 then 1 else (q_lan (q_lus b_0 52) 2047)) - 1075)) - 1))) < (w64 (((if (w32 (q_lan (q_lus b_0 52) 2047)) = 0 then (q_lan b_0 4503599627370495) else (q_lor (q_lan b_0 4503599627370495) 4503599627370496)) * (σ kR_unit 0)) - (q_lsl (q_lus ((if (w32 (q_lan (q_lus b_0 52) 2047)) = 0 then (q_lan b_0 4503599627370495) else (q_lor (q_lan b_0 4503599627370495) 4503599627370496)) * (σ kR_unit 0)) (-((if (w32 (q_lan (q_lus b_0 52) 2047)) = 0 then 1 else (q_lan (q_lus b_0 52) 2047)) - 1075))) (-((if (w32 (q_lan (q_lus b_0 52) 2047)) = 0 then 1 else (q_lan (q_lus b_0 52) 2047)) - 1075)))))) ∨ (((w64 (((if (w32 (q_lan (q_lus b_0 52) 2047)) = 0 then (q_lan b_0 4503599627370495) else (q_lor (q_lan b_0 4503599627370495) 4503599627370496)) * (σ kR_unit 0)) - (q_lsl (q_lus ((if (w32 (q_lan (q_lus b_0 52) 2047)) = 0 then (q_lan b_0 4503599627370495) else (q_lor (q_lan b_0 4503599627370495) 4503599627370496)) * (σ kR_unit 0)) (-((if (w32 (q_lan (q_lus b_0 52) 2047)) = 0 then 1 else (q_lan (q_lus b_0 52) 2047)) - 1075))) (-((if (w32 (q_lan (q_lus b_0 52) 2047)) = 0 then 1 else (q_lan (q_lus b_0 52) 2047)) - 1075))))) = (w64 (q_lsl 1 ((-((if (w32 (q_lan (q_lus b_0 52) 2047)) = 0 then 1 else (q_lan (q_lus b_0 52) 2047)) - 1075)) - 1)))) ∧ ((w64 (q_lan (q_lus ((if (w32 (q_lan (q_lus b_0 52) 2047)) = 0 then (q_lan b_0 4503599627370495) else (q_lor (q_lan b_0 4503599627370495) 4503599627370496)) * (σ kR_unit 0)) (-((if (w32 (q_lan (q_lus b_0 52) 2047)) = 0 then 1 else (q_lan (q_lus b_0 52) 2047)) - 1075))) 1)) = 1))) (Or.inr ⟨h_14, h_15⟩)]) J_6
                · refine z_lif_ne_t (M := M_X12_inUnits) (tgt := 138) dX12_inUnits_131 (by decide) rfl (by decide +kernel) h_15 ?_
                  refine z_iconst (M := M_X12_inUnits) dX12_inUnits_138 ?_
                  exact z_st (by rw [zv_f (p := ((w64 (q_lsl 1 ((-((if (w32 (q_lan (q_lus b_0 52) 2047)) = 0 then 1 else (q_lan (q_lus b_0 52) 2047)) - 1075)) - 1))) < (w64 (((if (w32 (q_lan (q_lus b_0 52) 2047)) = 0 then (q_lan b_0 4503599627370495) else (q_lor (q_lan b_0 4503599627370495) 4503599627370496)) * (σ kR_unit 0)) - (q_lsl (q_lus ((if (w32 (q_lan (q_lus b_0 52) 2047)) = 0 then (q_lan b_0 4503599627370495) else (q_lor (q_lan b_0 4503599627370495) 4503599627370496)) * (σ kR_unit 0)) (-((if (w32 (q_lan (q_lus b_0 52) 2047)) = 0 then 1 else (q_lan (q_lus b_0 52) 2047)) - 1075))) (-((if (w32 (q_lan (q_lus b_0 52) 2047)) = 0 then 1 else (q_lan (q_lus b_0 52) 2047)) - 1075)))))) ∨ (((w64 (((if (w32 (q_lan (q_lus b_0 52) 2047)) = 0 then (q_lan b_0 4503599627370495) else (q_lor (q_lan b_0 4503599627370495) 4503599627370496)) * (σ kR_unit 0)) - (q_lsl (q_lus ((if (w32 (q_lan (q_lus b_0 52) 2047)) = 0 then (q_lan b_0 4503599627370495) else (q_lor (q_lan b_0 4503599627370495) 4503599627370496)) * (σ kR_unit 0)) (-((if (w32 (q_lan (q_lus b_0 52) 2047)) = 0 then 1 else (q_lan (q_lus b_0 52) 2047)) - 1075))) (-((if (w32 (q_lan (q_lus b_0 52) 2047)) = 0 then 1 else (q_lan (q_lus b_0 52) 2047)) - 1075))))) = (w64 (q_lsl 1 ((-((if (w32 (q_lan (q_lus b_0 52) 2047)) = 0 then 1 else (q_lan (q_lus b_0 52) 2047)) - 1075)) - 1)))) ∧ ((w64 (q_lan (q_lus ((if (w32 (q_lan (q_lus b_0 52) 2047)) = 0 then (q_lan b_0 4503599627370495) else (q_lor (q_lan b_0 4503599627370495) 4503599627370496)) * (σ kR_unit 0)) (-((if (w32 (q_lan (q_lus b_0 52) 2047)) = 0 then 1 else (q_lan (q_lus b_0 52) 2047)) - 1075))) 1)) = 1))) (fun q => q.elim h_13 (fun q => h_15 q.2))]) J_6
              · refine z_lif_ne_t (M := M_X12_inUnits) (tgt := 138) dX12_inUnits_122 (by decide) rfl rfl h_14 ?_
                refine z_iconst (M := M_X12_inUnits) dX12_inUnits_138 ?_
                exact z_st (by rw [zv_f (p := ((w64 (q_lsl 1 ((-((if (w32 (q_lan (q_lus b_0 52) 2047)) = 0 then 1 else (q_lan (q_lus b_0 52) 2047)) - 1075)) - 1))) < (w64 (((if (w32 (q_lan (q_lus b_0 52) 2047)) = 0 then (q_lan b_0 4503599627370495) else (q_lor (q_lan b_0 4503599627370495) 4503599627370496)) * (σ kR_unit 0)) - (q_lsl (q_lus ((if (w32 (q_lan (q_lus b_0 52) 2047)) = 0 then (q_lan b_0 4503599627370495) else (q_lor (q_lan b_0 4503599627370495) 4503599627370496)) * (σ kR_unit 0)) (-((if (w32 (q_lan (q_lus b_0 52) 2047)) = 0 then 1 else (q_lan (q_lus b_0 52) 2047)) - 1075))) (-((if (w32 (q_lan (q_lus b_0 52) 2047)) = 0 then 1 else (q_lan (q_lus b_0 52) 2047)) - 1075)))))) ∨ (((w64 (((if (w32 (q_lan (q_lus b_0 52) 2047)) = 0 then (q_lan b_0 4503599627370495) else (q_lor (q_lan b_0 4503599627370495) 4503599627370496)) * (σ kR_unit 0)) - (q_lsl (q_lus ((if (w32 (q_lan (q_lus b_0 52) 2047)) = 0 then (q_lan b_0 4503599627370495) else (q_lor (q_lan b_0 4503599627370495) 4503599627370496)) * (σ kR_unit 0)) (-((if (w32 (q_lan (q_lus b_0 52) 2047)) = 0 then 1 else (q_lan (q_lus b_0 52) 2047)) - 1075))) (-((if (w32 (q_lan (q_lus b_0 52) 2047)) = 0 then 1 else (q_lan (q_lus b_0 52) 2047)) - 1075))))) = (w64 (q_lsl 1 ((-((if (w32 (q_lan (q_lus b_0 52) 2047)) = 0 then 1 else (q_lan (q_lus b_0 52) 2047)) - 1075)) - 1)))) ∧ ((w64 (q_lan (q_lus ((if (w32 (q_lan (q_lus b_0 52) 2047)) = 0 then (q_lan b_0 4503599627370495) else (q_lor (q_lan b_0 4503599627370495) 4503599627370496)) * (σ kR_unit 0)) (-((if (w32 (q_lan (q_lus b_0 52) 2047)) = 0 then 1 else (q_lan (q_lus b_0 52) 2047)) - 1075))) 1)) = 1))) (fun q => q.elim h_13 (fun q => h_14 q.1))]) J_6
    refine z_iload_n (M := M_X12_inUnits) dX12_inUnits_39 rfl ?_
    by_cases h_16 : (w32 (q_lan (q_lus b_0 52) 2047)) = 0
    · refine z_if_ne_f (M := M_X12_inUnits) (tgt := 47) dX12_inUnits_40 (by decide) rfl h_16 ?_
      refine z_iconst (M := M_X12_inUnits) dX12_inUnits_43 ?_
      refine z_goto (M := M_X12_inUnits) (tgt := 48) dX12_inUnits_44 (by decide) ?_
      exact z_st (by rw [if_pos (c := (w32 (q_lan (q_lus b_0 52) 2047)) = 0) h_16]) J_2
    · refine z_if_ne_t (M := M_X12_inUnits) (tgt := 47) dX12_inUnits_40 (by decide) rfl h_16 ?_
      refine z_iload_n (M := M_X12_inUnits) dX12_inUnits_47 rfl ?_
      exact z_st (by rw [if_neg (c := (w32 (q_lan (q_lus b_0 52) 2047)) = 0) h_16]) J_2
  refine z_iload_n (M := M_X12_inUnits) dX12_inUnits_17 rfl ?_
  by_cases h_17 : (w32 (q_lan (q_lus b_0 52) 2047)) = 0
  · refine z_if_ne_f (M := M_X12_inUnits) (tgt := 26) dX12_inUnits_18 (by decide) rfl h_17 ?_
    refine z_lload (M := M_X12_inUnits) dX12_inUnits_21 rfl ?_
    refine z_goto (M := M_X12_inUnits) (tgt := 32) dX12_inUnits_23 (by decide) ?_
    exact z_st (by rw [if_pos (c := (w32 (q_lan (q_lus b_0 52) 2047)) = 0) h_17]) J_1
  · refine z_if_ne_t (M := M_X12_inUnits) (tgt := 26) dX12_inUnits_18 (by decide) rfl h_17 ?_
    refine z_lload (M := M_X12_inUnits) dX12_inUnits_26 rfl ?_
    refine z_ldc2 (M := M_X12_inUnits) (n := 4503599627370496) dX12_inUnits_28 t_3008 (by decide +kernel) ?_
    refine z_lor (M := M_X12_inUnits) dX12_inUnits_31 ?_
    exact z_st (by rw [if_neg (c := (w32 (q_lan (q_lus b_0 52) 2047)) = 0) h_17]) J_1
theorem c_X12_ordinateOfBytes (hl : l.stackTraces = false) {σ : SG} {r : Bool} {σ' : SG}  (H : fR_ordinateOfBytes σ = some (r, σ')) : en_S l E M_X12_ordinateOfBytes 2 0 0 [vr 277] σ (pS (some (zv r)) σ') := by
  unfold fR_ordinateOfBytes at H
  refine z_mk (lv := [some (vr 277), none, none, none, none]) m_X12_ordinateOfBytes rfl hl (Nat.le_of_ble_eq_true rfl) rfl ?_
  refine z_aload_n (M := M_X12_ordinateOfBytes) dX12_ordinateOfBytes_0 rfl ?_
  refine z_bipush (M := M_X12_ordinateOfBytes) dX12_ordinateOfBytes_1 (by decide +kernel) ?_
  refine z_callV (M := M_X12_ordinateOfBytes) (M' := M_X12_there) (as := [vi 8]) (rest := []) rfl rfl dX12_ordinateOfBytes_3 m_X12_there t_2974 t_2976 s_187 (c_X12_there hl  rfl) rfl rfl ly_277 rfl (Nat.le_of_ble_eq_true rfl) (Nat.le_of_ble_eq_true rfl) (Nat.le_of_ble_eq_true rfl) (Nat.le_of_ble_eq_true rfl) ?_
  refine z_st (st' := [zv (fR_there σ 8)]) rfl ?_
  rcases if_e H with ⟨h_1, H⟩ | ⟨h_1, H⟩
  · refine z_zne_t (M := M_X12_ordinateOfBytes) (tgt := 19) dX12_ordinateOfBytes_6 (by decide) h_1 ?_
    refine z_aload_n (M := M_X12_ordinateOfBytes) dX12_ordinateOfBytes_19 rfl ?_
    refine z_aload_n (M := M_X12_ordinateOfBytes) dX12_ordinateOfBytes_20 rfl ?_
    refine z_getI (M := M_X12_ordinateOfBytes) (ci := 15) (C := RX12) (T := TX12) (Nf := 135) (ty := tyX12) cl15 dX12_ordinateOfBytes_21 ly_277 17 (by decide) t_2408 rfl rfl ?_
    refine z_bipush (M := M_X12_ordinateOfBytes) dX12_ordinateOfBytes_24 (by decide +kernel) ?_
    obtain ⟨x_3, hc_2, H⟩ := bd_e H
    refine z_callV (M := M_X12_ordinateOfBytes) (M' := M_X12_whole) (as := [vi (σ kR_at 0), vi 8]) (rest := []) rfl rfl dX12_ordinateOfBytes_26 m_X12_whole t_2978 t_2980 s_188 (c_X12_whole hl  hc_2) rfl rfl ly_277 rfl (Nat.le_of_ble_eq_true rfl) (Nat.le_of_ble_eq_true rfl) (Nat.le_of_ble_eq_true rfl) (Nat.le_of_ble_eq_true rfl) ?_
    refine z_st (st' := [vl x_3]) rfl ?_
    refine z_lstore_n (M := M_X12_ordinateOfBytes) (lv' := [some (vr 277), some (vl x_3), none, none, none]) dX12_ordinateOfBytes_29 (Nat.le_of_ble_eq_true rfl) rfl rfl ?_
    refine z_lload_n (M := M_X12_ordinateOfBytes) dX12_ordinateOfBytes_30 rfl ?_
    refine z_bipush (M := M_X12_ordinateOfBytes) dX12_ordinateOfBytes_31 (by decide +kernel) ?_
    refine z_lushr (M := M_X12_ordinateOfBytes) dX12_ordinateOfBytes_33 ?_
    refine z_ldc2 (M := M_X12_ordinateOfBytes) (n := 2047) dX12_ordinateOfBytes_34 t_2994 (by decide +kernel) ?_
    refine z_land (M := M_X12_ordinateOfBytes) dX12_ordinateOfBytes_37 ?_
    refine z_ldc2 (M := M_X12_ordinateOfBytes) (n := 2047) dX12_ordinateOfBytes_38 t_2994 (by decide +kernel) ?_
    refine z_lcmp (M := M_X12_ordinateOfBytes) dX12_ordinateOfBytes_41 ?_
    rcases if_e H with ⟨h_4, H⟩ | ⟨h_4, H⟩
    · refine z_lif_ne_f (M := M_X12_ordinateOfBytes) (tgt := 55) dX12_ordinateOfBytes_42 (by decide) rfl (by decide +kernel) h_4 ?_
      refine z_aload_n (M := M_X12_ordinateOfBytes) dX12_ordinateOfBytes_45 rfl ?_
      refine z_iconst (M := M_X12_ordinateOfBytes) dX12_ordinateOfBytes_46 ?_
      refine z_aload_n (M := M_X12_ordinateOfBytes) dX12_ordinateOfBytes_47 rfl ?_
      refine z_getI (M := M_X12_ordinateOfBytes) (ci := 15) (C := RX12) (T := TX12) (Nf := 135) (ty := tyX12) cl15 dX12_ordinateOfBytes_48 ly_277 17 (by decide) t_2408 rfl rfl ?_
      obtain ⟨⟨x_7, σ_6⟩, hc_5, H⟩ := bd_e H
      refine z_callV (M := M_X12_ordinateOfBytes) (M' := M_X12_wrong) (as := [vi 4, vi (σ kR_at 0)]) (rest := []) rfl rfl dX12_ordinateOfBytes_51 m_X12_wrong t_2874 t_2876 s_166 (c_X12_wrong hl  hc_5) rfl rfl ly_277 rfl (Nat.le_of_ble_eq_true rfl) (Nat.le_of_ble_eq_true rfl) (Nat.le_of_ble_eq_true rfl) (Nat.le_of_ble_eq_true rfl) ?_
      refine z_st (st' := [zv x_7]) rfl ?_
      cases H
      exact z_zret (M := M_X12_ordinateOfBytes) dX12_ordinateOfBytes_54 rfl (Nat.le_of_ble_eq_true rfl) (Nat.le_of_ble_eq_true rfl) ⟨rfl, rfl⟩
    · refine z_lif_ne_t (M := M_X12_ordinateOfBytes) (tgt := 55) dX12_ordinateOfBytes_42 (by decide) rfl (by decide +kernel) h_4 ?_
      refine z_aload_n (M := M_X12_ordinateOfBytes) dX12_ordinateOfBytes_55 rfl ?_
      refine z_lload_n (M := M_X12_ordinateOfBytes) dX12_ordinateOfBytes_56 rfl ?_
      refine z_callV (M := M_X12_ordinateOfBytes) (M' := M_X12_inUnits) (as := [vl x_3]) (rest := []) rfl rfl dX12_ordinateOfBytes_57 m_X12_inUnits t_3004 t_3006 s_192 (c_X12_inUnits hl  rfl) rfl rfl ly_277 rfl (Nat.le_of_ble_eq_true rfl) (Nat.le_of_ble_eq_true rfl) (Nat.le_of_ble_eq_true rfl) (Nat.le_of_ble_eq_true rfl) ?_
      refine z_st (st' := [vl (fR_inUnits σ x_3)]) rfl ?_
      refine z_lstore_n (M := M_X12_ordinateOfBytes) (lv' := [some (vr 277), some (vl x_3), none, some (vl (fR_inUnits σ x_3)), none]) dX12_ordinateOfBytes_60 (Nat.le_of_ble_eq_true rfl) rfl rfl ?_
      refine z_lload_n (M := M_X12_ordinateOfBytes) dX12_ordinateOfBytes_61 rfl ?_
      refine z_ldc2 (M := M_X12_ordinateOfBytes) (n := 1000000000) dX12_ordinateOfBytes_62 t_2937 (by decide +kernel) ?_
      refine z_lcmp (M := M_X12_ordinateOfBytes) dX12_ordinateOfBytes_65 ?_
      rcases if_e H with ⟨h_8, H⟩ | ⟨h_8, H⟩
      · refine z_lif_le_f (M := M_X12_ordinateOfBytes) (tgt := 79) dX12_ordinateOfBytes_66 (by decide) rfl (by decide +kernel) h_8 ?_
        refine z_aload_n (M := M_X12_ordinateOfBytes) dX12_ordinateOfBytes_69 rfl ?_
        refine z_iconst (M := M_X12_ordinateOfBytes) dX12_ordinateOfBytes_70 ?_
        refine z_aload_n (M := M_X12_ordinateOfBytes) dX12_ordinateOfBytes_71 rfl ?_
        refine z_getI (M := M_X12_ordinateOfBytes) (ci := 15) (C := RX12) (T := TX12) (Nf := 135) (ty := tyX12) cl15 dX12_ordinateOfBytes_72 ly_277 17 (by decide) t_2408 rfl rfl ?_
        obtain ⟨⟨x_11, σ_10⟩, hc_9, H⟩ := bd_e H
        refine z_callV (M := M_X12_ordinateOfBytes) (M' := M_X12_wrong) (as := [vi 5, vi (σ kR_at 0)]) (rest := []) rfl rfl dX12_ordinateOfBytes_75 m_X12_wrong t_2874 t_2876 s_166 (c_X12_wrong hl  hc_9) rfl rfl ly_277 rfl (Nat.le_of_ble_eq_true rfl) (Nat.le_of_ble_eq_true rfl) (Nat.le_of_ble_eq_true rfl) (Nat.le_of_ble_eq_true rfl) ?_
        refine z_st (st' := [zv x_11]) rfl ?_
        cases H
        exact z_zret (M := M_X12_ordinateOfBytes) dX12_ordinateOfBytes_78 rfl (Nat.le_of_ble_eq_true rfl) (Nat.le_of_ble_eq_true rfl) ⟨rfl, rfl⟩
      · refine z_lif_le_t (M := M_X12_ordinateOfBytes) (tgt := 79) dX12_ordinateOfBytes_66 (by decide) rfl (by decide +kernel) (Int.not_lt.mp h_8) ?_
        refine z_aload_n (M := M_X12_ordinateOfBytes) dX12_ordinateOfBytes_79 rfl ?_
        have J_12 : YY l E M_X12_ordinateOfBytes 2 0 0 (pS (some (zv r)) σ') 92 [some (vr 277), some (vl x_3), none, some (vl (fR_inUnits σ x_3)), none] [vl (if (w64 x_3) < 0 then (-(fR_inUnits σ x_3)) else (fR_inUnits σ x_3)), vr 277] σ 0 0 := by
          obtain ⟨σ_13, σ_13_e, H⟩ := wf_e H
          refine z_putL (M := M_X12_ordinateOfBytes) (ci := 15) (C := RX12) (T := TX12) (Nf := 135) (ty := tyX12) cl15 dX12_ordinateOfBytes_92 ly_277 25 (by decide) t_2416 rfl rfl rfl rfl σ_13_e ?_
          refine z_aload_n (M := M_X12_ordinateOfBytes) dX12_ordinateOfBytes_95 rfl ?_
          refine z_dup (M := M_X12_ordinateOfBytes) dX12_ordinateOfBytes_96 rfl ?_
          refine z_getI (M := M_X12_ordinateOfBytes) (ci := 15) (C := RX12) (T := TX12) (Nf := 135) (ty := tyX12) cl15 dX12_ordinateOfBytes_97 ly_277 17 (by decide) t_2408 rfl rfl ?_
          refine z_bipush (M := M_X12_ordinateOfBytes) dX12_ordinateOfBytes_100 (by decide +kernel) ?_
          refine z_iadd (M := M_X12_ordinateOfBytes) dX12_ordinateOfBytes_102 ?_
          obtain ⟨σ_14, σ_14_e, H⟩ := wf_e H
          refine z_putI (M := M_X12_ordinateOfBytes) (ci := 15) (C := RX12) (T := TX12) (Nf := 135) (ty := tyX12) cl15 dX12_ordinateOfBytes_103 ly_277 17 (by decide) t_2408 rfl rfl rfl rfl σ_14_e ?_
          refine z_zconst (M := M_X12_ordinateOfBytes) (b := true) dX12_ordinateOfBytes_106 rfl ?_
          cases H
          exact z_zret (M := M_X12_ordinateOfBytes) dX12_ordinateOfBytes_107 rfl (Nat.le_of_ble_eq_true rfl) (Nat.le_of_ble_eq_true rfl) ⟨rfl, rfl⟩
        refine z_lload_n (M := M_X12_ordinateOfBytes) dX12_ordinateOfBytes_80 rfl ?_
        refine z_lconst (M := M_X12_ordinateOfBytes) (m := 0) dX12_ordinateOfBytes_81 (by decide +kernel) ?_
        refine z_lcmp (M := M_X12_ordinateOfBytes) dX12_ordinateOfBytes_82 ?_
        by_cases h_15 : (w64 x_3) < 0
        · refine z_lif_ge_f (M := M_X12_ordinateOfBytes) (tgt := 91) dX12_ordinateOfBytes_83 (by decide) rfl (by decide +kernel) h_15 ?_
          refine z_lload_n (M := M_X12_ordinateOfBytes) dX12_ordinateOfBytes_86 rfl ?_
          refine z_lneg (M := M_X12_ordinateOfBytes) dX12_ordinateOfBytes_87 ?_
          refine z_goto (M := M_X12_ordinateOfBytes) (tgt := 92) dX12_ordinateOfBytes_88 (by decide) ?_
          exact z_st (by rw [if_pos (c := (w64 x_3) < 0) h_15]) J_12
        · refine z_lif_ge_t (M := M_X12_ordinateOfBytes) (tgt := 91) dX12_ordinateOfBytes_83 (by decide) rfl (by decide +kernel) (Int.not_lt.mp h_15) ?_
          refine z_lload_n (M := M_X12_ordinateOfBytes) dX12_ordinateOfBytes_91 rfl ?_
          exact z_st (by rw [if_neg (c := (w64 x_3) < 0) h_15]) J_12
  · refine z_zne_f (M := M_X12_ordinateOfBytes) (tgt := 19) dX12_ordinateOfBytes_6 (by decide) h_1 ?_
    refine z_aload_n (M := M_X12_ordinateOfBytes) dX12_ordinateOfBytes_9 rfl ?_
    refine z_iconst (M := M_X12_ordinateOfBytes) dX12_ordinateOfBytes_10 ?_
    refine z_aload_n (M := M_X12_ordinateOfBytes) dX12_ordinateOfBytes_11 rfl ?_
    refine z_getI (M := M_X12_ordinateOfBytes) (ci := 15) (C := RX12) (T := TX12) (Nf := 135) (ty := tyX12) cl15 dX12_ordinateOfBytes_12 ly_277 17 (by decide) t_2408 rfl rfl ?_
    obtain ⟨⟨x_18, σ_17⟩, hc_16, H⟩ := bd_e H
    refine z_callV (M := M_X12_ordinateOfBytes) (M' := M_X12_wrong) (as := [vi 3, vi (σ kR_at 0)]) (rest := []) rfl rfl dX12_ordinateOfBytes_15 m_X12_wrong t_2874 t_2876 s_166 (c_X12_wrong hl  hc_16) rfl rfl ly_277 rfl (Nat.le_of_ble_eq_true rfl) (Nat.le_of_ble_eq_true rfl) (Nat.le_of_ble_eq_true rfl) (Nat.le_of_ble_eq_true rfl) ?_
    refine z_st (st' := [zv x_18]) rfl ?_
    cases H
    exact z_zret (M := M_X12_ordinateOfBytes) dX12_ordinateOfBytes_18 rfl (Nat.le_of_ble_eq_true rfl) (Nat.le_of_ble_eq_true rfl) ⟨rfl, rfl⟩
theorem c_X12_coordinateOfBytes (hl : l.stackTraces = false) {σ : SG} {r : Bool} {σ' : SG}  (H : fR_coordinateOfBytes σ = some (r, σ')) : en_S l E M_X12_coordinateOfBytes 3 0 0 [vr 277] σ (pS (some (zv r)) σ') := by
  unfold fR_coordinateOfBytes at H
  refine z_mk (lv := [some (vr 277), none, none]) m_X12_coordinateOfBytes rfl hl (Nat.le_of_ble_eq_true rfl) rfl ?_
  refine z_aload_n (M := M_X12_coordinateOfBytes) dX12_coordinateOfBytes_0 rfl ?_
  refine z_getR (M := M_X12_coordinateOfBytes) (ci := 15) (C := RX12) (T := TX12) (Nf := 135) (ty := tyX12) cl15 dX12_coordinateOfBytes_1 ly_277 11 (by decide) t_2402 rfl ?_
  refine z_bipush (M := M_X12_coordinateOfBytes) dX12_coordinateOfBytes_4 (by decide +kernel) ?_
  obtain ⟨x_1, x_1_e, hi_2, H⟩ := rd_e H
  refine z_iald (M := M_X12_coordinateOfBytes) dX12_coordinateOfBytes_6 ly_282 rfl (by decide +kernel) rfl hi_2 x_1_e ?_
  refine z_sipush (M := M_X12_coordinateOfBytes) dX12_coordinateOfBytes_7 (by decide +kernel) ?_
  rcases if_e H with ⟨h_3, H⟩ | ⟨h_3, H⟩
  · refine z_icmp_ne_f (M := M_X12_coordinateOfBytes) (tgt := 24) dX12_coordinateOfBytes_10 (by decide) rfl (by decide +kernel) h_3 ?_
    refine z_aload_n (M := M_X12_coordinateOfBytes) dX12_coordinateOfBytes_13 rfl ?_
    refine z_bipush (M := M_X12_coordinateOfBytes) dX12_coordinateOfBytes_14 (by decide +kernel) ?_
    refine z_aload_n (M := M_X12_coordinateOfBytes) dX12_coordinateOfBytes_16 rfl ?_
    refine z_getI (M := M_X12_coordinateOfBytes) (ci := 15) (C := RX12) (T := TX12) (Nf := 135) (ty := tyX12) cl15 dX12_coordinateOfBytes_17 ly_277 17 (by decide) t_2408 rfl rfl ?_
    obtain ⟨⟨x_6, σ_5⟩, hc_4, H⟩ := bd_e H
    refine z_callV (M := M_X12_coordinateOfBytes) (M' := M_X12_wrong) (as := [vi 7, vi (σ kR_at 0)]) (rest := []) rfl rfl dX12_coordinateOfBytes_20 m_X12_wrong t_2874 t_2876 s_166 (c_X12_wrong hl  hc_4) rfl rfl ly_277 rfl (Nat.le_of_ble_eq_true rfl) (Nat.le_of_ble_eq_true rfl) (Nat.le_of_ble_eq_true rfl) (Nat.le_of_ble_eq_true rfl) ?_
    refine z_st (st' := [zv x_6]) rfl ?_
    cases H
    exact z_zret (M := M_X12_coordinateOfBytes) dX12_coordinateOfBytes_23 rfl (Nat.le_of_ble_eq_true rfl) (Nat.le_of_ble_eq_true rfl) ⟨rfl, rfl⟩
  · refine z_icmp_ne_t (M := M_X12_coordinateOfBytes) (tgt := 24) dX12_coordinateOfBytes_10 (by decide) rfl (by decide +kernel) h_3 ?_
    refine z_aload_n (M := M_X12_coordinateOfBytes) dX12_coordinateOfBytes_24 rfl ?_
    obtain ⟨⟨x_9, σ_8⟩, hc_7, H⟩ := bd_e H
    refine z_callV (M := M_X12_coordinateOfBytes) (M' := M_X12_ordinateOfBytes) (as := []) (rest := []) rfl rfl dX12_coordinateOfBytes_25 m_X12_ordinateOfBytes t_3000 t_3002 s_191 (c_X12_ordinateOfBytes hl  hc_7) rfl rfl ly_277 rfl (Nat.le_of_ble_eq_true rfl) (Nat.le_of_ble_eq_true rfl) (Nat.le_of_ble_eq_true rfl) (Nat.le_of_ble_eq_true rfl) ?_
    refine z_st (st' := [zv x_9]) rfl ?_
    rcases if_e H with ⟨h_10, H⟩ | ⟨h_10, H⟩
    · refine z_zne_t (M := M_X12_coordinateOfBytes) (tgt := 33) dX12_coordinateOfBytes_28 (by decide) h_10 ?_
      refine z_aload_n (M := M_X12_coordinateOfBytes) dX12_coordinateOfBytes_33 rfl ?_
      refine z_getL (M := M_X12_coordinateOfBytes) (ci := 15) (C := RX12) (T := TX12) (Nf := 135) (ty := tyX12) cl15 dX12_coordinateOfBytes_34 ly_277 25 (by decide) t_2416 rfl rfl ?_
      refine z_lstore_n (M := M_X12_coordinateOfBytes) (lv' := [some (vr 277), some (vl (σ_8 kR_value 0)), none]) dX12_coordinateOfBytes_37 (Nat.le_of_ble_eq_true rfl) rfl rfl ?_
      refine z_aload_n (M := M_X12_coordinateOfBytes) dX12_coordinateOfBytes_38 rfl ?_
      obtain ⟨⟨x_13, σ_12⟩, hc_11, H⟩ := bd_e H
      refine z_callV (M := M_X12_coordinateOfBytes) (M' := M_X12_ordinateOfBytes) (as := []) (rest := []) rfl rfl dX12_coordinateOfBytes_39 m_X12_ordinateOfBytes t_3000 t_3002 s_191 (c_X12_ordinateOfBytes hl  hc_11) rfl rfl ly_277 rfl (Nat.le_of_ble_eq_true rfl) (Nat.le_of_ble_eq_true rfl) (Nat.le_of_ble_eq_true rfl) (Nat.le_of_ble_eq_true rfl) ?_
      refine z_st (st' := [zv x_13]) rfl ?_
      rcases if_e H with ⟨h_14, H⟩ | ⟨h_14, H⟩
      · refine z_zne_t (M := M_X12_coordinateOfBytes) (tgt := 47) dX12_coordinateOfBytes_42 (by decide) h_14 ?_
        refine z_aload_n (M := M_X12_coordinateOfBytes) dX12_coordinateOfBytes_47 rfl ?_
        refine z_lload_n (M := M_X12_coordinateOfBytes) dX12_coordinateOfBytes_48 rfl ?_
        refine z_aload_n (M := M_X12_coordinateOfBytes) dX12_coordinateOfBytes_49 rfl ?_
        refine z_getL (M := M_X12_coordinateOfBytes) (ci := 15) (C := RX12) (T := TX12) (Nf := 135) (ty := tyX12) cl15 dX12_coordinateOfBytes_50 ly_277 25 (by decide) t_2416 rfl rfl ?_
        obtain ⟨σ_16, hc_15, H⟩ := bd_e H
        refine z_callV (M := M_X12_coordinateOfBytes) (M' := M_X12_dot) (as := [vl (σ_8 kR_value 0), vl (σ_12 kR_value 0)]) (rest := []) rfl rfl dX12_coordinateOfBytes_53 m_X12_dot t_2938 t_2940 s_178 (c_X12_dot hl  hc_15) rfl rfl ly_277 rfl (Nat.le_of_ble_eq_true rfl) (Nat.le_of_ble_eq_true rfl) (Nat.le_of_ble_eq_true rfl) (Nat.le_of_ble_eq_true rfl) ?_
        refine z_st (st' := []) rfl ?_
        refine z_zconst (M := M_X12_coordinateOfBytes) (b := true) dX12_coordinateOfBytes_56 rfl ?_
        cases H
        exact z_zret (M := M_X12_coordinateOfBytes) dX12_coordinateOfBytes_57 rfl (Nat.le_of_ble_eq_true rfl) (Nat.le_of_ble_eq_true rfl) ⟨rfl, rfl⟩
      · refine z_zne_f (M := M_X12_coordinateOfBytes) (tgt := 47) dX12_coordinateOfBytes_42 (by decide) h_14 ?_
        refine z_zconst (M := M_X12_coordinateOfBytes) (b := false) dX12_coordinateOfBytes_45 rfl ?_
        cases H
        exact z_zret (M := M_X12_coordinateOfBytes) dX12_coordinateOfBytes_46 rfl (Nat.le_of_ble_eq_true rfl) (Nat.le_of_ble_eq_true rfl) ⟨rfl, rfl⟩
    · refine z_zne_f (M := M_X12_coordinateOfBytes) (tgt := 33) dX12_coordinateOfBytes_28 (by decide) h_10 ?_
      refine z_zconst (M := M_X12_coordinateOfBytes) (b := false) dX12_coordinateOfBytes_31 rfl ?_
      cases H
      exact z_zret (M := M_X12_coordinateOfBytes) dX12_coordinateOfBytes_32 rfl (Nat.le_of_ble_eq_true rfl) (Nat.le_of_ble_eq_true rfl) ⟨rfl, rfl⟩
theorem c_X12_isNoNumber (hl : l.stackTraces = false) {σ : SG} {b_0 : Int} {r : Bool}  (H : fR_isNoNumber b_0 = r) : en_S l E M_X12_isNoNumber 1 0 0 [vl b_0] σ (pS (some (zv r)) σ) := by
  unfold fR_isNoNumber at H
  refine z_mk (lv := [some (vl b_0), none]) m_X12_isNoNumber rfl hl (Nat.le_of_ble_eq_true rfl) rfl ?_
  have J_1 : YY l E M_X12_isNoNumber 1 0 0 (pS (some (zv r)) σ) 30 [some (vl b_0), none] [zv (decide (((w64 (q_lan (q_lus b_0 52) 2047)) = 2047) ∧ (¬ (w64 (q_lan b_0 4503599627370495)) = 0)))] σ 0 0 := by
    cases H
    exact z_zret (M := M_X12_isNoNumber) dX12_isNoNumber_30 rfl (Nat.le_of_ble_eq_true rfl) (Nat.le_of_ble_eq_true rfl) ⟨rfl, rfl⟩
  refine z_lload_n (M := M_X12_isNoNumber) dX12_isNoNumber_0 rfl ?_
  refine z_bipush (M := M_X12_isNoNumber) dX12_isNoNumber_1 (by decide +kernel) ?_
  refine z_lushr (M := M_X12_isNoNumber) dX12_isNoNumber_3 ?_
  refine z_ldc2 (M := M_X12_isNoNumber) (n := 2047) dX12_isNoNumber_4 t_2994 (by decide +kernel) ?_
  refine z_land (M := M_X12_isNoNumber) dX12_isNoNumber_7 ?_
  refine z_ldc2 (M := M_X12_isNoNumber) (n := 2047) dX12_isNoNumber_8 t_2994 (by decide +kernel) ?_
  refine z_lcmp (M := M_X12_isNoNumber) dX12_isNoNumber_11 ?_
  by_cases h_2 : (w64 (q_lan (q_lus b_0 52) 2047)) = 2047
  · refine z_lif_ne_f (M := M_X12_isNoNumber) (tgt := 29) dX12_isNoNumber_12 (by decide) rfl (by decide +kernel) h_2 ?_
    refine z_lload_n (M := M_X12_isNoNumber) dX12_isNoNumber_15 rfl ?_
    refine z_ldc2 (M := M_X12_isNoNumber) (n := 4503599627370495) dX12_isNoNumber_16 t_2995 (by decide +kernel) ?_
    refine z_land (M := M_X12_isNoNumber) dX12_isNoNumber_19 ?_
    refine z_lconst (M := M_X12_isNoNumber) (m := 0) dX12_isNoNumber_20 (by decide +kernel) ?_
    refine z_lcmp (M := M_X12_isNoNumber) dX12_isNoNumber_21 ?_
    by_cases h_3 : ¬ (w64 (q_lan b_0 4503599627370495)) = 0
    · refine z_lif_eq_f (M := M_X12_isNoNumber) (tgt := 29) dX12_isNoNumber_22 (by decide) rfl (by decide +kernel) h_3 ?_
      refine z_iconst (M := M_X12_isNoNumber) dX12_isNoNumber_25 ?_
      refine z_goto (M := M_X12_isNoNumber) (tgt := 30) dX12_isNoNumber_26 (by decide) ?_
      exact z_st (by rw [zv_t (p := ((w64 (q_lan (q_lus b_0 52) 2047)) = 2047) ∧ (¬ (w64 (q_lan b_0 4503599627370495)) = 0)) ⟨h_2, h_3⟩]) J_1
    · refine z_lif_eq_t (M := M_X12_isNoNumber) (tgt := 29) dX12_isNoNumber_22 (by decide) rfl (by decide +kernel) (Decidable.not_not.mp h_3) ?_
      refine z_iconst (M := M_X12_isNoNumber) dX12_isNoNumber_29 ?_
      exact z_st (by rw [zv_f (p := ((w64 (q_lan (q_lus b_0 52) 2047)) = 2047) ∧ (¬ (w64 (q_lan b_0 4503599627370495)) = 0)) (fun q => h_3 q.2)]) J_1
  · refine z_lif_ne_t (M := M_X12_isNoNumber) (tgt := 29) dX12_isNoNumber_12 (by decide) rfl (by decide +kernel) h_2 ?_
    refine z_iconst (M := M_X12_isNoNumber) dX12_isNoNumber_29 ?_
    exact z_st (by rw [zv_f (p := ((w64 (q_lan (q_lus b_0 52) 2047)) = 2047) ∧ (¬ (w64 (q_lan b_0 4503599627370495)) = 0)) (fun q => h_2 q.1)]) J_1
theorem c_X12_pointOfBytes (hl : l.stackTraces = false) {σ : SG} {number_0 : Int} {r : Bool} {σ' : SG}  (H : fR_pointOfBytes σ number_0 = some (r, σ')) : en_S l E M_X12_pointOfBytes 4 0 0 [vr 277, vi number_0] σ (pS (some (zv r)) σ') := by
  unfold fR_pointOfBytes at H
  refine z_mk (lv := [some (vr 277), some (vi number_0)]) m_X12_pointOfBytes rfl hl (Nat.le_of_ble_eq_true rfl) rfl ?_
  refine z_aload_n (M := M_X12_pointOfBytes) dX12_pointOfBytes_0 rfl ?_
  refine z_bipush (M := M_X12_pointOfBytes) dX12_pointOfBytes_1 (by decide +kernel) ?_
  refine z_callV (M := M_X12_pointOfBytes) (M' := M_X12_there) (as := [vi 16]) (rest := []) rfl rfl dX12_pointOfBytes_3 m_X12_there t_2974 t_2976 s_187 (c_X12_there hl  rfl) rfl rfl ly_277 rfl (Nat.le_of_ble_eq_true rfl) (Nat.le_of_ble_eq_true rfl) (Nat.le_of_ble_eq_true rfl) (Nat.le_of_ble_eq_true rfl) ?_
  refine z_st (st' := [zv (fR_there σ 16)]) rfl ?_
  rcases if_e H with ⟨h_17, H⟩ | ⟨h_17, H⟩
  · refine z_zeq_f (M := M_X12_pointOfBytes) (tgt := 57) dX12_pointOfBytes_6 (by decide) h_17 ?_
    refine z_aload_n (M := M_X12_pointOfBytes) dX12_pointOfBytes_9 rfl ?_
    refine z_aload_n (M := M_X12_pointOfBytes) dX12_pointOfBytes_10 rfl ?_
    refine z_getI (M := M_X12_pointOfBytes) (ci := 15) (C := RX12) (T := TX12) (Nf := 135) (ty := tyX12) cl15 dX12_pointOfBytes_11 ly_277 17 (by decide) t_2408 rfl rfl ?_
    refine z_bipush (M := M_X12_pointOfBytes) dX12_pointOfBytes_14 (by decide +kernel) ?_
    obtain ⟨x_19, hc_18, H⟩ := bd_e H
    refine z_callV (M := M_X12_pointOfBytes) (M' := M_X12_whole) (as := [vi (σ kR_at 0), vi 8]) (rest := []) rfl rfl dX12_pointOfBytes_16 m_X12_whole t_2978 t_2980 s_188 (c_X12_whole hl  hc_18) rfl rfl ly_277 rfl (Nat.le_of_ble_eq_true rfl) (Nat.le_of_ble_eq_true rfl) (Nat.le_of_ble_eq_true rfl) (Nat.le_of_ble_eq_true rfl) ?_
    refine z_st (st' := [vl x_19]) rfl ?_
    refine z_callS (M := M_X12_pointOfBytes) (M' := M_X12_isNoNumber) (as := [vl x_19]) (rest := []) rfl rfl dX12_pointOfBytes_19 m_X12_isNoNumber t_2991 t_2992 (c_X12_isNoNumber hl  rfl) rfl rfl (Nat.le_of_ble_eq_true rfl) (Nat.le_of_ble_eq_true rfl) (Nat.le_of_ble_eq_true rfl) (Nat.le_of_ble_eq_true rfl) ?_
    refine z_st (st' := [zv (fR_isNoNumber x_19)]) rfl ?_
    rcases if_e H with ⟨h_20, H⟩ | ⟨h_20, H⟩
    · refine z_zeq_f (M := M_X12_pointOfBytes) (tgt := 57) dX12_pointOfBytes_22 (by decide) h_20 ?_
      refine z_aload_n (M := M_X12_pointOfBytes) dX12_pointOfBytes_25 rfl ?_
      refine z_aload_n (M := M_X12_pointOfBytes) dX12_pointOfBytes_26 rfl ?_
      refine z_getI (M := M_X12_pointOfBytes) (ci := 15) (C := RX12) (T := TX12) (Nf := 135) (ty := tyX12) cl15 dX12_pointOfBytes_27 ly_277 17 (by decide) t_2408 rfl rfl ?_
      refine z_bipush (M := M_X12_pointOfBytes) dX12_pointOfBytes_30 (by decide +kernel) ?_
      refine z_iadd (M := M_X12_pointOfBytes) dX12_pointOfBytes_32 ?_
      refine z_bipush (M := M_X12_pointOfBytes) dX12_pointOfBytes_33 (by decide +kernel) ?_
      obtain ⟨x_22, hc_21, H⟩ := bd_e H
      refine z_callV (M := M_X12_pointOfBytes) (M' := M_X12_whole) (as := [vi ((σ kR_at 0) + 8), vi 8]) (rest := []) rfl rfl dX12_pointOfBytes_35 m_X12_whole t_2978 t_2980 s_188 (c_X12_whole hl  hc_21) rfl rfl ly_277 rfl (Nat.le_of_ble_eq_true rfl) (Nat.le_of_ble_eq_true rfl) (Nat.le_of_ble_eq_true rfl) (Nat.le_of_ble_eq_true rfl) ?_
      refine z_st (st' := [vl x_22]) rfl ?_
      refine z_callS (M := M_X12_pointOfBytes) (M' := M_X12_isNoNumber) (as := [vl x_22]) (rest := []) rfl rfl dX12_pointOfBytes_38 m_X12_isNoNumber t_2991 t_2992 (c_X12_isNoNumber hl  rfl) rfl rfl (Nat.le_of_ble_eq_true rfl) (Nat.le_of_ble_eq_true rfl) (Nat.le_of_ble_eq_true rfl) (Nat.le_of_ble_eq_true rfl) ?_
      refine z_st (st' := [zv (fR_isNoNumber x_22)]) rfl ?_
      rcases if_e H with ⟨h_23, H⟩ | ⟨h_23, H⟩
      · refine z_zeq_f (M := M_X12_pointOfBytes) (tgt := 57) dX12_pointOfBytes_41 (by decide) h_23 ?_
        refine z_aload_n (M := M_X12_pointOfBytes) dX12_pointOfBytes_44 rfl ?_
        refine z_dup (M := M_X12_pointOfBytes) dX12_pointOfBytes_45 rfl ?_
        refine z_getI (M := M_X12_pointOfBytes) (ci := 15) (C := RX12) (T := TX12) (Nf := 135) (ty := tyX12) cl15 dX12_pointOfBytes_46 ly_277 17 (by decide) t_2408 rfl rfl ?_
        refine z_bipush (M := M_X12_pointOfBytes) dX12_pointOfBytes_49 (by decide +kernel) ?_
        refine z_iadd (M := M_X12_pointOfBytes) dX12_pointOfBytes_51 ?_
        obtain ⟨σ_24, σ_24_e, H⟩ := wf_e H
        refine z_putI (M := M_X12_pointOfBytes) (ci := 15) (C := RX12) (T := TX12) (Nf := 135) (ty := tyX12) cl15 dX12_pointOfBytes_52 ly_277 17 (by decide) t_2408 rfl rfl rfl rfl σ_24_e ?_
        refine z_zconst (M := M_X12_pointOfBytes) (b := true) dX12_pointOfBytes_55 rfl ?_
        cases H
        exact z_zret (M := M_X12_pointOfBytes) dX12_pointOfBytes_56 rfl (Nat.le_of_ble_eq_true rfl) (Nat.le_of_ble_eq_true rfl) ⟨rfl, rfl⟩
      · refine z_zeq_t (M := M_X12_pointOfBytes) (tgt := 57) dX12_pointOfBytes_41 (by decide) h_23 ?_
        refine z_aload_n (M := M_X12_pointOfBytes) dX12_pointOfBytes_57 rfl ?_
        refine z_iload_n (M := M_X12_pointOfBytes) dX12_pointOfBytes_58 rfl ?_
        obtain ⟨σ_26, hc_25, H⟩ := bd_e H
        refine z_callV (M := M_X12_pointOfBytes) (M' := M_X12_more) (as := [vi number_0]) (rest := []) rfl rfl dX12_pointOfBytes_59 m_X12_more t_2906 t_2908 s_171 (c_X12_more hl  hc_25) rfl rfl ly_277 rfl (Nat.le_of_ble_eq_true rfl) (Nat.le_of_ble_eq_true rfl) (Nat.le_of_ble_eq_true rfl) (Nat.le_of_ble_eq_true rfl) ?_
        refine z_st (st' := []) rfl ?_
        refine z_aload_n (M := M_X12_pointOfBytes) dX12_pointOfBytes_62 rfl ?_
        obtain ⟨⟨x_29, σ_28⟩, hc_27, H⟩ := bd_e H
        refine z_callV (M := M_X12_pointOfBytes) (M' := M_X12_coordinateOfBytes) (as := []) (rest := []) rfl rfl dX12_pointOfBytes_63 m_X12_coordinateOfBytes t_2996 t_2998 s_190 (c_X12_coordinateOfBytes hl  hc_27) rfl rfl ly_277 rfl (Nat.le_of_ble_eq_true rfl) (Nat.le_of_ble_eq_true rfl) (Nat.le_of_ble_eq_true rfl) (Nat.le_of_ble_eq_true rfl) ?_
        refine z_st (st' := [zv x_29]) rfl ?_
        cases H
        exact z_zret (M := M_X12_pointOfBytes) dX12_pointOfBytes_66 rfl (Nat.le_of_ble_eq_true rfl) (Nat.le_of_ble_eq_true rfl) ⟨rfl, rfl⟩
    · refine z_zeq_t (M := M_X12_pointOfBytes) (tgt := 57) dX12_pointOfBytes_22 (by decide) h_20 ?_
      refine z_aload_n (M := M_X12_pointOfBytes) dX12_pointOfBytes_57 rfl ?_
      refine z_iload_n (M := M_X12_pointOfBytes) dX12_pointOfBytes_58 rfl ?_
      obtain ⟨σ_31, hc_30, H⟩ := bd_e H
      refine z_callV (M := M_X12_pointOfBytes) (M' := M_X12_more) (as := [vi number_0]) (rest := []) rfl rfl dX12_pointOfBytes_59 m_X12_more t_2906 t_2908 s_171 (c_X12_more hl  hc_30) rfl rfl ly_277 rfl (Nat.le_of_ble_eq_true rfl) (Nat.le_of_ble_eq_true rfl) (Nat.le_of_ble_eq_true rfl) (Nat.le_of_ble_eq_true rfl) ?_
      refine z_st (st' := []) rfl ?_
      refine z_aload_n (M := M_X12_pointOfBytes) dX12_pointOfBytes_62 rfl ?_
      obtain ⟨⟨x_34, σ_33⟩, hc_32, H⟩ := bd_e H
      refine z_callV (M := M_X12_pointOfBytes) (M' := M_X12_coordinateOfBytes) (as := []) (rest := []) rfl rfl dX12_pointOfBytes_63 m_X12_coordinateOfBytes t_2996 t_2998 s_190 (c_X12_coordinateOfBytes hl  hc_32) rfl rfl ly_277 rfl (Nat.le_of_ble_eq_true rfl) (Nat.le_of_ble_eq_true rfl) (Nat.le_of_ble_eq_true rfl) (Nat.le_of_ble_eq_true rfl) ?_
      refine z_st (st' := [zv x_34]) rfl ?_
      cases H
      exact z_zret (M := M_X12_pointOfBytes) dX12_pointOfBytes_66 rfl (Nat.le_of_ble_eq_true rfl) (Nat.le_of_ble_eq_true rfl) ⟨rfl, rfl⟩
  · refine z_zeq_t (M := M_X12_pointOfBytes) (tgt := 57) dX12_pointOfBytes_6 (by decide) h_17 ?_
    refine z_aload_n (M := M_X12_pointOfBytes) dX12_pointOfBytes_57 rfl ?_
    refine z_iload_n (M := M_X12_pointOfBytes) dX12_pointOfBytes_58 rfl ?_
    obtain ⟨σ_36, hc_35, H⟩ := bd_e H
    refine z_callV (M := M_X12_pointOfBytes) (M' := M_X12_more) (as := [vi number_0]) (rest := []) rfl rfl dX12_pointOfBytes_59 m_X12_more t_2906 t_2908 s_171 (c_X12_more hl  hc_35) rfl rfl ly_277 rfl (Nat.le_of_ble_eq_true rfl) (Nat.le_of_ble_eq_true rfl) (Nat.le_of_ble_eq_true rfl) (Nat.le_of_ble_eq_true rfl) ?_
    refine z_st (st' := []) rfl ?_
    refine z_aload_n (M := M_X12_pointOfBytes) dX12_pointOfBytes_62 rfl ?_
    obtain ⟨⟨x_39, σ_38⟩, hc_37, H⟩ := bd_e H
    refine z_callV (M := M_X12_pointOfBytes) (M' := M_X12_coordinateOfBytes) (as := []) (rest := []) rfl rfl dX12_pointOfBytes_63 m_X12_coordinateOfBytes t_2996 t_2998 s_190 (c_X12_coordinateOfBytes hl  hc_37) rfl rfl ly_277 rfl (Nat.le_of_ble_eq_true rfl) (Nat.le_of_ble_eq_true rfl) (Nat.le_of_ble_eq_true rfl) (Nat.le_of_ble_eq_true rfl) ?_
    refine z_st (st' := [zv x_39]) rfl ?_
    cases H
    exact z_zret (M := M_X12_pointOfBytes) dX12_pointOfBytes_66 rfl (Nat.le_of_ble_eq_true rfl) (Nat.le_of_ble_eq_true rfl) ⟨rfl, rfl⟩
theorem c_X12_rowOfBytes (hl : l.stackTraces = false) {σ : SG} {count_0 : Int} {r : Bool} {σ' : SG}  (H : fR_rowOfBytes σ count_0 = some (r, σ')) : en_S l E M_X12_rowOfBytes 4 0 0 [vr 277, vl count_0] σ (pS (some (zv r)) σ') := by
  unfold fR_rowOfBytes at H
  refine z_mk (lv := [some (vr 277), some (vl count_0), none, none, none]) m_X12_rowOfBytes rfl hl (Nat.le_of_ble_eq_true rfl) rfl ?_
  refine z_lconst (M := M_X12_rowOfBytes) (m := 0) dX12_rowOfBytes_0 (by decide +kernel) ?_
  refine z_lstore_n (M := M_X12_rowOfBytes) (lv' := [some (vr 277), some (vl count_0), none, some (vl 0), none]) dX12_rowOfBytes_1 (Nat.le_of_ble_eq_true rfl) rfl rfl ?_
  obtain ⟨rl_6, hw_3, hk_4, hk_5⟩ := bx_e H
  have J_19 : ∀ k_17 σ_18, rl_6 = (.inl (k_17, σ_18)) → YY l E M_X12_rowOfBytes 4 0 0 (pS (some (zv r)) σ') 24 [some (vr 277), some (vl count_0), none, some (vl k_17), none] [] σ_18 0 0 := by
    intro k_17 σ_18 e
    have H := hk_4 _ e
    refine z_zconst (M := M_X12_rowOfBytes) (b := true) dX12_rowOfBytes_24 rfl ?_
    cases H
    exact z_zret (M := M_X12_rowOfBytes) dX12_rowOfBytes_25 rfl (Nat.le_of_ble_eq_true rfl) (Nat.le_of_ble_eq_true rfl) ⟨rfl, rfl⟩
  refine whl_go hw_3 (fun (k_1, σ_2) => YY l E M_X12_rowOfBytes 4 0 0 (pS (some (zv r)) σ') 2 [some (vr 277), some (vl count_0), none, some (vl k_1), none] [] σ_2 0 0) ?_
  rintro ⟨k_1, σ_2⟩ o_7 H K_8 K_9
  refine z_lload_n (M := M_X12_rowOfBytes) dX12_rowOfBytes_2 rfl ?_
  refine z_lload_n (M := M_X12_rowOfBytes) dX12_rowOfBytes_3 rfl ?_
  refine z_lcmp (M := M_X12_rowOfBytes) dX12_rowOfBytes_4 ?_
  rcases if_e H with ⟨h_10, H⟩ | ⟨h_10, H⟩
  · refine z_lif_ge_f (M := M_X12_rowOfBytes) (tgt := 24) dX12_rowOfBytes_5 (by decide) rfl rfl h_10 ?_
    refine z_aload_n (M := M_X12_rowOfBytes) dX12_rowOfBytes_8 rfl ?_
    obtain ⟨⟨x_13, σ_12⟩, hc_11, H⟩ := bd_e H
    refine z_callV (M := M_X12_rowOfBytes) (M' := M_X12_coordinateOfBytes) (as := []) (rest := []) rfl rfl dX12_rowOfBytes_9 m_X12_coordinateOfBytes t_2996 t_2998 s_190 (c_X12_coordinateOfBytes hl  hc_11) rfl rfl ly_277 rfl (Nat.le_of_ble_eq_true rfl) (Nat.le_of_ble_eq_true rfl) (Nat.le_of_ble_eq_true rfl) (Nat.le_of_ble_eq_true rfl) ?_
    refine z_st (st' := [zv x_13]) rfl ?_
    rcases if_e H with ⟨h_14, H⟩ | ⟨h_14, H⟩
    · refine z_zne_t (M := M_X12_rowOfBytes) (tgt := 17) dX12_rowOfBytes_12 (by decide) h_14 ?_
      refine z_lload_n (M := M_X12_rowOfBytes) dX12_rowOfBytes_17 rfl ?_
      refine z_lconst (M := M_X12_rowOfBytes) (m := 1) dX12_rowOfBytes_18 (by decide +kernel) ?_
      refine z_ladd (M := M_X12_rowOfBytes) dX12_rowOfBytes_19 ?_
      refine z_lstore_n (M := M_X12_rowOfBytes) (lv' := [some (vr 277), some (vl count_0), none, some (vl (k_1 + 1)), none]) dX12_rowOfBytes_20 (Nat.le_of_ble_eq_true rfl) rfl rfl ?_
      refine z_goto (M := M_X12_rowOfBytes) (tgt := 2) dX12_rowOfBytes_21 (by decide) ?_
      exact K_8 _ (Option.some.inj H).symm
    · refine z_zne_f (M := M_X12_rowOfBytes) (tgt := 17) dX12_rowOfBytes_12 (by decide) h_14 ?_
      refine z_zconst (M := M_X12_rowOfBytes) (b := false) dX12_rowOfBytes_15 rfl ?_
      have H := congrArg some (hk_5 _ ((K_9 _ (Option.some.inj H).symm).symm))
      cases H
      exact z_zret (M := M_X12_rowOfBytes) dX12_rowOfBytes_16 rfl (Nat.le_of_ble_eq_true rfl) (Nat.le_of_ble_eq_true rfl) ⟨rfl, rfl⟩
  · refine z_lif_ge_t (M := M_X12_rowOfBytes) (tgt := 24) dX12_rowOfBytes_5 (by decide) rfl rfl (Int.not_lt.mp h_10) ?_
    exact J_19 _ _ (K_9 _ (Option.some.inj H).symm).symm
theorem c_X12_ringsOfBytes (hl : l.stackTraces = false) {σ : SG} {count_0 : Int} {r : Bool} {σ' : SG}  (H : fR_ringsOfBytes σ count_0 = some (r, σ')) : en_S l E M_X12_ringsOfBytes 5 0 0 [vr 277, vl count_0] σ (pS (some (zv r)) σ') := by
  unfold fR_ringsOfBytes at H
  refine z_mk (lv := [some (vr 277), some (vl count_0), none, none, none, none, none]) m_X12_ringsOfBytes rfl hl (Nat.le_of_ble_eq_true rfl) rfl ?_
  refine z_lconst (M := M_X12_ringsOfBytes) (m := 0) dX12_ringsOfBytes_0 (by decide +kernel) ?_
  refine z_lstore_n (M := M_X12_ringsOfBytes) (lv' := [some (vr 277), some (vl count_0), none, some (vl 0), none, none, none]) dX12_ringsOfBytes_1 (Nat.le_of_ble_eq_true rfl) rfl rfl ?_
  obtain ⟨rl_6, hw_3, hk_4, hk_5⟩ := bx_e H
  have J_38 : ∀ k_36 σ_37, rl_6 = (.inl (k_36, σ_37)) → YY l E M_X12_ringsOfBytes 5 0 0 (pS (some (zv r)) σ') 113 [some (vr 277), some (vl count_0), none, some (vl k_36), none, none, none] [] σ_37 0 0 := by
    intro k_36 σ_37 e
    have H := hk_4 _ e
    refine z_zconst (M := M_X12_ringsOfBytes) (b := true) dX12_ringsOfBytes_113 rfl ?_
    cases H
    exact z_zret (M := M_X12_ringsOfBytes) dX12_ringsOfBytes_114 rfl (Nat.le_of_ble_eq_true rfl) (Nat.le_of_ble_eq_true rfl) ⟨rfl, rfl⟩
  refine whl_go hw_3 (fun (k_1, σ_2) => YY l E M_X12_ringsOfBytes 5 0 0 (pS (some (zv r)) σ') 2 [some (vr 277), some (vl count_0), none, some (vl k_1), none, none, none] [] σ_2 0 0) ?_
  rintro ⟨k_1, σ_2⟩ o_7 H K_8 K_9
  refine z_lload_n (M := M_X12_ringsOfBytes) dX12_ringsOfBytes_2 rfl ?_
  refine z_lload_n (M := M_X12_ringsOfBytes) dX12_ringsOfBytes_3 rfl ?_
  refine z_lcmp (M := M_X12_ringsOfBytes) dX12_ringsOfBytes_4 ?_
  rcases if_e H with ⟨h_10, H⟩ | ⟨h_10, H⟩
  · refine z_lif_ge_f (M := M_X12_ringsOfBytes) (tgt := 113) dX12_ringsOfBytes_5 (by decide) rfl rfl h_10 ?_
    refine z_aload_n (M := M_X12_ringsOfBytes) dX12_ringsOfBytes_8 rfl ?_
    refine z_getR (M := M_X12_ringsOfBytes) (ci := 15) (C := RX12) (T := TX12) (Nf := 135) (ty := tyX12) cl15 dX12_ringsOfBytes_9 ly_277 9 (by decide) t_2400 rfl ?_
    refine z_bipush (M := M_X12_ringsOfBytes) dX12_ringsOfBytes_12 (by decide +kernel) ?_
    obtain ⟨x_11, x_11_e, hi_12, H⟩ := rd_e H
    refine z_iald (M := M_X12_ringsOfBytes) dX12_ringsOfBytes_14 ly_280 rfl (by decide +kernel) rfl hi_12 x_11_e ?_
    refine z_sipush (M := M_X12_ringsOfBytes) dX12_ringsOfBytes_15 (by decide +kernel) ?_
    rcases if_e H with ⟨h_13, H⟩ | ⟨h_13, H⟩
    · refine z_icmp_ne_f (M := M_X12_ringsOfBytes) (tgt := 32) dX12_ringsOfBytes_18 (by decide) rfl (by decide +kernel) h_13 ?_
      refine z_aload_n (M := M_X12_ringsOfBytes) dX12_ringsOfBytes_21 rfl ?_
      refine z_bipush (M := M_X12_ringsOfBytes) dX12_ringsOfBytes_22 (by decide +kernel) ?_
      refine z_aload_n (M := M_X12_ringsOfBytes) dX12_ringsOfBytes_24 rfl ?_
      refine z_getI (M := M_X12_ringsOfBytes) (ci := 15) (C := RX12) (T := TX12) (Nf := 135) (ty := tyX12) cl15 dX12_ringsOfBytes_25 ly_277 17 (by decide) t_2408 rfl rfl ?_
      obtain ⟨⟨x_16, σ_15⟩, hc_14, H⟩ := bd_e H
      refine z_callV (M := M_X12_ringsOfBytes) (M' := M_X12_wrong) (as := [vi 7, vi (σ_2 kR_at 0)]) (rest := []) rfl rfl dX12_ringsOfBytes_28 m_X12_wrong t_2874 t_2876 s_166 (c_X12_wrong hl  hc_14) rfl rfl ly_277 rfl (Nat.le_of_ble_eq_true rfl) (Nat.le_of_ble_eq_true rfl) (Nat.le_of_ble_eq_true rfl) (Nat.le_of_ble_eq_true rfl) ?_
      refine z_st (st' := [zv x_16]) rfl ?_
      have H := congrArg some (hk_5 _ ((K_9 _ (Option.some.inj H).symm).symm))
      cases H
      exact z_zret (M := M_X12_ringsOfBytes) dX12_ringsOfBytes_31 rfl (Nat.le_of_ble_eq_true rfl) (Nat.le_of_ble_eq_true rfl) ⟨rfl, rfl⟩
    · refine z_icmp_ne_t (M := M_X12_ringsOfBytes) (tgt := 32) dX12_ringsOfBytes_18 (by decide) rfl (by decide +kernel) h_13 ?_
      refine z_aload_n (M := M_X12_ringsOfBytes) dX12_ringsOfBytes_32 rfl ?_
      refine z_iconst (M := M_X12_ringsOfBytes) dX12_ringsOfBytes_33 ?_
      refine z_callV (M := M_X12_ringsOfBytes) (M' := M_X12_there) (as := [vi 4]) (rest := []) rfl rfl dX12_ringsOfBytes_34 m_X12_there t_2974 t_2976 s_187 (c_X12_there hl  rfl) rfl rfl ly_277 rfl (Nat.le_of_ble_eq_true rfl) (Nat.le_of_ble_eq_true rfl) (Nat.le_of_ble_eq_true rfl) (Nat.le_of_ble_eq_true rfl) ?_
      refine z_st (st' := [zv (fR_there σ_2 4)]) rfl ?_
      rcases if_e H with ⟨h_17, H⟩ | ⟨h_17, H⟩
      · refine z_zne_t (M := M_X12_ringsOfBytes) (tgt := 50) dX12_ringsOfBytes_37 (by decide) h_17 ?_
        refine z_aload_n (M := M_X12_ringsOfBytes) dX12_ringsOfBytes_50 rfl ?_
        refine z_aload_n (M := M_X12_ringsOfBytes) dX12_ringsOfBytes_51 rfl ?_
        refine z_getI (M := M_X12_ringsOfBytes) (ci := 15) (C := RX12) (T := TX12) (Nf := 135) (ty := tyX12) cl15 dX12_ringsOfBytes_52 ly_277 17 (by decide) t_2408 rfl rfl ?_
        refine z_iconst (M := M_X12_ringsOfBytes) dX12_ringsOfBytes_55 ?_
        obtain ⟨x_19, hc_18, H⟩ := bd_e H
        refine z_callV (M := M_X12_ringsOfBytes) (M' := M_X12_whole) (as := [vi (σ_2 kR_at 0), vi 4]) (rest := []) rfl rfl dX12_ringsOfBytes_56 m_X12_whole t_2978 t_2980 s_188 (c_X12_whole hl  hc_18) rfl rfl ly_277 rfl (Nat.le_of_ble_eq_true rfl) (Nat.le_of_ble_eq_true rfl) (Nat.le_of_ble_eq_true rfl) (Nat.le_of_ble_eq_true rfl) ?_
        refine z_st (st' := [vl x_19]) rfl ?_
        refine z_lstore (M := M_X12_ringsOfBytes) (lv' := [some (vr 277), some (vl count_0), none, some (vl k_1), none, some (vl x_19), none]) dX12_ringsOfBytes_59 (Nat.le_of_ble_eq_true rfl) rfl rfl ?_
        refine z_lload (M := M_X12_ringsOfBytes) dX12_ringsOfBytes_61 rfl ?_
        refine z_lconst (M := M_X12_ringsOfBytes) (m := 0) dX12_ringsOfBytes_63 (by decide +kernel) ?_
        refine z_lcmp (M := M_X12_ringsOfBytes) dX12_ringsOfBytes_64 ?_
        rcases if_e H with ⟨h_20, H⟩ | ⟨h_20, H⟩
        · refine z_lif_ne_f (M := M_X12_ringsOfBytes) (tgt := 78) dX12_ringsOfBytes_65 (by decide) rfl (by decide +kernel) h_20 ?_
          refine z_aload_n (M := M_X12_ringsOfBytes) dX12_ringsOfBytes_68 rfl ?_
          refine z_iconst (M := M_X12_ringsOfBytes) dX12_ringsOfBytes_69 ?_
          refine z_aload_n (M := M_X12_ringsOfBytes) dX12_ringsOfBytes_70 rfl ?_
          refine z_getI (M := M_X12_ringsOfBytes) (ci := 15) (C := RX12) (T := TX12) (Nf := 135) (ty := tyX12) cl15 dX12_ringsOfBytes_71 ly_277 17 (by decide) t_2408 rfl rfl ?_
          obtain ⟨⟨x_23, σ_22⟩, hc_21, H⟩ := bd_e H
          refine z_callV (M := M_X12_ringsOfBytes) (M' := M_X12_wrong) (as := [vi 4, vi (σ_2 kR_at 0)]) (rest := []) rfl rfl dX12_ringsOfBytes_74 m_X12_wrong t_2874 t_2876 s_166 (c_X12_wrong hl  hc_21) rfl rfl ly_277 rfl (Nat.le_of_ble_eq_true rfl) (Nat.le_of_ble_eq_true rfl) (Nat.le_of_ble_eq_true rfl) (Nat.le_of_ble_eq_true rfl) ?_
          refine z_st (st' := [zv x_23]) rfl ?_
          have H := congrArg some (hk_5 _ ((K_9 _ (Option.some.inj H).symm).symm))
          cases H
          exact z_zret (M := M_X12_ringsOfBytes) dX12_ringsOfBytes_77 rfl (Nat.le_of_ble_eq_true rfl) (Nat.le_of_ble_eq_true rfl) ⟨rfl, rfl⟩
        · refine z_lif_ne_t (M := M_X12_ringsOfBytes) (tgt := 78) dX12_ringsOfBytes_65 (by decide) rfl (by decide +kernel) h_20 ?_
          refine z_aload_n (M := M_X12_ringsOfBytes) dX12_ringsOfBytes_78 rfl ?_
          refine z_dup (M := M_X12_ringsOfBytes) dX12_ringsOfBytes_79 rfl ?_
          refine z_getI (M := M_X12_ringsOfBytes) (ci := 15) (C := RX12) (T := TX12) (Nf := 135) (ty := tyX12) cl15 dX12_ringsOfBytes_80 ly_277 17 (by decide) t_2408 rfl rfl ?_
          refine z_iconst (M := M_X12_ringsOfBytes) dX12_ringsOfBytes_83 ?_
          refine z_iadd (M := M_X12_ringsOfBytes) dX12_ringsOfBytes_84 ?_
          obtain ⟨σ_24, σ_24_e, H⟩ := wf_e H
          refine z_putI (M := M_X12_ringsOfBytes) (ci := 15) (C := RX12) (T := TX12) (Nf := 135) (ty := tyX12) cl15 dX12_ringsOfBytes_85 ly_277 17 (by decide) t_2408 rfl rfl rfl rfl σ_24_e ?_
          refine z_aload_n (M := M_X12_ringsOfBytes) dX12_ringsOfBytes_88 rfl ?_
          refine z_lload (M := M_X12_ringsOfBytes) dX12_ringsOfBytes_89 rfl ?_
          refine z_l2i (M := M_X12_ringsOfBytes) dX12_ringsOfBytes_91 ?_
          obtain ⟨σ_26, hc_25, H⟩ := bd_e H
          refine z_callV (M := M_X12_ringsOfBytes) (M' := M_X12_tell) (as := [vi x_19]) (rest := []) rfl rfl dX12_ringsOfBytes_92 m_X12_tell t_2902 t_2904 s_170 (c_X12_tell hl  hc_25) rfl rfl ly_277 rfl (Nat.le_of_ble_eq_true rfl) (Nat.le_of_ble_eq_true rfl) (Nat.le_of_ble_eq_true rfl) (Nat.le_of_ble_eq_true rfl) ?_
          refine z_st (st' := []) rfl ?_
          refine z_aload_n (M := M_X12_ringsOfBytes) dX12_ringsOfBytes_95 rfl ?_
          refine z_lload (M := M_X12_ringsOfBytes) dX12_ringsOfBytes_96 rfl ?_
          obtain ⟨⟨x_29, σ_28⟩, hc_27, H⟩ := bd_e H
          refine z_callV (M := M_X12_ringsOfBytes) (M' := M_X12_rowOfBytes) (as := [vl x_19]) (rest := []) rfl rfl dX12_ringsOfBytes_98 m_X12_rowOfBytes t_3009 t_3011 s_193 (c_X12_rowOfBytes hl  hc_27) rfl rfl ly_277 rfl (Nat.le_of_ble_eq_true rfl) (Nat.le_of_ble_eq_true rfl) (Nat.le_of_ble_eq_true rfl) (Nat.le_of_ble_eq_true rfl) ?_
          refine z_st (st' := [zv x_29]) rfl ?_
          rcases if_e H with ⟨h_30, H⟩ | ⟨h_30, H⟩
          · refine z_zne_t (M := M_X12_ringsOfBytes) (tgt := 106) dX12_ringsOfBytes_101 (by decide) h_30 ?_
            refine z_lload_n (M := M_X12_ringsOfBytes) dX12_ringsOfBytes_106 rfl ?_
            refine z_lconst (M := M_X12_ringsOfBytes) (m := 1) dX12_ringsOfBytes_107 (by decide +kernel) ?_
            refine z_ladd (M := M_X12_ringsOfBytes) dX12_ringsOfBytes_108 ?_
            refine z_lstore_n (M := M_X12_ringsOfBytes) (lv' := [some (vr 277), some (vl count_0), none, some (vl (k_1 + 1)), none, some (vl x_19), none]) dX12_ringsOfBytes_109 (Nat.le_of_ble_eq_true rfl) rfl rfl ?_
            refine z_goto (M := M_X12_ringsOfBytes) (tgt := 2) dX12_ringsOfBytes_110 (by decide) ?_
            refine z_le (lv' := [some (vr 277), some (vl count_0), none, some (vl (k_1 + 1)), none, none, none]) ⟨Or.inr rfl, Or.inr rfl, Or.inl rfl, Or.inr rfl, Or.inl rfl, Or.inl rfl, Or.inl rfl, trivial⟩ ?_
            exact K_8 _ (Option.some.inj H).symm
          · refine z_zne_f (M := M_X12_ringsOfBytes) (tgt := 106) dX12_ringsOfBytes_101 (by decide) h_30 ?_
            refine z_zconst (M := M_X12_ringsOfBytes) (b := false) dX12_ringsOfBytes_104 rfl ?_
            have H := congrArg some (hk_5 _ ((K_9 _ (Option.some.inj H).symm).symm))
            cases H
            exact z_zret (M := M_X12_ringsOfBytes) dX12_ringsOfBytes_105 rfl (Nat.le_of_ble_eq_true rfl) (Nat.le_of_ble_eq_true rfl) ⟨rfl, rfl⟩
      · refine z_zne_f (M := M_X12_ringsOfBytes) (tgt := 50) dX12_ringsOfBytes_37 (by decide) h_17 ?_
        refine z_aload_n (M := M_X12_ringsOfBytes) dX12_ringsOfBytes_40 rfl ?_
        refine z_iconst (M := M_X12_ringsOfBytes) dX12_ringsOfBytes_41 ?_
        refine z_aload_n (M := M_X12_ringsOfBytes) dX12_ringsOfBytes_42 rfl ?_
        refine z_getI (M := M_X12_ringsOfBytes) (ci := 15) (C := RX12) (T := TX12) (Nf := 135) (ty := tyX12) cl15 dX12_ringsOfBytes_43 ly_277 17 (by decide) t_2408 rfl rfl ?_
        obtain ⟨⟨x_34, σ_33⟩, hc_32, H⟩ := bd_e H
        refine z_callV (M := M_X12_ringsOfBytes) (M' := M_X12_wrong) (as := [vi 3, vi (σ_2 kR_at 0)]) (rest := []) rfl rfl dX12_ringsOfBytes_46 m_X12_wrong t_2874 t_2876 s_166 (c_X12_wrong hl  hc_32) rfl rfl ly_277 rfl (Nat.le_of_ble_eq_true rfl) (Nat.le_of_ble_eq_true rfl) (Nat.le_of_ble_eq_true rfl) (Nat.le_of_ble_eq_true rfl) ?_
        refine z_st (st' := [zv x_34]) rfl ?_
        have H := congrArg some (hk_5 _ ((K_9 _ (Option.some.inj H).symm).symm))
        cases H
        exact z_zret (M := M_X12_ringsOfBytes) dX12_ringsOfBytes_49 rfl (Nat.le_of_ble_eq_true rfl) (Nat.le_of_ble_eq_true rfl) ⟨rfl, rfl⟩
  · refine z_lif_ge_t (M := M_X12_ringsOfBytes) (tgt := 113) dX12_ringsOfBytes_5 (by decide) rfl rfl (Int.not_lt.mp h_10) ?_
    exact J_38 _ _ (K_9 _ (Option.some.inj H).symm).symm
end LFAN
