section LFAF
variable {l : Launch} {E : EE}
theorem c_X8_pixelAt (hl : l.stackTraces = false) {σ : SG} {start_0 : Int} {way_0 : Int} {share_0 : Int} {whole_0 : Int} {r : Int}  (H : fN_pixelAt start_0 way_0 share_0 whole_0 = some r) : en_S l E M_X8_pixelAt 1 0 0 [vi start_0, vi way_0, vl share_0, vl whole_0] σ (pS (some (vi r)) σ) := by
  unfold fN_pixelAt at H
  refine z_mk (lv := [some (vi start_0), some (vi way_0), some (vl share_0), none, some (vl whole_0), none, none, none, none, none, none, none, none, none, none]) m_X8_pixelAt rfl hl (Nat.le_of_ble_eq_true rfl) rfl ?_
  refine z_lload (M := M_X8_pixelAt) dX8_pixelAt_0 rfl ?_
  refine z_lconst (M := M_X8_pixelAt) (m := 0) dX8_pixelAt_2 (by decide +kernel) ?_
  refine z_lcmp (M := M_X8_pixelAt) dX8_pixelAt_3 ?_
  rcases if_e H with ⟨h_1, H⟩ | ⟨h_1, H⟩
  · refine z_lif_gt_f (M := M_X8_pixelAt) (tgt := 9) dX8_pixelAt_4 (by decide) rfl (by decide +kernel) h_1 ?_
    refine z_iload_n (M := M_X8_pixelAt) dX8_pixelAt_7 rfl ?_
    cases H
    exact z_iret (M := M_X8_pixelAt) dX8_pixelAt_8 rfl (Nat.le_of_ble_eq_true rfl) (Nat.le_of_ble_eq_true rfl) ⟨rfl, rfl⟩
  · refine z_lif_gt_t (M := M_X8_pixelAt) (tgt := 9) dX8_pixelAt_4 (by decide) rfl (by decide +kernel) (Int.not_le.mp h_1) ?_
    refine z_iload_n (M := M_X8_pixelAt) dX8_pixelAt_9 rfl ?_
    refine z_mabs (M := M_X8_pixelAt) dX8_pixelAt_10 t_1446 t_1092 t_20 t_1093 (Nat.le_of_ble_eq_true rfl) (Nat.le_of_ble_eq_true rfl) (Nat.le_of_ble_eq_true rfl) (Nat.le_of_ble_eq_true rfl) ?_
    refine z_i2l (M := M_X8_pixelAt) dX8_pixelAt_13 ?_
    refine z_lstore (M := M_X8_pixelAt) (lv' := [some (vi start_0), some (vi way_0), some (vl share_0), none, some (vl whole_0), none, some (vl (w32 (q_abi way_0))), none, none, none, none, none, none, none, none]) dX8_pixelAt_14 (Nat.le_of_ble_eq_true rfl) rfl rfl ?_
    refine z_lconst (M := M_X8_pixelAt) (m := 0) dX8_pixelAt_16 (by decide +kernel) ?_
    refine z_lstore (M := M_X8_pixelAt) (lv' := [some (vi start_0), some (vi way_0), some (vl share_0), none, some (vl whole_0), none, some (vl (w32 (q_abi way_0))), none, some (vl 0), none, none, none, none, none, none]) dX8_pixelAt_17 (Nat.le_of_ble_eq_true rfl) rfl rfl ?_
    refine z_lconst (M := M_X8_pixelAt) (m := 0) dX8_pixelAt_19 (by decide +kernel) ?_
    refine z_lstore (M := M_X8_pixelAt) (lv' := [some (vi start_0), some (vi way_0), some (vl share_0), none, some (vl whole_0), none, some (vl (w32 (q_abi way_0))), none, some (vl 0), none, some (vl 0), none, none, none, none]) dX8_pixelAt_20 (Nat.le_of_ble_eq_true rfl) rfl rfl ?_
    obtain ⟨v_5, he_2, hk_3⟩ := bd_e H
    have J_49 : ∀ value_32 rest_33, v_5 = (value_32, rest_33) → YY l E M_X8_pixelAt 1 0 0 (pS (some (vi r)) σ) 120 [some (vi start_0), some (vi way_0), some (vl share_0), none, some (vl whole_0), none, some (vl (w32 (q_abi way_0))), none, some (vl value_32), none, some (vl rest_33), none, none, none, none] [] σ 0 0 := by
      intro value_32 rest_33 e
      have H := hk_3
      rw [e] at H
      have J_38 : YY l E M_X8_pixelAt 1 0 0 (pS (some (vi r)) σ) 161 [some (vi start_0), some (vi way_0), some (vl share_0), none, some (vl whole_0), none, some (vl (w32 (q_abi way_0))), none, some (vl value_32), none, some (vl rest_33), none, none, none, none] [zv (if 0 ≤ (w32 way_0) then (decide ((w64 whole_0) ≤ (w64 (2 * rest_33)))) else (decide ((w64 whole_0) < (w64 (2 * rest_33)))) : Bool)] σ 0 0 := by
        obtain ⟨x_39, x_39_e, H⟩ := lt_e H
        refine z_st (congrArg (fun z => zv z :: []) x_39_e) ?_
        refine z_zstore (M := M_X8_pixelAt) (lv' := [some (vi start_0), some (vi way_0), some (vl share_0), none, some (vl whole_0), none, some (vl (w32 (q_abi way_0))), none, some (vl value_32), none, some (vl rest_33), none, some (zv x_39), none, none]) dX8_pixelAt_161 (Nat.le_of_ble_eq_true rfl) rfl rfl ?_
        have J_40 : YY l E M_X8_pixelAt 1 0 0 (pS (some (vi r)) σ) 177 [some (vi start_0), some (vi way_0), some (vl share_0), none, some (vl whole_0), none, some (vl (w32 (q_abi way_0))), none, some (vl value_32), none, some (vl rest_33), none, some (zv x_39), none, none] [vl (if x_39 = true then (value_32 + 1) else value_32)] σ 0 0 := by
          refine z_lstore (M := M_X8_pixelAt) (lv' := [some (vi start_0), some (vi way_0), some (vl share_0), none, some (vl whole_0), none, some (vl (w32 (q_abi way_0))), none, some (vl value_32), none, some (vl rest_33), none, some (zv x_39), some (vl (if x_39 = true then (value_32 + 1) else value_32)), none]) dX8_pixelAt_177 (Nat.le_of_ble_eq_true rfl) rfl rfl ?_
          have J_41 : YY l E M_X8_pixelAt 1 0 0 (pS (some (vi r)) σ) 196 [some (vi start_0), some (vi way_0), some (vl share_0), none, some (vl whole_0), none, some (vl (w32 (q_abi way_0))), none, some (vl value_32), none, some (vl rest_33), none, some (zv x_39), some (vl (if x_39 = true then (value_32 + 1) else value_32)), none] [vl (if 0 ≤ (w32 way_0) then ((w32 start_0) + (if x_39 = true then (value_32 + 1) else value_32)) else ((w32 start_0) - (if x_39 = true then (value_32 + 1) else value_32)))] σ 0 0 := by
            refine z_l2i (M := M_X8_pixelAt) dX8_pixelAt_196 ?_
            cases H
            exact z_iret (M := M_X8_pixelAt) dX8_pixelAt_197 rfl (Nat.le_of_ble_eq_true rfl) (Nat.le_of_ble_eq_true rfl) ⟨rfl, rfl⟩
          refine z_iload_n (M := M_X8_pixelAt) dX8_pixelAt_179 rfl ?_
          by_cases h_42 : 0 ≤ (w32 way_0)
          · refine z_if_lt_f (M := M_X8_pixelAt) (tgt := 191) dX8_pixelAt_180 (by decide) rfl h_42 ?_
            refine z_iload_n (M := M_X8_pixelAt) dX8_pixelAt_183 rfl ?_
            refine z_i2l (M := M_X8_pixelAt) dX8_pixelAt_184 ?_
            refine z_lload (M := M_X8_pixelAt) dX8_pixelAt_185 rfl ?_
            refine z_ladd (M := M_X8_pixelAt) dX8_pixelAt_187 ?_
            refine z_goto (M := M_X8_pixelAt) (tgt := 196) dX8_pixelAt_188 (by decide) ?_
            exact z_st (by rw [if_pos (c := 0 ≤ (w32 way_0)) h_42]) J_41
          · refine z_if_lt_t (M := M_X8_pixelAt) (tgt := 191) dX8_pixelAt_180 (by decide) rfl (Int.not_le.mp h_42) ?_
            refine z_iload_n (M := M_X8_pixelAt) dX8_pixelAt_191 rfl ?_
            refine z_i2l (M := M_X8_pixelAt) dX8_pixelAt_192 ?_
            refine z_lload (M := M_X8_pixelAt) dX8_pixelAt_193 rfl ?_
            refine z_lsub (M := M_X8_pixelAt) dX8_pixelAt_195 ?_
            exact z_st (by rw [if_neg (c := 0 ≤ (w32 way_0)) h_42]) J_41
        refine z_zload (M := M_X8_pixelAt) dX8_pixelAt_163 rfl ?_
        by_cases h_43 : x_39 = true
        · refine z_zeq_f (M := M_X8_pixelAt) (tgt := 175) dX8_pixelAt_165 (by decide) h_43 ?_
          refine z_lload (M := M_X8_pixelAt) dX8_pixelAt_168 rfl ?_
          refine z_lconst (M := M_X8_pixelAt) (m := 1) dX8_pixelAt_170 (by decide +kernel) ?_
          refine z_ladd (M := M_X8_pixelAt) dX8_pixelAt_171 ?_
          refine z_goto (M := M_X8_pixelAt) (tgt := 177) dX8_pixelAt_172 (by decide) ?_
          exact z_st (by rw [if_pos (c := x_39 = true) h_43]) J_40
        · refine z_zeq_t (M := M_X8_pixelAt) (tgt := 175) dX8_pixelAt_165 (by decide) h_43 ?_
          refine z_lload (M := M_X8_pixelAt) dX8_pixelAt_175 rfl ?_
          exact z_st (by rw [if_neg (c := x_39 = true) h_43]) J_40
      refine z_iload_n (M := M_X8_pixelAt) dX8_pixelAt_120 rfl ?_
      by_cases h_44 : 0 ≤ (w32 way_0)
      · refine z_if_lt_f (M := M_X8_pixelAt) (tgt := 144) dX8_pixelAt_121 (by decide) rfl h_44 ?_
        have J_45 : YY l E M_X8_pixelAt 1 0 0 (pS (some (vi r)) σ) 161 [some (vi start_0), some (vi way_0), some (vl share_0), none, some (vl whole_0), none, some (vl (w32 (q_abi way_0))), none, some (vl value_32), none, some (vl rest_33), none, none, none, none] [zv (decide ((w64 whole_0) ≤ (w64 (2 * rest_33))))] σ 0 0 := by
          exact z_st (by rw [if_pos (c := 0 ≤ (w32 way_0)) h_44]) J_38
        refine z_ldc2 (M := M_X8_pixelAt) (n := 2) dX8_pixelAt_124 t_1448 (by decide +kernel) ?_
        refine z_lload (M := M_X8_pixelAt) dX8_pixelAt_127 rfl ?_
        refine z_lmul (M := M_X8_pixelAt) dX8_pixelAt_129 ?_
        refine z_lload (M := M_X8_pixelAt) dX8_pixelAt_130 rfl ?_
        refine z_lcmp (M := M_X8_pixelAt) dX8_pixelAt_132 ?_
        by_cases h_46 : (w64 whole_0) ≤ (w64 (2 * rest_33))
        · refine z_lif_lt_f (M := M_X8_pixelAt) (tgt := 140) dX8_pixelAt_133 (by decide) rfl rfl h_46 ?_
          refine z_iconst (M := M_X8_pixelAt) dX8_pixelAt_136 ?_
          refine z_goto (M := M_X8_pixelAt) (tgt := 161) dX8_pixelAt_137 (by decide) ?_
          exact z_st (by rw [zv_t (p := (w64 whole_0) ≤ (w64 (2 * rest_33))) h_46]) J_45
        · refine z_lif_lt_t (M := M_X8_pixelAt) (tgt := 140) dX8_pixelAt_133 (by decide) rfl rfl (Int.not_le.mp h_46) ?_
          refine z_iconst (M := M_X8_pixelAt) dX8_pixelAt_140 ?_
          refine z_goto (M := M_X8_pixelAt) (tgt := 161) dX8_pixelAt_141 (by decide) ?_
          exact z_st (by rw [zv_f (p := (w64 whole_0) ≤ (w64 (2 * rest_33))) h_46]) J_45
      · refine z_if_lt_t (M := M_X8_pixelAt) (tgt := 144) dX8_pixelAt_121 (by decide) rfl (Int.not_le.mp h_44) ?_
        have J_47 : YY l E M_X8_pixelAt 1 0 0 (pS (some (vi r)) σ) 161 [some (vi start_0), some (vi way_0), some (vl share_0), none, some (vl whole_0), none, some (vl (w32 (q_abi way_0))), none, some (vl value_32), none, some (vl rest_33), none, none, none, none] [zv (decide ((w64 whole_0) < (w64 (2 * rest_33))))] σ 0 0 := by
          exact z_st (by rw [if_neg (c := 0 ≤ (w32 way_0)) h_44]) J_38
        refine z_ldc2 (M := M_X8_pixelAt) (n := 2) dX8_pixelAt_144 t_1448 (by decide +kernel) ?_
        refine z_lload (M := M_X8_pixelAt) dX8_pixelAt_147 rfl ?_
        refine z_lmul (M := M_X8_pixelAt) dX8_pixelAt_149 ?_
        refine z_lload (M := M_X8_pixelAt) dX8_pixelAt_150 rfl ?_
        refine z_lcmp (M := M_X8_pixelAt) dX8_pixelAt_152 ?_
        by_cases h_48 : (w64 whole_0) < (w64 (2 * rest_33))
        · refine z_lif_le_f (M := M_X8_pixelAt) (tgt := 160) dX8_pixelAt_153 (by decide) rfl rfl h_48 ?_
          refine z_iconst (M := M_X8_pixelAt) dX8_pixelAt_156 ?_
          refine z_goto (M := M_X8_pixelAt) (tgt := 161) dX8_pixelAt_157 (by decide) ?_
          exact z_st (by rw [zv_t (p := (w64 whole_0) < (w64 (2 * rest_33))) h_48]) J_47
        · refine z_lif_le_t (M := M_X8_pixelAt) (tgt := 160) dX8_pixelAt_153 (by decide) rfl rfl (Int.not_lt.mp h_48) ?_
          refine z_iconst (M := M_X8_pixelAt) dX8_pixelAt_160 ?_
          exact z_st (by rw [zv_f (p := (w64 whole_0) < (w64 (2 * rest_33))) h_48]) J_47
    have H := he_2
    refine z_lload_n (M := M_X8_pixelAt) dX8_pixelAt_22 rfl ?_
    refine z_ldc2 (M := M_X8_pixelAt) (n := 2147483647) dX8_pixelAt_23 t_1447 (by decide +kernel) ?_
    refine z_lcmp (M := M_X8_pixelAt) dX8_pixelAt_26 ?_
    rcases if_e H with ⟨h_6, H⟩ | ⟨h_6, H⟩
    · refine z_lif_gt_f (M := M_X8_pixelAt) (tgt := 51) dX8_pixelAt_27 (by decide) rfl (by decide +kernel) h_6 ?_
      refine z_lload (M := M_X8_pixelAt) dX8_pixelAt_30 rfl ?_
      refine z_lload_n (M := M_X8_pixelAt) dX8_pixelAt_32 rfl ?_
      refine z_lmul (M := M_X8_pixelAt) dX8_pixelAt_33 ?_
      refine z_lload (M := M_X8_pixelAt) dX8_pixelAt_34 rfl ?_
      obtain ⟨hd_7, H⟩ := ck_e H
      refine z_ldiv (M := M_X8_pixelAt) dX8_pixelAt_36 hd_7 ?_
      refine z_lstore (M := M_X8_pixelAt) (lv' := [some (vi start_0), some (vi way_0), some (vl share_0), none, some (vl whole_0), none, some (vl (w32 (q_abi way_0))), none, some (vl (q_ldv ((w32 (q_abi way_0)) * share_0) whole_0)), none, some (vl 0), none, none, none, none]) dX8_pixelAt_37 (Nat.le_of_ble_eq_true rfl) rfl rfl ?_
      refine z_lload (M := M_X8_pixelAt) dX8_pixelAt_39 rfl ?_
      refine z_lload_n (M := M_X8_pixelAt) dX8_pixelAt_41 rfl ?_
      refine z_lmul (M := M_X8_pixelAt) dX8_pixelAt_42 ?_
      refine z_lload (M := M_X8_pixelAt) dX8_pixelAt_43 rfl ?_
      obtain ⟨hd_8, H⟩ := ck_e H
      refine z_lrem (M := M_X8_pixelAt) dX8_pixelAt_45 hd_8 ?_
      refine z_lstore (M := M_X8_pixelAt) (lv' := [some (vi start_0), some (vi way_0), some (vl share_0), none, some (vl whole_0), none, some (vl (w32 (q_abi way_0))), none, some (vl (q_ldv ((w32 (q_abi way_0)) * share_0) whole_0)), none, some (vl (q_lrm ((w32 (q_abi way_0)) * share_0) whole_0)), none, none, none, none]) dX8_pixelAt_46 (Nat.le_of_ble_eq_true rfl) rfl rfl ?_
      refine z_goto (M := M_X8_pixelAt) (tgt := 120) dX8_pixelAt_48 (by decide) ?_
      exact J_49 _ _ (Option.some.inj H).symm
    · refine z_lif_gt_t (M := M_X8_pixelAt) (tgt := 51) dX8_pixelAt_27 (by decide) rfl (by decide +kernel) (Int.not_le.mp h_6) ?_
      refine z_bipush (M := M_X8_pixelAt) dX8_pixelAt_51 (by decide +kernel) ?_
      refine z_istore (M := M_X8_pixelAt) (lv' := [some (vi start_0), some (vi way_0), some (vl share_0), none, some (vl whole_0), none, some (vl (w32 (q_abi way_0))), none, some (vl 0), none, some (vl 0), none, some (vi 30), none, none]) dX8_pixelAt_53 (Nat.le_of_ble_eq_true rfl) rfl rfl ?_
      obtain ⟨rl_16, hw_13, hk_14⟩ := bd_e H
      have J_31 : ∀ value_27 rest_28 bit_29, rl_16 = (value_27, rest_28, bit_29) → YY l E M_X8_pixelAt 1 0 0 (pS (some (vi r)) σ) 120 [some (vi start_0), some (vi way_0), some (vl share_0), none, some (vl whole_0), none, some (vl (w32 (q_abi way_0))), none, some (vl value_27), none, some (vl rest_28), none, some (vi bit_29), none, none] [] σ 0 0 := by
        intro value_27 rest_28 bit_29 e
        have H := hk_14
        rw [e] at H
        refine z_le (lv' := [some (vi start_0), some (vi way_0), some (vl share_0), none, some (vl whole_0), none, some (vl (w32 (q_abi way_0))), none, some (vl value_27), none, some (vl rest_28), none, none, none, none]) ⟨Or.inr rfl, Or.inr rfl, Or.inr rfl, Or.inl rfl, Or.inr rfl, Or.inl rfl, Or.inr rfl, Or.inl rfl, Or.inr rfl, Or.inl rfl, Or.inr rfl, Or.inl rfl, Or.inl rfl, Or.inl rfl, Or.inl rfl, trivial⟩ ?_
        exact J_49 _ _ (Option.some.inj H).symm
      refine whl_go hw_13 (fun (value_10, rest_11, bit_12) => YY l E M_X8_pixelAt 1 0 0 (pS (some (vi r)) σ) 55 [some (vi start_0), some (vi way_0), some (vl share_0), none, some (vl whole_0), none, some (vl (w32 (q_abi way_0))), none, some (vl value_10), none, some (vl rest_11), none, some (vi bit_12), none, none] [] σ 0 0) ?_
      rintro ⟨value_10, rest_11, bit_12⟩ o_17 H K_18 K_19
      refine z_iload (M := M_X8_pixelAt) dX8_pixelAt_55 rfl ?_
      rcases if_e H with ⟨h_20, H⟩ | ⟨h_20, H⟩
      · refine z_if_lt_f (M := M_X8_pixelAt) (tgt := 120) dX8_pixelAt_57 (by decide) rfl h_20 ?_
        refine z_ldc2 (M := M_X8_pixelAt) (n := 2) dX8_pixelAt_60 t_1448 (by decide +kernel) ?_
        refine z_lload (M := M_X8_pixelAt) dX8_pixelAt_63 rfl ?_
        refine z_lmul (M := M_X8_pixelAt) dX8_pixelAt_65 ?_
        have J_21 : YY l E M_X8_pixelAt 1 0 0 (pS (some (vi r)) σ) 83 [some (vi start_0), some (vi way_0), some (vl share_0), none, some (vl whole_0), none, some (vl (w32 (q_abi way_0))), none, some (vl value_10), none, some (vl rest_11), none, some (vi bit_12), none, none] [vl (if (w64 (q_lan (q_lsr (w32 (q_abi way_0)) bit_12) 1)) = 1 then share_0 else 0), vl (2 * rest_11)] σ 0 0 := by
          refine z_ladd (M := M_X8_pixelAt) dX8_pixelAt_83 ?_
          obtain ⟨x_22, x_22_e, H⟩ := lt_e H
          refine z_st (congrArg (fun z => vl z :: []) x_22_e) ?_
          refine z_lstore (M := M_X8_pixelAt) (lv' := [some (vi start_0), some (vi way_0), some (vl share_0), none, some (vl whole_0), none, some (vl (w32 (q_abi way_0))), none, some (vl value_10), none, some (vl x_22), none, some (vi bit_12), none, none]) dX8_pixelAt_84 (Nat.le_of_ble_eq_true rfl) rfl rfl ?_
          refine z_lload (M := M_X8_pixelAt) dX8_pixelAt_86 rfl ?_
          refine z_lload (M := M_X8_pixelAt) dX8_pixelAt_88 rfl ?_
          obtain ⟨hd_23, H⟩ := ck_e H
          refine z_ldiv (M := M_X8_pixelAt) dX8_pixelAt_90 hd_23 ?_
          refine z_lstore (M := M_X8_pixelAt) (lv' := [some (vi start_0), some (vi way_0), some (vl share_0), none, some (vl whole_0), none, some (vl (w32 (q_abi way_0))), none, some (vl value_10), none, some (vl x_22), none, some (vi bit_12), some (vl (q_ldv x_22 whole_0)), none]) dX8_pixelAt_91 (Nat.le_of_ble_eq_true rfl) rfl rfl ?_
          refine z_lload (M := M_X8_pixelAt) dX8_pixelAt_93 rfl ?_
          refine z_lload (M := M_X8_pixelAt) dX8_pixelAt_95 rfl ?_
          refine z_lload (M := M_X8_pixelAt) dX8_pixelAt_97 rfl ?_
          refine z_lmul (M := M_X8_pixelAt) dX8_pixelAt_99 ?_
          refine z_lsub (M := M_X8_pixelAt) dX8_pixelAt_100 ?_
          refine z_lstore (M := M_X8_pixelAt) (lv' := [some (vi start_0), some (vi way_0), some (vl share_0), none, some (vl whole_0), none, some (vl (w32 (q_abi way_0))), none, some (vl value_10), none, some (vl (x_22 - ((q_ldv x_22 whole_0) * whole_0))), none, some (vi bit_12), some (vl (q_ldv x_22 whole_0)), none]) dX8_pixelAt_101 (Nat.le_of_ble_eq_true rfl) rfl rfl ?_
          refine z_ldc2 (M := M_X8_pixelAt) (n := 2) dX8_pixelAt_103 t_1448 (by decide +kernel) ?_
          refine z_lload (M := M_X8_pixelAt) dX8_pixelAt_106 rfl ?_
          refine z_lmul (M := M_X8_pixelAt) dX8_pixelAt_108 ?_
          refine z_lload (M := M_X8_pixelAt) dX8_pixelAt_109 rfl ?_
          refine z_ladd (M := M_X8_pixelAt) dX8_pixelAt_111 ?_
          refine z_lstore (M := M_X8_pixelAt) (lv' := [some (vi start_0), some (vi way_0), some (vl share_0), none, some (vl whole_0), none, some (vl (w32 (q_abi way_0))), none, some (vl ((2 * value_10) + (q_ldv x_22 whole_0))), none, some (vl (x_22 - ((q_ldv x_22 whole_0) * whole_0))), none, some (vi bit_12), some (vl (q_ldv x_22 whole_0)), none]) dX8_pixelAt_112 (Nat.le_of_ble_eq_true rfl) rfl rfl ?_
          refine z_iinc (M := M_X8_pixelAt) (lv' := [some (vi start_0), some (vi way_0), some (vl share_0), none, some (vl whole_0), none, some (vl (w32 (q_abi way_0))), none, some (vl ((2 * value_10) + (q_ldv x_22 whole_0))), none, some (vl (x_22 - ((q_ldv x_22 whole_0) * whole_0))), none, some (vi (bit_12 + (-1))), some (vl (q_ldv x_22 whole_0)), none]) dX8_pixelAt_114 rfl (Nat.le_of_ble_eq_true rfl) rfl rfl ?_
          refine z_goto (M := M_X8_pixelAt) (tgt := 55) dX8_pixelAt_117 (by decide) ?_
          refine z_le (lv' := [some (vi start_0), some (vi way_0), some (vl share_0), none, some (vl whole_0), none, some (vl (w32 (q_abi way_0))), none, some (vl ((2 * value_10) + (q_ldv x_22 whole_0))), none, some (vl (x_22 - ((q_ldv x_22 whole_0) * whole_0))), none, some (vi (bit_12 + (-1))), none, none]) ⟨Or.inr rfl, Or.inr rfl, Or.inr rfl, Or.inl rfl, Or.inr rfl, Or.inl rfl, Or.inr rfl, Or.inl rfl, Or.inr rfl, Or.inl rfl, Or.inr rfl, Or.inl rfl, Or.inr rfl, Or.inl rfl, Or.inl rfl, trivial⟩ ?_
          exact K_18 _ (Option.some.inj H).symm
        refine z_lload (M := M_X8_pixelAt) dX8_pixelAt_66 rfl ?_
        refine z_iload (M := M_X8_pixelAt) dX8_pixelAt_68 rfl ?_
        refine z_lshr (M := M_X8_pixelAt) dX8_pixelAt_70 ?_
        refine z_lconst (M := M_X8_pixelAt) (m := 1) dX8_pixelAt_71 (by decide +kernel) ?_
        refine z_land (M := M_X8_pixelAt) dX8_pixelAt_72 ?_
        refine z_lconst (M := M_X8_pixelAt) (m := 1) dX8_pixelAt_73 (by decide +kernel) ?_
        refine z_lcmp (M := M_X8_pixelAt) dX8_pixelAt_74 ?_
        by_cases h_25 : (w64 (q_lan (q_lsr (w32 (q_abi way_0)) bit_12) 1)) = 1
        · refine z_lif_ne_f (M := M_X8_pixelAt) (tgt := 82) dX8_pixelAt_75 (by decide) rfl (by decide +kernel) h_25 ?_
          refine z_lload_n (M := M_X8_pixelAt) dX8_pixelAt_78 rfl ?_
          refine z_goto (M := M_X8_pixelAt) (tgt := 83) dX8_pixelAt_79 (by decide) ?_
          exact z_st (by rw [if_pos (c := (w64 (q_lan (q_lsr (w32 (q_abi way_0)) bit_12) 1)) = 1) h_25]) J_21
        · refine z_lif_ne_t (M := M_X8_pixelAt) (tgt := 82) dX8_pixelAt_75 (by decide) rfl (by decide +kernel) h_25 ?_
          refine z_lconst (M := M_X8_pixelAt) (m := 0) dX8_pixelAt_82 (by decide +kernel) ?_
          exact z_st (by rw [if_neg (c := (w64 (q_lan (q_lsr (w32 (q_abi way_0)) bit_12) 1)) = 1) h_25]) J_21
      · refine z_if_lt_t (M := M_X8_pixelAt) (tgt := 120) dX8_pixelAt_57 (by decide) rfl (Int.not_le.mp h_20) ?_
        exact J_31 _ _ _ (K_19 _ (Option.some.inj H).symm).symm
theorem c_X8_addCrossing (hl : l.stackTraces = false) {σ : SG} {i_0 : Int} {j_0 : Int} {r : Bool} {σ' : SG}  (H : fN_addCrossing σ i_0 j_0 = some (r, σ')) : en_S l E M_X8_addCrossing 5 0 0 [vr 193, vi i_0, vi j_0] σ (pS (some (zv r)) σ') := by
  unfold fN_addCrossing at H
  refine z_mk (lv := [some (vr 193), some (vi i_0), some (vi j_0), none, none, none, none, none, none, none, none, none, none, none, none, none, none]) m_X8_addCrossing rfl hl (Nat.le_of_ble_eq_true rfl) rfl ?_
  refine z_aload_n (M := M_X8_addCrossing) dX8_addCrossing_0 rfl ?_
  refine z_getR (M := M_X8_addCrossing) (ci := 11) (C := RX8) (T := TX8) (Nf := 13) (ty := tyX8) cl11 dX8_addCrossing_1 ly_193 0 (by decide) t_327 rfl ?_
  refine z_getR (M := M_X8_addCrossing) (ci := 8) (C := RX5) (T := TX5) (Nf := 8) (ty := tyX5) cl8 dX8_addCrossing_4 (ly_G (by decide)) 2 (by decide) t_243 rfl ?_
  refine z_iload_n (M := M_X8_addCrossing) dX8_addCrossing_7 rfl ?_
  obtain ⟨x_1, x_1_e, hi_2, H⟩ := rd_e H
  refine z_iald (M := M_X8_addCrossing) dX8_addCrossing_8 ly_197 rfl rfl rfl hi_2 x_1_e ?_
  refine z_aload_n (M := M_X8_addCrossing) dX8_addCrossing_9 rfl ?_
  refine z_getR (M := M_X8_addCrossing) (ci := 11) (C := RX8) (T := TX8) (Nf := 13) (ty := tyX8) cl11 dX8_addCrossing_10 ly_193 0 (by decide) t_327 rfl ?_
  refine z_getR (M := M_X8_addCrossing) (ci := 8) (C := RX5) (T := TX5) (Nf := 8) (ty := tyX5) cl8 dX8_addCrossing_13 (ly_G (by decide)) 0 (by decide) t_235 rfl ?_
  refine z_iload_n (M := M_X8_addCrossing) dX8_addCrossing_16 rfl ?_
  obtain ⟨x_3, x_3_e, hi_4, H⟩ := rd_e H
  refine z_iald (M := M_X8_addCrossing) dX8_addCrossing_17 ly_195 rfl rfl rfl hi_4 x_3_e ?_
  refine z_isub (M := M_X8_addCrossing) dX8_addCrossing_18 ?_
  refine z_istore_n (M := M_X8_addCrossing) (lv' := [some (vr 193), some (vi i_0), some (vi j_0), some (vi (x_1 - x_3)), none, none, none, none, none, none, none, none, none, none, none, none, none]) dX8_addCrossing_19 (Nat.le_of_ble_eq_true rfl) rfl rfl ?_
  refine z_aload_n (M := M_X8_addCrossing) dX8_addCrossing_20 rfl ?_
  refine z_getR (M := M_X8_addCrossing) (ci := 11) (C := RX8) (T := TX8) (Nf := 13) (ty := tyX8) cl11 dX8_addCrossing_21 ly_193 0 (by decide) t_327 rfl ?_
  refine z_getR (M := M_X8_addCrossing) (ci := 8) (C := RX5) (T := TX5) (Nf := 8) (ty := tyX5) cl8 dX8_addCrossing_24 (ly_G (by decide)) 3 (by decide) t_247 rfl ?_
  refine z_iload_n (M := M_X8_addCrossing) dX8_addCrossing_27 rfl ?_
  obtain ⟨x_5, x_5_e, hi_6, H⟩ := rd_e H
  refine z_iald (M := M_X8_addCrossing) dX8_addCrossing_28 ly_198 rfl rfl rfl hi_6 x_5_e ?_
  refine z_aload_n (M := M_X8_addCrossing) dX8_addCrossing_29 rfl ?_
  refine z_getR (M := M_X8_addCrossing) (ci := 11) (C := RX8) (T := TX8) (Nf := 13) (ty := tyX8) cl11 dX8_addCrossing_30 ly_193 0 (by decide) t_327 rfl ?_
  refine z_getR (M := M_X8_addCrossing) (ci := 8) (C := RX5) (T := TX5) (Nf := 8) (ty := tyX5) cl8 dX8_addCrossing_33 (ly_G (by decide)) 1 (by decide) t_239 rfl ?_
  refine z_iload_n (M := M_X8_addCrossing) dX8_addCrossing_36 rfl ?_
  obtain ⟨x_7, x_7_e, hi_8, H⟩ := rd_e H
  refine z_iald (M := M_X8_addCrossing) dX8_addCrossing_37 ly_196 rfl rfl rfl hi_8 x_7_e ?_
  refine z_isub (M := M_X8_addCrossing) dX8_addCrossing_38 ?_
  refine z_istore (M := M_X8_addCrossing) (lv' := [some (vr 193), some (vi i_0), some (vi j_0), some (vi (x_1 - x_3)), some (vi (x_5 - x_7)), none, none, none, none, none, none, none, none, none, none, none, none]) dX8_addCrossing_39 (Nat.le_of_ble_eq_true rfl) rfl rfl ?_
  refine z_aload_n (M := M_X8_addCrossing) dX8_addCrossing_41 rfl ?_
  refine z_getR (M := M_X8_addCrossing) (ci := 11) (C := RX8) (T := TX8) (Nf := 13) (ty := tyX8) cl11 dX8_addCrossing_42 ly_193 0 (by decide) t_327 rfl ?_
  refine z_getR (M := M_X8_addCrossing) (ci := 8) (C := RX5) (T := TX5) (Nf := 8) (ty := tyX5) cl8 dX8_addCrossing_45 (ly_G (by decide)) 2 (by decide) t_243 rfl ?_
  refine z_iload_n (M := M_X8_addCrossing) dX8_addCrossing_48 rfl ?_
  obtain ⟨x_9, x_9_e, hi_10, H⟩ := rd_e H
  refine z_iald (M := M_X8_addCrossing) dX8_addCrossing_49 ly_197 rfl rfl rfl hi_10 x_9_e ?_
  refine z_i2l (M := M_X8_addCrossing) dX8_addCrossing_50 ?_
  refine z_aload_n (M := M_X8_addCrossing) dX8_addCrossing_51 rfl ?_
  refine z_getR (M := M_X8_addCrossing) (ci := 11) (C := RX8) (T := TX8) (Nf := 13) (ty := tyX8) cl11 dX8_addCrossing_52 ly_193 0 (by decide) t_327 rfl ?_
  refine z_getR (M := M_X8_addCrossing) (ci := 8) (C := RX5) (T := TX5) (Nf := 8) (ty := tyX5) cl8 dX8_addCrossing_55 (ly_G (by decide)) 0 (by decide) t_235 rfl ?_
  refine z_iload_n (M := M_X8_addCrossing) dX8_addCrossing_58 rfl ?_
  obtain ⟨x_11, x_11_e, hi_12, H⟩ := rd_e H
  refine z_iald (M := M_X8_addCrossing) dX8_addCrossing_59 ly_195 rfl rfl rfl hi_12 x_11_e ?_
  refine z_i2l (M := M_X8_addCrossing) dX8_addCrossing_60 ?_
  refine z_lsub (M := M_X8_addCrossing) dX8_addCrossing_61 ?_
  refine z_lstore (M := M_X8_addCrossing) (lv' := [some (vr 193), some (vi i_0), some (vi j_0), some (vi (x_1 - x_3)), some (vi (x_5 - x_7)), some (vl ((w32 x_9) - (w32 x_11))), none, none, none, none, none, none, none, none, none, none, none]) dX8_addCrossing_62 (Nat.le_of_ble_eq_true rfl) rfl rfl ?_
  refine z_aload_n (M := M_X8_addCrossing) dX8_addCrossing_64 rfl ?_
  refine z_getR (M := M_X8_addCrossing) (ci := 11) (C := RX8) (T := TX8) (Nf := 13) (ty := tyX8) cl11 dX8_addCrossing_65 ly_193 0 (by decide) t_327 rfl ?_
  refine z_getR (M := M_X8_addCrossing) (ci := 8) (C := RX5) (T := TX5) (Nf := 8) (ty := tyX5) cl8 dX8_addCrossing_68 (ly_G (by decide)) 3 (by decide) t_247 rfl ?_
  refine z_iload_n (M := M_X8_addCrossing) dX8_addCrossing_71 rfl ?_
  obtain ⟨x_13, x_13_e, hi_14, H⟩ := rd_e H
  refine z_iald (M := M_X8_addCrossing) dX8_addCrossing_72 ly_198 rfl rfl rfl hi_14 x_13_e ?_
  refine z_i2l (M := M_X8_addCrossing) dX8_addCrossing_73 ?_
  refine z_aload_n (M := M_X8_addCrossing) dX8_addCrossing_74 rfl ?_
  refine z_getR (M := M_X8_addCrossing) (ci := 11) (C := RX8) (T := TX8) (Nf := 13) (ty := tyX8) cl11 dX8_addCrossing_75 ly_193 0 (by decide) t_327 rfl ?_
  refine z_getR (M := M_X8_addCrossing) (ci := 8) (C := RX5) (T := TX5) (Nf := 8) (ty := tyX5) cl8 dX8_addCrossing_78 (ly_G (by decide)) 1 (by decide) t_239 rfl ?_
  refine z_iload_n (M := M_X8_addCrossing) dX8_addCrossing_81 rfl ?_
  obtain ⟨x_15, x_15_e, hi_16, H⟩ := rd_e H
  refine z_iald (M := M_X8_addCrossing) dX8_addCrossing_82 ly_196 rfl rfl rfl hi_16 x_15_e ?_
  refine z_i2l (M := M_X8_addCrossing) dX8_addCrossing_83 ?_
  refine z_lsub (M := M_X8_addCrossing) dX8_addCrossing_84 ?_
  refine z_lstore (M := M_X8_addCrossing) (lv' := [some (vr 193), some (vi i_0), some (vi j_0), some (vi (x_1 - x_3)), some (vi (x_5 - x_7)), some (vl ((w32 x_9) - (w32 x_11))), none, some (vl ((w32 x_13) - (w32 x_15))), none, none, none, none, none, none, none, none, none]) dX8_addCrossing_85 (Nat.le_of_ble_eq_true rfl) rfl rfl ?_
  refine z_aload_n (M := M_X8_addCrossing) dX8_addCrossing_87 rfl ?_
  refine z_getR (M := M_X8_addCrossing) (ci := 11) (C := RX8) (T := TX8) (Nf := 13) (ty := tyX8) cl11 dX8_addCrossing_88 ly_193 0 (by decide) t_327 rfl ?_
  refine z_getR (M := M_X8_addCrossing) (ci := 8) (C := RX5) (T := TX5) (Nf := 8) (ty := tyX5) cl8 dX8_addCrossing_91 (ly_G (by decide)) 0 (by decide) t_235 rfl ?_
  refine z_iload_n (M := M_X8_addCrossing) dX8_addCrossing_94 rfl ?_
  obtain ⟨x_17, x_17_e, hi_18, H⟩ := rd_e H
  refine z_iald (M := M_X8_addCrossing) dX8_addCrossing_95 ly_195 rfl rfl rfl hi_18 x_17_e ?_
  refine z_i2l (M := M_X8_addCrossing) dX8_addCrossing_96 ?_
  refine z_aload_n (M := M_X8_addCrossing) dX8_addCrossing_97 rfl ?_
  refine z_getR (M := M_X8_addCrossing) (ci := 11) (C := RX8) (T := TX8) (Nf := 13) (ty := tyX8) cl11 dX8_addCrossing_98 ly_193 0 (by decide) t_327 rfl ?_
  refine z_getR (M := M_X8_addCrossing) (ci := 8) (C := RX5) (T := TX5) (Nf := 8) (ty := tyX5) cl8 dX8_addCrossing_101 (ly_G (by decide)) 0 (by decide) t_235 rfl ?_
  refine z_iload_n (M := M_X8_addCrossing) dX8_addCrossing_104 rfl ?_
  obtain ⟨x_19, x_19_e, hi_20, H⟩ := rd_e H
  refine z_iald (M := M_X8_addCrossing) dX8_addCrossing_105 ly_195 rfl rfl rfl hi_20 x_19_e ?_
  refine z_i2l (M := M_X8_addCrossing) dX8_addCrossing_106 ?_
  refine z_lsub (M := M_X8_addCrossing) dX8_addCrossing_107 ?_
  refine z_lstore (M := M_X8_addCrossing) (lv' := [some (vr 193), some (vi i_0), some (vi j_0), some (vi (x_1 - x_3)), some (vi (x_5 - x_7)), some (vl ((w32 x_9) - (w32 x_11))), none, some (vl ((w32 x_13) - (w32 x_15))), none, some (vl ((w32 x_17) - (w32 x_19))), none, none, none, none, none, none, none]) dX8_addCrossing_108 (Nat.le_of_ble_eq_true rfl) rfl rfl ?_
  refine z_aload_n (M := M_X8_addCrossing) dX8_addCrossing_110 rfl ?_
  refine z_getR (M := M_X8_addCrossing) (ci := 11) (C := RX8) (T := TX8) (Nf := 13) (ty := tyX8) cl11 dX8_addCrossing_111 ly_193 0 (by decide) t_327 rfl ?_
  refine z_getR (M := M_X8_addCrossing) (ci := 8) (C := RX5) (T := TX5) (Nf := 8) (ty := tyX5) cl8 dX8_addCrossing_114 (ly_G (by decide)) 1 (by decide) t_239 rfl ?_
  refine z_iload_n (M := M_X8_addCrossing) dX8_addCrossing_117 rfl ?_
  obtain ⟨x_21, x_21_e, hi_22, H⟩ := rd_e H
  refine z_iald (M := M_X8_addCrossing) dX8_addCrossing_118 ly_196 rfl rfl rfl hi_22 x_21_e ?_
  refine z_i2l (M := M_X8_addCrossing) dX8_addCrossing_119 ?_
  refine z_aload_n (M := M_X8_addCrossing) dX8_addCrossing_120 rfl ?_
  refine z_getR (M := M_X8_addCrossing) (ci := 11) (C := RX8) (T := TX8) (Nf := 13) (ty := tyX8) cl11 dX8_addCrossing_121 ly_193 0 (by decide) t_327 rfl ?_
  refine z_getR (M := M_X8_addCrossing) (ci := 8) (C := RX5) (T := TX5) (Nf := 8) (ty := tyX5) cl8 dX8_addCrossing_124 (ly_G (by decide)) 1 (by decide) t_239 rfl ?_
  refine z_iload_n (M := M_X8_addCrossing) dX8_addCrossing_127 rfl ?_
  obtain ⟨x_23, x_23_e, hi_24, H⟩ := rd_e H
  refine z_iald (M := M_X8_addCrossing) dX8_addCrossing_128 ly_196 rfl rfl rfl hi_24 x_23_e ?_
  refine z_i2l (M := M_X8_addCrossing) dX8_addCrossing_129 ?_
  refine z_lsub (M := M_X8_addCrossing) dX8_addCrossing_130 ?_
  refine z_lstore (M := M_X8_addCrossing) (lv' := [some (vr 193), some (vi i_0), some (vi j_0), some (vi (x_1 - x_3)), some (vi (x_5 - x_7)), some (vl ((w32 x_9) - (w32 x_11))), none, some (vl ((w32 x_13) - (w32 x_15))), none, some (vl ((w32 x_17) - (w32 x_19))), none, some (vl ((w32 x_21) - (w32 x_23))), none, none, none, none, none]) dX8_addCrossing_131 (Nat.le_of_ble_eq_true rfl) rfl rfl ?_
  refine z_iload_n (M := M_X8_addCrossing) dX8_addCrossing_133 rfl ?_
  refine z_i2l (M := M_X8_addCrossing) dX8_addCrossing_134 ?_
  refine z_lload (M := M_X8_addCrossing) dX8_addCrossing_135 rfl ?_
  refine z_lmul (M := M_X8_addCrossing) dX8_addCrossing_137 ?_
  refine z_iload (M := M_X8_addCrossing) dX8_addCrossing_138 rfl ?_
  refine z_i2l (M := M_X8_addCrossing) dX8_addCrossing_140 ?_
  refine z_lload (M := M_X8_addCrossing) dX8_addCrossing_141 rfl ?_
  refine z_lmul (M := M_X8_addCrossing) dX8_addCrossing_143 ?_
  refine z_lsub (M := M_X8_addCrossing) dX8_addCrossing_144 ?_
  refine z_labs (M := M_X8_addCrossing) dX8_addCrossing_145 t_1442 t_1131 t_20 t_1132 (Nat.le_of_ble_eq_true rfl) (Nat.le_of_ble_eq_true rfl) (Nat.le_of_ble_eq_true rfl) (Nat.le_of_ble_eq_true rfl) ?_
  obtain ⟨x_25, x_25_e, H⟩ := lt_e H
  refine z_st (congrArg (fun z => vl z :: []) x_25_e) ?_
  refine z_lstore (M := M_X8_addCrossing) (lv' := [some (vr 193), some (vi i_0), some (vi j_0), some (vi (x_1 - x_3)), some (vi (x_5 - x_7)), some (vl ((w32 x_9) - (w32 x_11))), none, some (vl ((w32 x_13) - (w32 x_15))), none, some (vl ((w32 x_17) - (w32 x_19))), none, some (vl ((w32 x_21) - (w32 x_23))), none, some (vl x_25), none, none, none]) dX8_addCrossing_148 (Nat.le_of_ble_eq_true rfl) rfl rfl ?_
  refine z_lload (M := M_X8_addCrossing) dX8_addCrossing_150 rfl ?_
  refine z_lload (M := M_X8_addCrossing) dX8_addCrossing_152 rfl ?_
  refine z_lmul (M := M_X8_addCrossing) dX8_addCrossing_154 ?_
  refine z_lload (M := M_X8_addCrossing) dX8_addCrossing_155 rfl ?_
  refine z_lload (M := M_X8_addCrossing) dX8_addCrossing_157 rfl ?_
  refine z_lmul (M := M_X8_addCrossing) dX8_addCrossing_159 ?_
  refine z_lsub (M := M_X8_addCrossing) dX8_addCrossing_160 ?_
  refine z_labs (M := M_X8_addCrossing) dX8_addCrossing_161 t_1442 t_1131 t_20 t_1132 (Nat.le_of_ble_eq_true rfl) (Nat.le_of_ble_eq_true rfl) (Nat.le_of_ble_eq_true rfl) (Nat.le_of_ble_eq_true rfl) ?_
  obtain ⟨x_26, x_26_e, H⟩ := lt_e H
  refine z_st (congrArg (fun z => vl z :: []) x_26_e) ?_
  refine z_lstore (M := M_X8_addCrossing) (lv' := [some (vr 193), some (vi i_0), some (vi j_0), some (vi (x_1 - x_3)), some (vi (x_5 - x_7)), some (vl ((w32 x_9) - (w32 x_11))), none, some (vl ((w32 x_13) - (w32 x_15))), none, some (vl ((w32 x_17) - (w32 x_19))), none, some (vl ((w32 x_21) - (w32 x_23))), none, some (vl x_25), none, some (vl x_26), none]) dX8_addCrossing_164 (Nat.le_of_ble_eq_true rfl) rfl rfl ?_
  refine z_aload_n (M := M_X8_addCrossing) dX8_addCrossing_166 rfl ?_
  refine z_aload_n (M := M_X8_addCrossing) dX8_addCrossing_167 rfl ?_
  refine z_getR (M := M_X8_addCrossing) (ci := 11) (C := RX8) (T := TX8) (Nf := 13) (ty := tyX8) cl11 dX8_addCrossing_168 ly_193 0 (by decide) t_327 rfl ?_
  refine z_getR (M := M_X8_addCrossing) (ci := 8) (C := RX5) (T := TX5) (Nf := 8) (ty := tyX5) cl8 dX8_addCrossing_171 (ly_G (by decide)) 0 (by decide) t_235 rfl ?_
  refine z_iload_n (M := M_X8_addCrossing) dX8_addCrossing_174 rfl ?_
  obtain ⟨x_27, x_27_e, hi_28, H⟩ := rd_e H
  refine z_iald (M := M_X8_addCrossing) dX8_addCrossing_175 ly_195 rfl rfl rfl hi_28 x_27_e ?_
  refine z_iload_n (M := M_X8_addCrossing) dX8_addCrossing_176 rfl ?_
  refine z_lload (M := M_X8_addCrossing) dX8_addCrossing_177 rfl ?_
  refine z_lload (M := M_X8_addCrossing) dX8_addCrossing_179 rfl ?_
  obtain ⟨x_30, hc_29, H⟩ := bd_e H
  refine z_callS (M := M_X8_addCrossing) (M' := M_X8_pixelAt) (as := [vi x_27, vi (x_1 - x_3), vl x_26, vl x_25]) (rest := [vr 193]) rfl rfl dX8_addCrossing_181 m_X8_pixelAt t_1443 t_1444 (c_X8_pixelAt hl  hc_29) rfl rfl (Nat.le_of_ble_eq_true rfl) (Nat.le_of_ble_eq_true rfl) (Nat.le_of_ble_eq_true rfl) (Nat.le_of_ble_eq_true rfl) ?_
  refine z_st (st' := [vi x_30, vr 193]) rfl ?_
  refine z_aload_n (M := M_X8_addCrossing) dX8_addCrossing_184 rfl ?_
  refine z_getR (M := M_X8_addCrossing) (ci := 11) (C := RX8) (T := TX8) (Nf := 13) (ty := tyX8) cl11 dX8_addCrossing_185 ly_193 0 (by decide) t_327 rfl ?_
  refine z_getR (M := M_X8_addCrossing) (ci := 8) (C := RX5) (T := TX5) (Nf := 8) (ty := tyX5) cl8 dX8_addCrossing_188 (ly_G (by decide)) 1 (by decide) t_239 rfl ?_
  refine z_iload_n (M := M_X8_addCrossing) dX8_addCrossing_191 rfl ?_
  obtain ⟨x_31, x_31_e, hi_32, H⟩ := rd_e H
  refine z_iald (M := M_X8_addCrossing) dX8_addCrossing_192 ly_196 rfl rfl rfl hi_32 x_31_e ?_
  refine z_iload (M := M_X8_addCrossing) dX8_addCrossing_193 rfl ?_
  refine z_lload (M := M_X8_addCrossing) dX8_addCrossing_195 rfl ?_
  refine z_lload (M := M_X8_addCrossing) dX8_addCrossing_197 rfl ?_
  obtain ⟨x_34, hc_33, H⟩ := bd_e H
  refine z_callS (M := M_X8_addCrossing) (M' := M_X8_pixelAt) (as := [vi x_31, vi (x_5 - x_7), vl x_26, vl x_25]) (rest := [vi x_30, vr 193]) rfl rfl dX8_addCrossing_199 m_X8_pixelAt t_1443 t_1444 (c_X8_pixelAt hl  hc_33) rfl rfl (Nat.le_of_ble_eq_true rfl) (Nat.le_of_ble_eq_true rfl) (Nat.le_of_ble_eq_true rfl) (Nat.le_of_ble_eq_true rfl) ?_
  refine z_st (st' := [vi x_34, vi x_30, vr 193]) rfl ?_
  obtain ⟨⟨x_37, σ_36⟩, hc_35, H⟩ := bd_e H
  refine z_callV (M := M_X8_addCrossing) (M' := M_X8_addHot) (as := [vi x_30, vi x_34]) (rest := []) rfl rfl dX8_addCrossing_202 m_X8_addHot t_1408 t_1410 s_70 (c_X8_addHot hl  hc_35) rfl rfl ly_193 rfl (Nat.le_of_ble_eq_true rfl) (Nat.le_of_ble_eq_true rfl) (Nat.le_of_ble_eq_true rfl) (Nat.le_of_ble_eq_true rfl) ?_
  refine z_st (st' := [zv x_37]) rfl ?_
  cases H
  exact z_zret (M := M_X8_addCrossing) dX8_addCrossing_205 rfl (Nat.le_of_ble_eq_true rfl) (Nat.le_of_ble_eq_true rfl) ⟨rfl, rfl⟩
theorem c_X8_addCrossings (hl : l.stackTraces = false) {σ : SG} {r : Bool} {σ' : SG}  (H : fN_addCrossings σ = some (r, σ')) : en_S l E M_X8_addCrossings 6 0 0 [vr 193] σ (pS (some (zv r)) σ') := by
  unfold fN_addCrossings at H
  refine z_mk (lv := [some (vr 193), none, none, none, none, none]) m_X8_addCrossings rfl hl (Nat.le_of_ble_eq_true rfl) rfl ?_
  refine z_iconst (M := M_X8_addCrossings) dX8_addCrossings_0 ?_
  refine z_istore_n (M := M_X8_addCrossings) (lv' := [some (vr 193), some (vi 0), none, none, none, none]) dX8_addCrossings_1 (Nat.le_of_ble_eq_true rfl) rfl rfl ?_
  obtain ⟨rl_6, hw_3, hk_4⟩ := bd_e H
  have J_90 : ∀ i_17 σ_18, rl_6 = (i_17, σ_18) → YY l E M_X8_addCrossings 6 0 0 (pS (some (zv r)) σ') 40 [some (vr 193), some (vi i_17), none, none, none, none] [] σ_18 0 0 := by
    intro i_17 σ_18 e
    have H := hk_4
    rw [e] at H
    refine z_aload_n (M := M_X8_addCrossings) dX8_addCrossings_40 rfl ?_
    refine z_getR (M := M_X8_addCrossings) (ci := 11) (C := RX8) (T := TX8) (Nf := 13) (ty := tyX8) cl11 dX8_addCrossings_41 ly_193 4 (by decide) t_331 rfl ?_
    refine z_aload_n (M := M_X8_addCrossings) dX8_addCrossings_44 rfl ?_
    refine z_getR (M := M_X8_addCrossings) (ci := 11) (C := RX8) (T := TX8) (Nf := 13) (ty := tyX8) cl11 dX8_addCrossings_45 ly_193 0 (by decide) t_327 rfl ?_
    refine z_getI (M := M_X8_addCrossings) (ci := 8) (C := RX5) (T := TX5) (Nf := 8) (ty := tyX5) cl8 dX8_addCrossings_48 (ly_G (by decide)) 5 (by decide) t_255 rfl rfl ?_
    obtain ⟨σ_20, hc_19, H⟩ := bd_e H
    refine z_callSN (M := M_X8_addCrossings) (M' := M_X11_sortRow) (as := [vr 201, vi (σ_18 (kE_size 194) 0)]) (rest := []) rfl rfl dX8_addCrossings_51 m_X11_sortRow n_1416 t_1417 (c_X11_sortRow hl ly_201 hc_19) rfl rfl (Nat.le_of_ble_eq_true rfl) (Nat.le_of_ble_eq_true rfl) (Nat.le_of_ble_eq_true rfl) (Nat.le_of_ble_eq_true rfl) ?_
    refine z_st (st' := []) rfl ?_
    refine z_iconst (M := M_X8_addCrossings) dX8_addCrossings_54 ?_
    refine z_istore_n (M := M_X8_addCrossings) (lv' := [some (vr 193), some (vi 0), none, none, none, none]) dX8_addCrossings_55 (Nat.le_of_ble_eq_true rfl) rfl rfl ?_
    obtain ⟨rl_26, hw_23, hk_24, hk_25⟩ := bx_e H
    have J_89 : ∀ a_87 σ_88, rl_26 = (.inl (a_87, σ_88)) → YY l E M_X8_addCrossings 6 0 0 (pS (some (zv r)) σ') 165 [some (vr 193), some (vi a_87), none, none, none, none] [] σ_88 0 0 := by
      intro a_87 σ_88 e
      have H := hk_24 _ e
      refine z_zconst (M := M_X8_addCrossings) (b := true) dX8_addCrossings_165 rfl ?_
      cases H
      exact z_zret (M := M_X8_addCrossings) dX8_addCrossings_166 rfl (Nat.le_of_ble_eq_true rfl) (Nat.le_of_ble_eq_true rfl) ⟨rfl, rfl⟩
    refine whl_go hw_23 (fun (a_21, σ_22) => YY l E M_X8_addCrossings 6 0 0 (pS (some (zv r)) σ') 56 [some (vr 193), some (vi a_21), none, none, none, none] [] σ_22 0 0) ?_
    rintro ⟨a_21, σ_22⟩ o_27 H K_28 K_29
    refine z_iload_n (M := M_X8_addCrossings) dX8_addCrossings_56 rfl ?_
    refine z_aload_n (M := M_X8_addCrossings) dX8_addCrossings_57 rfl ?_
    refine z_getR (M := M_X8_addCrossings) (ci := 11) (C := RX8) (T := TX8) (Nf := 13) (ty := tyX8) cl11 dX8_addCrossings_58 ly_193 0 (by decide) t_327 rfl ?_
    refine z_getI (M := M_X8_addCrossings) (ci := 8) (C := RX5) (T := TX5) (Nf := 8) (ty := tyX5) cl8 dX8_addCrossings_61 (ly_G (by decide)) 5 (by decide) t_255 rfl rfl ?_
    rcases if_e H with ⟨h_30, H⟩ | ⟨h_30, H⟩
    · refine z_icmp_ge_f (M := M_X8_addCrossings) (tgt := 165) dX8_addCrossings_64 (by decide) rfl rfl h_30 ?_
      refine z_aload_n (M := M_X8_addCrossings) dX8_addCrossings_67 rfl ?_
      refine z_getR (M := M_X8_addCrossings) (ci := 11) (C := RX8) (T := TX8) (Nf := 13) (ty := tyX8) cl11 dX8_addCrossings_68 ly_193 4 (by decide) t_331 rfl ?_
      refine z_iload_n (M := M_X8_addCrossings) dX8_addCrossings_71 rfl ?_
      obtain ⟨x_31, x_31_e, hi_32, H⟩ := rd_e H
      refine z_lald (M := M_X8_addCrossings) dX8_addCrossings_72 ly_201 rfl rfl rfl hi_32 x_31_e ?_
      refine z_l2i (M := M_X8_addCrossings) dX8_addCrossings_73 ?_
      refine z_istore_n (M := M_X8_addCrossings) (lv' := [some (vr 193), some (vi a_21), some (vi x_31), none, none, none]) dX8_addCrossings_74 (Nat.le_of_ble_eq_true rfl) rfl rfl ?_
      refine z_aload_n (M := M_X8_addCrossings) dX8_addCrossings_75 rfl ?_
      refine z_getR (M := M_X8_addCrossings) (ci := 11) (C := RX8) (T := TX8) (Nf := 13) (ty := tyX8) cl11 dX8_addCrossings_76 ly_193 0 (by decide) t_327 rfl ?_
      refine z_iload_n (M := M_X8_addCrossings) dX8_addCrossings_79 rfl ?_
      obtain ⟨x_34, hc_33, H⟩ := bd_e H
      refine z_callV (M := M_X8_addCrossings) (M' := M_X5_highX) (as := [vi x_31]) (rest := []) rfl rfl dX8_addCrossings_80 m_X5_highX t_1436 t_1239 t_1240 (c_X5_highX hl (by decide) hc_33) rfl rfl (ly_G (by decide)) rfl (Nat.le_of_ble_eq_true rfl) (Nat.le_of_ble_eq_true rfl) (Nat.le_of_ble_eq_true rfl) (Nat.le_of_ble_eq_true rfl) ?_
      refine z_st (st' := [vi x_34]) rfl ?_
      refine z_istore_n (M := M_X8_addCrossings) (lv' := [some (vr 193), some (vi a_21), some (vi x_31), some (vi x_34), none, none]) dX8_addCrossings_83 (Nat.le_of_ble_eq_true rfl) rfl rfl ?_
      refine z_iload_n (M := M_X8_addCrossings) dX8_addCrossings_84 rfl ?_
      refine z_iconst (M := M_X8_addCrossings) dX8_addCrossings_85 ?_
      refine z_iadd (M := M_X8_addCrossings) dX8_addCrossings_86 ?_
      refine z_istore (M := M_X8_addCrossings) (lv' := [some (vr 193), some (vi a_21), some (vi x_31), some (vi x_34), some (vi (a_21 + 1)), none]) dX8_addCrossings_87 (Nat.le_of_ble_eq_true rfl) rfl rfl ?_
      obtain ⟨rl_40, hw_37, hk_38, hk_39⟩ := bx_e H
      have J_85 : ∀ b_82 σ_83, rl_40 = (.inl (b_82, σ_83)) → YY l E M_X8_addCrossings 6 0 0 (pS (some (zv r)) σ') 159 [some (vr 193), some (vi a_21), some (vi x_31), some (vi x_34), some (vi b_82), none] [] σ_83 0 0 := by
        intro b_82 σ_83 e
        have H := hk_38 _ e
        refine z_iinc (M := M_X8_addCrossings) (lv' := [some (vr 193), some (vi (a_21 + 1)), some (vi x_31), some (vi x_34), some (vi b_82), none]) dX8_addCrossings_159 rfl (Nat.le_of_ble_eq_true rfl) rfl rfl ?_
        refine z_goto (M := M_X8_addCrossings) (tgt := 56) dX8_addCrossings_162 (by decide) ?_
        refine z_le (lv' := [some (vr 193), some (vi (a_21 + 1)), none, none, none, none]) ⟨Or.inr rfl, Or.inr rfl, Or.inl rfl, Or.inl rfl, Or.inl rfl, Or.inl rfl, trivial⟩ ?_
        exact K_28 _ (Option.some.inj H).symm
      refine whl_go hw_37 (fun (b_35, σ_36) => YY l E M_X8_addCrossings 6 0 0 (pS (some (zv r)) σ') 89 [some (vr 193), some (vi a_21), some (vi x_31), some (vi x_34), some (vi b_35), none] [] σ_36 0 0) ?_
      rintro ⟨b_35, σ_36⟩ o_41 H K_42 K_43
      refine z_iload (M := M_X8_addCrossings) dX8_addCrossings_89 rfl ?_
      refine z_aload_n (M := M_X8_addCrossings) dX8_addCrossings_91 rfl ?_
      refine z_getR (M := M_X8_addCrossings) (ci := 11) (C := RX8) (T := TX8) (Nf := 13) (ty := tyX8) cl11 dX8_addCrossings_92 ly_193 0 (by decide) t_327 rfl ?_
      refine z_getI (M := M_X8_addCrossings) (ci := 8) (C := RX5) (T := TX5) (Nf := 8) (ty := tyX5) cl8 dX8_addCrossings_95 (ly_G (by decide)) 5 (by decide) t_255 rfl rfl ?_
      rcases if_e H with ⟨h_52, H⟩ | ⟨h_52, H⟩
      · refine z_icmp_ge_f (M := M_X8_addCrossings) (tgt := 159) dX8_addCrossings_98 (by decide) rfl rfl h_52 ?_
        refine z_aload_n (M := M_X8_addCrossings) dX8_addCrossings_101 rfl ?_
        refine z_getR (M := M_X8_addCrossings) (ci := 11) (C := RX8) (T := TX8) (Nf := 13) (ty := tyX8) cl11 dX8_addCrossings_102 ly_193 4 (by decide) t_331 rfl ?_
        refine z_iload (M := M_X8_addCrossings) dX8_addCrossings_105 rfl ?_
        obtain ⟨x_53, x_53_e, hi_54, H⟩ := rd_e H
        refine z_lald (M := M_X8_addCrossings) dX8_addCrossings_107 ly_201 rfl rfl rfl hi_54 x_53_e ?_
        refine z_bipush (M := M_X8_addCrossings) dX8_addCrossings_108 (by decide +kernel) ?_
        refine z_lshr (M := M_X8_addCrossings) dX8_addCrossings_110 ?_
        refine z_iload_n (M := M_X8_addCrossings) dX8_addCrossings_111 rfl ?_
        refine z_i2l (M := M_X8_addCrossings) dX8_addCrossings_112 ?_
        refine z_lcmp (M := M_X8_addCrossings) dX8_addCrossings_113 ?_
        rcases if_e H with ⟨h_55, H⟩ | ⟨h_55, H⟩
        · refine z_lif_gt_f (M := M_X8_addCrossings) (tgt := 159) dX8_addCrossings_114 (by decide) rfl rfl h_55 ?_
          refine z_aload_n (M := M_X8_addCrossings) dX8_addCrossings_117 rfl ?_
          refine z_getR (M := M_X8_addCrossings) (ci := 11) (C := RX8) (T := TX8) (Nf := 13) (ty := tyX8) cl11 dX8_addCrossings_118 ly_193 4 (by decide) t_331 rfl ?_
          refine z_iload (M := M_X8_addCrossings) dX8_addCrossings_121 rfl ?_
          obtain ⟨x_56, x_56_e, hi_57, H⟩ := rd_e H
          refine z_lald (M := M_X8_addCrossings) dX8_addCrossings_123 ly_201 rfl rfl rfl hi_57 x_56_e ?_
          refine z_l2i (M := M_X8_addCrossings) dX8_addCrossings_124 ?_
          refine z_istore (M := M_X8_addCrossings) (lv' := [some (vr 193), some (vi a_21), some (vi x_31), some (vi x_34), some (vi b_35), some (vi x_56)]) dX8_addCrossings_125 (Nat.le_of_ble_eq_true rfl) rfl rfl ?_
          refine z_aload_n (M := M_X8_addCrossings) dX8_addCrossings_127 rfl ?_
          refine z_getR (M := M_X8_addCrossings) (ci := 11) (C := RX8) (T := TX8) (Nf := 13) (ty := tyX8) cl11 dX8_addCrossings_128 ly_193 0 (by decide) t_327 rfl ?_
          refine z_iload_n (M := M_X8_addCrossings) dX8_addCrossings_131 rfl ?_
          refine z_iload (M := M_X8_addCrossings) dX8_addCrossings_132 rfl ?_
          obtain ⟨⟨x_72, σ_71⟩, hc_70, H⟩ := bd_e H
          refine z_callV (M := M_X8_addCrossings) (M' := M_X5_meet) (as := [vi x_31, vi x_56]) (rest := []) rfl rfl dX8_addCrossings_134 m_X5_meet t_1437 t_1256 t_1257 (c_X5_meet hl (by decide) hc_70) rfl rfl (ly_G (by decide)) rfl (Nat.le_of_ble_eq_true rfl) (Nat.le_of_ble_eq_true rfl) (Nat.le_of_ble_eq_true rfl) (Nat.le_of_ble_eq_true rfl) ?_
          refine z_st (st' := [vi x_72]) rfl ?_
          refine z_iconst (M := M_X8_addCrossings) dX8_addCrossings_137 ?_
          rcases if_e H with ⟨h_73, H⟩ | ⟨h_73, H⟩
          · refine z_icmp_ne_f (M := M_X8_addCrossings) (tgt := 153) dX8_addCrossings_138 (by decide) rfl (by decide +kernel) h_73 ?_
            refine z_aload_n (M := M_X8_addCrossings) dX8_addCrossings_141 rfl ?_
            refine z_iload_n (M := M_X8_addCrossings) dX8_addCrossings_142 rfl ?_
            refine z_iload (M := M_X8_addCrossings) dX8_addCrossings_143 rfl ?_
            obtain ⟨⟨x_76, σ_75⟩, hc_74, H⟩ := bd_e H
            refine z_callV (M := M_X8_addCrossings) (M' := M_X8_addCrossing) (as := [vi x_31, vi x_56]) (rest := []) rfl rfl dX8_addCrossings_145 m_X8_addCrossing t_1438 t_1440 s_73 (c_X8_addCrossing hl  hc_74) rfl rfl ly_193 rfl (Nat.le_of_ble_eq_true rfl) (Nat.le_of_ble_eq_true rfl) (Nat.le_of_ble_eq_true rfl) (Nat.le_of_ble_eq_true rfl) ?_
            refine z_st (st' := [zv x_76]) rfl ?_
            rcases if_e H with ⟨h_77, H⟩ | ⟨h_77, H⟩
            · refine z_zne_t (M := M_X8_addCrossings) (tgt := 153) dX8_addCrossings_148 (by decide) h_77 ?_
              refine z_iinc (M := M_X8_addCrossings) (lv' := [some (vr 193), some (vi a_21), some (vi x_31), some (vi x_34), some (vi (b_35 + 1)), some (vi x_56)]) dX8_addCrossings_153 rfl (Nat.le_of_ble_eq_true rfl) rfl rfl ?_
              refine z_goto (M := M_X8_addCrossings) (tgt := 89) dX8_addCrossings_156 (by decide) ?_
              refine z_le (lv' := [some (vr 193), some (vi a_21), some (vi x_31), some (vi x_34), some (vi (b_35 + 1)), none]) ⟨Or.inr rfl, Or.inr rfl, Or.inr rfl, Or.inr rfl, Or.inr rfl, Or.inl rfl, trivial⟩ ?_
              exact K_42 _ (Option.some.inj H).symm
            · refine z_zne_f (M := M_X8_addCrossings) (tgt := 153) dX8_addCrossings_148 (by decide) h_77 ?_
              refine z_zconst (M := M_X8_addCrossings) (b := false) dX8_addCrossings_151 rfl ?_
              have H := congrArg some (hk_39 _ ((K_43 _ (Option.some.inj H).symm).symm))
              have H := congrArg some (hk_25 _ ((K_29 _ (Option.some.inj H).symm).symm))
              cases H
              exact z_zret (M := M_X8_addCrossings) dX8_addCrossings_152 rfl (Nat.le_of_ble_eq_true rfl) (Nat.le_of_ble_eq_true rfl) ⟨rfl, rfl⟩
          · refine z_icmp_ne_t (M := M_X8_addCrossings) (tgt := 153) dX8_addCrossings_138 (by decide) rfl (by decide +kernel) h_73 ?_
            refine z_iinc (M := M_X8_addCrossings) (lv' := [some (vr 193), some (vi a_21), some (vi x_31), some (vi x_34), some (vi (b_35 + 1)), some (vi x_56)]) dX8_addCrossings_153 rfl (Nat.le_of_ble_eq_true rfl) rfl rfl ?_
            refine z_goto (M := M_X8_addCrossings) (tgt := 89) dX8_addCrossings_156 (by decide) ?_
            refine z_le (lv' := [some (vr 193), some (vi a_21), some (vi x_31), some (vi x_34), some (vi (b_35 + 1)), none]) ⟨Or.inr rfl, Or.inr rfl, Or.inr rfl, Or.inr rfl, Or.inr rfl, Or.inl rfl, trivial⟩ ?_
            exact K_42 _ (Option.some.inj H).symm
        · refine z_lif_gt_t (M := M_X8_addCrossings) (tgt := 159) dX8_addCrossings_114 (by decide) rfl rfl (Int.not_le.mp h_55) ?_
          exact J_85 _ _ (K_43 _ (Option.some.inj H).symm).symm
      · refine z_icmp_ge_t (M := M_X8_addCrossings) (tgt := 159) dX8_addCrossings_98 (by decide) rfl rfl (Int.not_lt.mp h_52) ?_
        exact J_85 _ _ (K_43 _ (Option.some.inj H).symm).symm
    · refine z_icmp_ge_t (M := M_X8_addCrossings) (tgt := 165) dX8_addCrossings_64 (by decide) rfl rfl (Int.not_lt.mp h_30) ?_
      exact J_89 _ _ (K_29 _ (Option.some.inj H).symm).symm
  refine whl_go hw_3 (fun (i_1, σ_2) => YY l E M_X8_addCrossings 6 0 0 (pS (some (zv r)) σ') 2 [some (vr 193), some (vi i_1), none, none, none, none] [] σ_2 0 0) ?_
  rintro ⟨i_1, σ_2⟩ o_7 H K_8 K_9
  refine z_iload_n (M := M_X8_addCrossings) dX8_addCrossings_2 rfl ?_
  refine z_aload_n (M := M_X8_addCrossings) dX8_addCrossings_3 rfl ?_
  refine z_getR (M := M_X8_addCrossings) (ci := 11) (C := RX8) (T := TX8) (Nf := 13) (ty := tyX8) cl11 dX8_addCrossings_4 ly_193 0 (by decide) t_327 rfl ?_
  refine z_getI (M := M_X8_addCrossings) (ci := 8) (C := RX5) (T := TX5) (Nf := 8) (ty := tyX5) cl8 dX8_addCrossings_7 (ly_G (by decide)) 5 (by decide) t_255 rfl rfl ?_
  rcases if_e H with ⟨h_10, H⟩ | ⟨h_10, H⟩
  · refine z_icmp_ge_f (M := M_X8_addCrossings) (tgt := 40) dX8_addCrossings_10 (by decide) rfl rfl h_10 ?_
    refine z_aload_n (M := M_X8_addCrossings) dX8_addCrossings_13 rfl ?_
    refine z_getR (M := M_X8_addCrossings) (ci := 11) (C := RX8) (T := TX8) (Nf := 13) (ty := tyX8) cl11 dX8_addCrossings_14 ly_193 4 (by decide) t_331 rfl ?_
    refine z_iload_n (M := M_X8_addCrossings) dX8_addCrossings_17 rfl ?_
    refine z_aload_n (M := M_X8_addCrossings) dX8_addCrossings_18 rfl ?_
    refine z_getR (M := M_X8_addCrossings) (ci := 11) (C := RX8) (T := TX8) (Nf := 13) (ty := tyX8) cl11 dX8_addCrossings_19 ly_193 0 (by decide) t_327 rfl ?_
    refine z_iload_n (M := M_X8_addCrossings) dX8_addCrossings_22 rfl ?_
    obtain ⟨x_12, hc_11, H⟩ := bd_e H
    refine z_callV (M := M_X8_addCrossings) (M' := M_X5_lowX) (as := [vi i_1]) (rest := [vi i_1, vr 201]) rfl rfl dX8_addCrossings_23 m_X5_lowX t_1435 t_1234 t_1235 (c_X5_lowX hl (by decide) hc_11) rfl rfl (ly_G (by decide)) rfl (Nat.le_of_ble_eq_true rfl) (Nat.le_of_ble_eq_true rfl) (Nat.le_of_ble_eq_true rfl) (Nat.le_of_ble_eq_true rfl) ?_
    refine z_st (st' := [vi x_12, vi i_1, vr 201]) rfl ?_
    refine z_i2l (M := M_X8_addCrossings) dX8_addCrossings_26 ?_
    refine z_bipush (M := M_X8_addCrossings) dX8_addCrossings_27 (by decide +kernel) ?_
    refine z_lshl (M := M_X8_addCrossings) dX8_addCrossings_29 ?_
    refine z_iload_n (M := M_X8_addCrossings) dX8_addCrossings_30 rfl ?_
    refine z_i2l (M := M_X8_addCrossings) dX8_addCrossings_31 ?_
    refine z_lor (M := M_X8_addCrossings) dX8_addCrossings_32 ?_
    obtain ⟨σ_13, σ_13_e, hi_14, H⟩ := wa_e H
    refine z_last (M := M_X8_addCrossings) dX8_addCrossings_33 ly_201 rfl rfl rfl hi_14 σ_13_e ?_
    refine z_iinc (M := M_X8_addCrossings) (lv' := [some (vr 193), some (vi (i_1 + 1)), none, none, none, none]) dX8_addCrossings_34 rfl (Nat.le_of_ble_eq_true rfl) rfl rfl ?_
    refine z_goto (M := M_X8_addCrossings) (tgt := 2) dX8_addCrossings_37 (by decide) ?_
    exact K_8 _ (Option.some.inj H).symm
  · refine z_icmp_ge_t (M := M_X8_addCrossings) (tgt := 40) dX8_addCrossings_10 (by decide) rfl rfl (Int.not_lt.mp h_10) ?_
    exact J_90 _ _ (K_9 _ (Option.some.inj H).symm).symm
theorem c_X8_addSegment (hl : l.stackTraces = false) {σ : SG} {shape_0 : Nat} {i_0 : Int} {mask_0 : Int} {r : Bool} {σ' : SG} (h_shape : isS shape_0) (H : fN_addSegment σ shape_0 i_0 mask_0 = some (r, σ')) : en_S l E M_X8_addSegment 5 0 0 [vr 193, vr shape_0, vi i_0, vi mask_0] σ (pS (some (zv r)) σ') := by
  unfold fN_addSegment at H
  refine z_mk (lv := [some (vr 193), some (vr shape_0), some (vi i_0), some (vi mask_0)]) m_X8_addSegment rfl hl (Nat.le_of_ble_eq_true rfl) rfl ?_
  refine z_aload_n (M := M_X8_addSegment) dX8_addSegment_0 rfl ?_
  refine z_getR (M := M_X8_addSegment) (ci := 11) (C := RX8) (T := TX8) (Nf := 13) (ty := tyX8) cl11 dX8_addSegment_1 ly_193 0 (by decide) t_327 rfl ?_
  refine z_getI (M := M_X8_addSegment) (ci := 8) (C := RX5) (T := TX5) (Nf := 8) (ty := tyX5) cl8 dX8_addSegment_4 (ly_G (by decide)) 5 (by decide) t_255 rfl rfl ?_
  refine z_aload_n (M := M_X8_addSegment) dX8_addSegment_7 rfl ?_
  refine z_getI (M := M_X8_addSegment) (ci := 11) (C := RX8) (T := TX8) (Nf := 13) (ty := tyX8) cl11 dX8_addSegment_8 ly_193 1 (by decide) t_328 rfl rfl ?_
  refine z_iadd (M := M_X8_addSegment) dX8_addSegment_11 ?_
  refine z_sipush (M := M_X8_addSegment) dX8_addSegment_12 (by decide +kernel) ?_
  rcases if_e H with ⟨h_1, H⟩ | ⟨h_1, H⟩
  · refine z_icmp_lt_f (M := M_X8_addSegment) (tgt := 20) dX8_addSegment_15 (by decide) rfl (by decide +kernel) h_1 ?_
    refine z_zconst (M := M_X8_addSegment) (b := false) dX8_addSegment_18 rfl ?_
    cases H
    exact z_zret (M := M_X8_addSegment) dX8_addSegment_19 rfl (Nat.le_of_ble_eq_true rfl) (Nat.le_of_ble_eq_true rfl) ⟨rfl, rfl⟩
  · refine z_icmp_lt_t (M := M_X8_addSegment) (tgt := 20) dX8_addSegment_15 (by decide) rfl (by decide +kernel) (Int.not_le.mp h_1) ?_
    obtain ⟨v_5, he_2, hk_3⟩ := bd_e H
    have J_41 : ∀ σ_15, v_5 = σ_15 → YY l E M_X8_addSegment 5 0 0 (pS (some (zv r)) σ') 58 [some (vr 193), some (vr shape_0), some (vi i_0), some (vi mask_0)] [] σ_15 0 0 := by
      intro σ_15 e
      have H := hk_3
      rw [e] at H
      obtain ⟨v_37, he_38, hk_39⟩ := bd_e H
      have J_40 : ∀ x_35 σ_36, v_37 = (x_35, σ_36) → YY l E M_X8_addSegment 5 0 0 (pS (some (zv r)) σ') 105 [some (vr 193), some (vr shape_0), some (vi i_0), some (vi mask_0)] [zv x_35] σ_36 0 0 := by
        intro x_35 σ_36 e
        have H := hk_39
        rw [e] at H
        cases H
        exact z_zret (M := M_X8_addSegment) dX8_addSegment_105 rfl (Nat.le_of_ble_eq_true rfl) (Nat.le_of_ble_eq_true rfl) ⟨rfl, rfl⟩
      have H := he_38
      refine z_aload_n (M := M_X8_addSegment) dX8_addSegment_58 rfl ?_
      refine z_aload_n (M := M_X8_addSegment) dX8_addSegment_59 rfl ?_
      refine z_getR (M := M_X8_addSegment) (ci := 9) (C := RX6) (T := TX6) (Nf := 5) (ty := tyX6) cl9 dX8_addSegment_60 (ly_S h_shape) 1 (by decide) t_61 rfl ?_
      refine z_iload_n (M := M_X8_addSegment) dX8_addSegment_63 rfl ?_
      obtain ⟨x_16, x_16_e, hi_17, H⟩ := rd_e H
      refine z_iald (M := M_X8_addSegment) dX8_addSegment_64 (ly_Sx h_shape) rfl rfl rfl hi_17 x_16_e ?_
      refine z_aload_n (M := M_X8_addSegment) dX8_addSegment_65 rfl ?_
      refine z_getR (M := M_X8_addSegment) (ci := 9) (C := RX6) (T := TX6) (Nf := 5) (ty := tyX6) cl9 dX8_addSegment_66 (ly_S h_shape) 2 (by decide) t_68 rfl ?_
      refine z_iload_n (M := M_X8_addSegment) dX8_addSegment_69 rfl ?_
      obtain ⟨x_18, x_18_e, hi_19, H⟩ := rd_e H
      refine z_iald (M := M_X8_addSegment) dX8_addSegment_70 (ly_Sy h_shape) rfl rfl rfl hi_19 x_18_e ?_
      obtain ⟨⟨x_22, σ_21⟩, hc_20, H⟩ := bd_e H
      refine z_callV (M := M_X8_addSegment) (M' := M_X8_addHot) (as := [vi x_16, vi x_18]) (rest := []) rfl rfl dX8_addSegment_71 m_X8_addHot t_1408 t_1410 s_70 (c_X8_addHot hl  hc_20) rfl rfl ly_193 rfl (Nat.le_of_ble_eq_true rfl) (Nat.le_of_ble_eq_true rfl) (Nat.le_of_ble_eq_true rfl) (Nat.le_of_ble_eq_true rfl) ?_
      refine z_st (st' := [zv x_22]) rfl ?_
      rcases if_e H with ⟨h_23, H⟩ | ⟨h_23, H⟩
      · refine z_zeq_f (M := M_X8_addSegment) (tgt := 104) dX8_addSegment_74 (by decide) h_23 ?_
        refine z_aload_n (M := M_X8_addSegment) dX8_addSegment_77 rfl ?_
        refine z_aload_n (M := M_X8_addSegment) dX8_addSegment_78 rfl ?_
        refine z_getR (M := M_X8_addSegment) (ci := 9) (C := RX6) (T := TX6) (Nf := 5) (ty := tyX6) cl9 dX8_addSegment_79 (ly_S h_shape) 1 (by decide) t_61 rfl ?_
        refine z_iload_n (M := M_X8_addSegment) dX8_addSegment_82 rfl ?_
        refine z_iconst (M := M_X8_addSegment) dX8_addSegment_83 ?_
        refine z_iadd (M := M_X8_addSegment) dX8_addSegment_84 ?_
        obtain ⟨x_24, x_24_e, hi_25, H⟩ := rd_e H
        refine z_iald (M := M_X8_addSegment) dX8_addSegment_85 (ly_Sx h_shape) rfl rfl rfl hi_25 x_24_e ?_
        refine z_aload_n (M := M_X8_addSegment) dX8_addSegment_86 rfl ?_
        refine z_getR (M := M_X8_addSegment) (ci := 9) (C := RX6) (T := TX6) (Nf := 5) (ty := tyX6) cl9 dX8_addSegment_87 (ly_S h_shape) 2 (by decide) t_68 rfl ?_
        refine z_iload_n (M := M_X8_addSegment) dX8_addSegment_90 rfl ?_
        refine z_iconst (M := M_X8_addSegment) dX8_addSegment_91 ?_
        refine z_iadd (M := M_X8_addSegment) dX8_addSegment_92 ?_
        obtain ⟨x_26, x_26_e, hi_27, H⟩ := rd_e H
        refine z_iald (M := M_X8_addSegment) dX8_addSegment_93 (ly_Sy h_shape) rfl rfl rfl hi_27 x_26_e ?_
        obtain ⟨⟨x_30, σ_29⟩, hc_28, H⟩ := bd_e H
        refine z_callV (M := M_X8_addSegment) (M' := M_X8_addHot) (as := [vi x_24, vi x_26]) (rest := []) rfl rfl dX8_addSegment_94 m_X8_addHot t_1408 t_1410 s_70 (c_X8_addHot hl  hc_28) rfl rfl ly_193 rfl (Nat.le_of_ble_eq_true rfl) (Nat.le_of_ble_eq_true rfl) (Nat.le_of_ble_eq_true rfl) (Nat.le_of_ble_eq_true rfl) ?_
        refine z_st (st' := [zv x_30]) rfl ?_
        rcases if_e H with ⟨h_31, H⟩ | ⟨h_31, H⟩
        · refine z_zeq_f (M := M_X8_addSegment) (tgt := 104) dX8_addSegment_97 (by decide) h_31 ?_
          refine z_zconst (M := M_X8_addSegment) (b := true) dX8_addSegment_100 rfl ?_
          refine z_goto (M := M_X8_addSegment) (tgt := 105) dX8_addSegment_101 (by decide) ?_
          exact J_40 _ _ (Option.some.inj H).symm
        · refine z_zeq_t (M := M_X8_addSegment) (tgt := 104) dX8_addSegment_97 (by decide) h_31 ?_
          refine z_zconst (M := M_X8_addSegment) (b := false) dX8_addSegment_104 rfl ?_
          exact J_40 _ _ (Option.some.inj H).symm
      · refine z_zeq_t (M := M_X8_addSegment) (tgt := 104) dX8_addSegment_74 (by decide) h_23 ?_
        refine z_zconst (M := M_X8_addSegment) (b := false) dX8_addSegment_104 rfl ?_
        exact J_40 _ _ (Option.some.inj H).symm
    have H := he_2
    refine z_aload_n (M := M_X8_addSegment) dX8_addSegment_20 rfl ?_
    refine z_iload_n (M := M_X8_addSegment) dX8_addSegment_21 rfl ?_
    refine z_iload_n (M := M_X8_addSegment) dX8_addSegment_22 rfl ?_
    refine z_iconst (M := M_X8_addSegment) dX8_addSegment_23 ?_
    refine z_iadd (M := M_X8_addSegment) dX8_addSegment_24 ?_
    obtain ⟨x_7, hc_6, H⟩ := bd_e H
    refine z_callV (M := M_X8_addSegment) (M' := M_X6_areLike) (as := [vi i_0, vi (i_0 + 1)]) (rest := []) rfl rfl dX8_addSegment_25 m_X6_areLike t_1406 t_1188 t_1189 (c_X6_areLike hl h_shape hc_6) rfl rfl (ly_S h_shape) rfl (Nat.le_of_ble_eq_true rfl) (Nat.le_of_ble_eq_true rfl) (Nat.le_of_ble_eq_true rfl) (Nat.le_of_ble_eq_true rfl) ?_
    refine z_st (st' := [zv x_7]) rfl ?_
    rcases if_e H with ⟨h_8, H⟩ | ⟨h_8, H⟩
    · refine z_zeq_f (M := M_X8_addSegment) (tgt := 44) dX8_addSegment_28 (by decide) h_8 ?_
      refine z_aload_n (M := M_X8_addSegment) dX8_addSegment_31 rfl ?_
      refine z_dup (M := M_X8_addSegment) dX8_addSegment_32 rfl ?_
      refine z_getI (M := M_X8_addSegment) (ci := 11) (C := RX8) (T := TX8) (Nf := 13) (ty := tyX8) cl11 dX8_addSegment_33 ly_193 1 (by decide) t_328 rfl rfl ?_
      refine z_iconst (M := M_X8_addSegment) dX8_addSegment_36 ?_
      refine z_iadd (M := M_X8_addSegment) dX8_addSegment_37 ?_
      obtain ⟨σ_9, σ_9_e, H⟩ := wf_e H
      refine z_putI (M := M_X8_addSegment) (ci := 11) (C := RX8) (T := TX8) (Nf := 13) (ty := tyX8) cl11 dX8_addSegment_38 ly_193 1 (by decide) t_328 rfl rfl rfl rfl σ_9_e ?_
      refine z_goto (M := M_X8_addSegment) (tgt := 58) dX8_addSegment_41 (by decide) ?_
      exact J_41 _ (Option.some.inj H).symm
    · refine z_zeq_t (M := M_X8_addSegment) (tgt := 44) dX8_addSegment_28 (by decide) h_8 ?_
      refine z_aload_n (M := M_X8_addSegment) dX8_addSegment_44 rfl ?_
      refine z_getR (M := M_X8_addSegment) (ci := 11) (C := RX8) (T := TX8) (Nf := 13) (ty := tyX8) cl11 dX8_addSegment_45 ly_193 0 (by decide) t_327 rfl ?_
      refine z_aload_n (M := M_X8_addSegment) dX8_addSegment_48 rfl ?_
      refine z_iload_n (M := M_X8_addSegment) dX8_addSegment_49 rfl ?_
      refine z_iload_n (M := M_X8_addSegment) dX8_addSegment_50 rfl ?_
      refine z_iconst (M := M_X8_addSegment) dX8_addSegment_51 ?_
      refine z_iadd (M := M_X8_addSegment) dX8_addSegment_52 ?_
      refine z_iload_n (M := M_X8_addSegment) dX8_addSegment_53 rfl ?_
      obtain ⟨⟨x_13, σ_12⟩, hc_11, H⟩ := bd_e H
      refine z_callV (M := M_X8_addSegment) (M' := M_X5_add) (as := [vr shape_0, vi i_0, vi (i_0 + 1), vi mask_0]) (rest := []) rfl rfl dX8_addSegment_54 m_X5_add t_1407 t_1218 t_1219 (c_X5_add hl (by decide) h_shape hc_11) rfl rfl (ly_G (by decide)) rfl (Nat.le_of_ble_eq_true rfl) (Nat.le_of_ble_eq_true rfl) (Nat.le_of_ble_eq_true rfl) (Nat.le_of_ble_eq_true rfl) ?_
      refine z_st (st' := [zv x_13]) rfl ?_
      refine z_pop (M := M_X8_addSegment) dX8_addSegment_57 rfl ?_
      exact J_41 _ (Option.some.inj H).symm
theorem c_X8_collect (hl : l.stackTraces = false) {σ : SG} {shape_0 : Nat} {mask_0 : Int} {r : Bool} {σ' : SG} (h_shape : isS shape_0) (H : fN_collect σ shape_0 mask_0 = some (r, σ')) : en_S l E M_X8_collect 6 0 0 [vr 193, vr shape_0, vi mask_0] σ (pS (some (zv r)) σ') := by
  unfold fN_collect at H
  refine z_mk (lv := [some (vr 193), some (vr shape_0), some (vi mask_0), none, none, none, none, none]) m_X8_collect rfl hl (Nat.le_of_ble_eq_true rfl) rfl ?_
  refine z_iconst (M := M_X8_collect) dX8_collect_0 ?_
  refine z_istore_n (M := M_X8_collect) (lv' := [some (vr 193), some (vr shape_0), some (vi mask_0), some (vi 0), none, none, none, none]) dX8_collect_1 (Nat.le_of_ble_eq_true rfl) rfl rfl ?_
  refine z_iconst (M := M_X8_collect) dX8_collect_2 ?_
  refine z_istore (M := M_X8_collect) (lv' := [some (vr 193), some (vr shape_0), some (vi mask_0), some (vi 0), some (vi 0), none, none, none]) dX8_collect_3 (Nat.le_of_ble_eq_true rfl) rfl rfl ?_
  obtain ⟨rl_7, hw_4, hk_5, hk_6⟩ := bx_e H
  have J_59 : ∀ from_56 at_57 σ_58, rl_7 = (.inl (from_56, at_57, σ_58)) → YY l E M_X8_collect 6 0 0 (pS (some (zv r)) σ') 95 [some (vr 193), some (vr shape_0), some (vi mask_0), some (vi from_56), some (vi at_57), none, none, none] [] σ_58 0 0 := by
    intro from_56 at_57 σ_58 e
    have H := hk_5 _ e
    refine z_zconst (M := M_X8_collect) (b := true) dX8_collect_95 rfl ?_
    cases H
    exact z_zret (M := M_X8_collect) dX8_collect_96 rfl (Nat.le_of_ble_eq_true rfl) (Nat.le_of_ble_eq_true rfl) ⟨rfl, rfl⟩
  refine whl_go hw_4 (fun (from_1, at_2, σ_3) => YY l E M_X8_collect 6 0 0 (pS (some (zv r)) σ') 5 [some (vr 193), some (vr shape_0), some (vi mask_0), some (vi from_1), some (vi at_2), none, none, none] [] σ_3 0 0) ?_
  rintro ⟨from_1, at_2, σ_3⟩ o_8 H K_9 K_10
  refine z_iload (M := M_X8_collect) dX8_collect_5 rfl ?_
  refine z_iconst (M := M_X8_collect) dX8_collect_7 ?_
  refine z_iadd (M := M_X8_collect) dX8_collect_8 ?_
  refine z_aload_n (M := M_X8_collect) dX8_collect_9 rfl ?_
  refine z_getI (M := M_X8_collect) (ci := 9) (C := RX6) (T := TX6) (Nf := 5) (ty := tyX6) cl9 dX8_collect_10 (ly_S h_shape) 3 (by decide) t_74 rfl rfl ?_
  rcases if_e H with ⟨h_11, H⟩ | ⟨h_11, H⟩
  · refine z_icmp_ge_f (M := M_X8_collect) (tgt := 95) dX8_collect_13 (by decide) rfl rfl h_11 ?_
    refine z_iconst (M := M_X8_collect) dX8_collect_16 ?_
    refine z_istore (M := M_X8_collect) (lv' := [some (vr 193), some (vr shape_0), some (vi mask_0), some (vi from_1), some (vi at_2), some (vi 0), none, none]) dX8_collect_17 (Nat.le_of_ble_eq_true rfl) rfl rfl ?_
    obtain ⟨rl_18, hw_15, hk_16, hk_17⟩ := bx_e H
    have J_54 : ∀ from_48 row_49 σ_50, rl_18 = (.inl (from_48, row_49, σ_50)) → YY l E M_X8_collect 6 0 0 (pS (some (zv r)) σ') 84 [some (vr 193), some (vr shape_0), some (vi mask_0), some (vi from_48), some (vi at_2), some (vi row_49), none, none] [] σ_50 0 0 := by
      intro from_48 row_49 σ_50 e
      have H := hk_16 _ e
      refine z_aload_n (M := M_X8_collect) dX8_collect_84 rfl ?_
      refine z_iload (M := M_X8_collect) dX8_collect_85 rfl ?_
      obtain ⟨x_52, hc_51, H⟩ := bd_e H
      refine z_callV (M := M_X8_collect) (M' := M_X6_behind) (as := [vi at_2]) (rest := []) rfl rfl dX8_collect_87 m_X6_behind t_1430 t_1107 t_1108 (c_X6_behind hl h_shape hc_51) rfl rfl (ly_S h_shape) rfl (Nat.le_of_ble_eq_true rfl) (Nat.le_of_ble_eq_true rfl) (Nat.le_of_ble_eq_true rfl) (Nat.le_of_ble_eq_true rfl) ?_
      refine z_st (st' := [vi x_52]) rfl ?_
      refine z_istore (M := M_X8_collect) (lv' := [some (vr 193), some (vr shape_0), some (vi mask_0), some (vi from_48), some (vi x_52), some (vi row_49), none, none]) dX8_collect_90 (Nat.le_of_ble_eq_true rfl) rfl rfl ?_
      refine z_goto (M := M_X8_collect) (tgt := 5) dX8_collect_92 (by decide) ?_
      refine z_le (lv' := [some (vr 193), some (vr shape_0), some (vi mask_0), some (vi from_48), some (vi x_52), none, none, none]) ⟨Or.inr rfl, Or.inr rfl, Or.inr rfl, Or.inr rfl, Or.inr rfl, Or.inl rfl, Or.inl rfl, Or.inl rfl, trivial⟩ ?_
      exact K_9 _ (Option.some.inj H).symm
    refine whl_go hw_15 (fun (from_12, row_13, σ_14) => YY l E M_X8_collect 6 0 0 (pS (some (zv r)) σ') 19 [some (vr 193), some (vr shape_0), some (vi mask_0), some (vi from_12), some (vi at_2), some (vi row_13), none, none] [] σ_14 0 0) ?_
    rintro ⟨from_12, row_13, σ_14⟩ o_19 H K_20 K_21
    refine z_iload (M := M_X8_collect) dX8_collect_19 rfl ?_
    refine z_aload_n (M := M_X8_collect) dX8_collect_21 rfl ?_
    refine z_iload (M := M_X8_collect) dX8_collect_22 rfl ?_
    obtain ⟨x_23, hc_22, H⟩ := bd_e H
    refine z_callV (M := M_X8_collect) (M' := M_X6_rows) (as := [vi at_2]) (rest := [vi row_13]) rfl rfl dX8_collect_24 m_X6_rows t_1400 t_1075 t_1076 (c_X6_rows hl h_shape hc_22) rfl rfl (ly_S h_shape) rfl (Nat.le_of_ble_eq_true rfl) (Nat.le_of_ble_eq_true rfl) (Nat.le_of_ble_eq_true rfl) (Nat.le_of_ble_eq_true rfl) ?_
    refine z_st (st' := [vi x_23, vi row_13]) rfl ?_
    rcases if_e H with ⟨h_24, H⟩ | ⟨h_24, H⟩
    · refine z_icmp_ge_f (M := M_X8_collect) (tgt := 84) dX8_collect_27 (by decide) rfl rfl h_24 ?_
      refine z_aload_n (M := M_X8_collect) dX8_collect_30 rfl ?_
      refine z_iload (M := M_X8_collect) dX8_collect_31 rfl ?_
      refine z_iload (M := M_X8_collect) dX8_collect_33 rfl ?_
      obtain ⟨x_26, hc_25, H⟩ := bd_e H
      refine z_callV (M := M_X8_collect) (M' := M_X6_rowLength) (as := [vi at_2, vi row_13]) (rest := []) rfl rfl dX8_collect_35 m_X6_rowLength t_1401 t_1080 t_1081 (c_X6_rowLength hl h_shape hc_25) rfl rfl (ly_S h_shape) rfl (Nat.le_of_ble_eq_true rfl) (Nat.le_of_ble_eq_true rfl) (Nat.le_of_ble_eq_true rfl) (Nat.le_of_ble_eq_true rfl) ?_
      refine z_st (st' := [vi x_26]) rfl ?_
      refine z_istore (M := M_X8_collect) (lv' := [some (vr 193), some (vr shape_0), some (vi mask_0), some (vi from_12), some (vi at_2), some (vi row_13), some (vi x_26), none]) dX8_collect_38 (Nat.le_of_ble_eq_true rfl) rfl rfl ?_
      refine z_iload_n (M := M_X8_collect) dX8_collect_40 rfl ?_
      refine z_istore (M := M_X8_collect) (lv' := [some (vr 193), some (vr shape_0), some (vi mask_0), some (vi from_12), some (vi at_2), some (vi row_13), some (vi x_26), some (vi from_12)]) dX8_collect_41 (Nat.le_of_ble_eq_true rfl) rfl rfl ?_
      obtain ⟨rl_32, hw_29, hk_30, hk_31⟩ := bx_e H
      have J_46 : ∀ i_43 σ_44, rl_32 = (.inl (i_43, σ_44)) → YY l E M_X8_collect 6 0 0 (pS (some (zv r)) σ') 73 [some (vr 193), some (vr shape_0), some (vi mask_0), some (vi from_12), some (vi at_2), some (vi row_13), some (vi x_26), some (vi i_43)] [] σ_44 0 0 := by
        intro i_43 σ_44 e
        have H := hk_30 _ e
        refine z_iload_n (M := M_X8_collect) dX8_collect_73 rfl ?_
        refine z_iload (M := M_X8_collect) dX8_collect_74 rfl ?_
        refine z_iadd (M := M_X8_collect) dX8_collect_76 ?_
        refine z_istore_n (M := M_X8_collect) (lv' := [some (vr 193), some (vr shape_0), some (vi mask_0), some (vi (from_12 + x_26)), some (vi at_2), some (vi row_13), some (vi x_26), some (vi i_43)]) dX8_collect_77 (Nat.le_of_ble_eq_true rfl) rfl rfl ?_
        refine z_iinc (M := M_X8_collect) (lv' := [some (vr 193), some (vr shape_0), some (vi mask_0), some (vi (from_12 + x_26)), some (vi at_2), some (vi (row_13 + 1)), some (vi x_26), some (vi i_43)]) dX8_collect_78 rfl (Nat.le_of_ble_eq_true rfl) rfl rfl ?_
        refine z_goto (M := M_X8_collect) (tgt := 19) dX8_collect_81 (by decide) ?_
        refine z_le (lv' := [some (vr 193), some (vr shape_0), some (vi mask_0), some (vi (from_12 + x_26)), some (vi at_2), some (vi (row_13 + 1)), none, none]) ⟨Or.inr rfl, Or.inr rfl, Or.inr rfl, Or.inr rfl, Or.inr rfl, Or.inr rfl, Or.inl rfl, Or.inl rfl, trivial⟩ ?_
        exact K_20 _ (Option.some.inj H).symm
      refine whl_go hw_29 (fun (i_27, σ_28) => YY l E M_X8_collect 6 0 0 (pS (some (zv r)) σ') 43 [some (vr 193), some (vr shape_0), some (vi mask_0), some (vi from_12), some (vi at_2), some (vi row_13), some (vi x_26), some (vi i_27)] [] σ_28 0 0) ?_
      rintro ⟨i_27, σ_28⟩ o_33 H K_34 K_35
      refine z_iload (M := M_X8_collect) dX8_collect_43 rfl ?_
      refine z_iconst (M := M_X8_collect) dX8_collect_45 ?_
      refine z_iadd (M := M_X8_collect) dX8_collect_46 ?_
      refine z_iload_n (M := M_X8_collect) dX8_collect_47 rfl ?_
      refine z_iload (M := M_X8_collect) dX8_collect_48 rfl ?_
      refine z_iadd (M := M_X8_collect) dX8_collect_50 ?_
      rcases if_e H with ⟨h_36, H⟩ | ⟨h_36, H⟩
      · refine z_icmp_ge_f (M := M_X8_collect) (tgt := 73) dX8_collect_51 (by decide) rfl rfl h_36 ?_
        refine z_aload_n (M := M_X8_collect) dX8_collect_54 rfl ?_
        refine z_aload_n (M := M_X8_collect) dX8_collect_55 rfl ?_
        refine z_iload (M := M_X8_collect) dX8_collect_56 rfl ?_
        refine z_iload_n (M := M_X8_collect) dX8_collect_58 rfl ?_
        obtain ⟨⟨x_39, σ_38⟩, hc_37, H⟩ := bd_e H
        refine z_callV (M := M_X8_collect) (M' := M_X8_addSegment) (as := [vr shape_0, vi i_27, vi mask_0]) (rest := []) rfl rfl dX8_collect_59 m_X8_addSegment t_1402 t_1404 s_69 (c_X8_addSegment hl h_shape hc_37) rfl rfl ly_193 rfl (Nat.le_of_ble_eq_true rfl) (Nat.le_of_ble_eq_true rfl) (Nat.le_of_ble_eq_true rfl) (Nat.le_of_ble_eq_true rfl) ?_
        refine z_st (st' := [zv x_39]) rfl ?_
        rcases if_e H with ⟨h_40, H⟩ | ⟨h_40, H⟩
        · refine z_zne_t (M := M_X8_collect) (tgt := 67) dX8_collect_62 (by decide) h_40 ?_
          refine z_iinc (M := M_X8_collect) (lv' := [some (vr 193), some (vr shape_0), some (vi mask_0), some (vi from_12), some (vi at_2), some (vi row_13), some (vi x_26), some (vi (i_27 + 1))]) dX8_collect_67 rfl (Nat.le_of_ble_eq_true rfl) rfl rfl ?_
          refine z_goto (M := M_X8_collect) (tgt := 43) dX8_collect_70 (by decide) ?_
          exact K_34 _ (Option.some.inj H).symm
        · refine z_zne_f (M := M_X8_collect) (tgt := 67) dX8_collect_62 (by decide) h_40 ?_
          refine z_zconst (M := M_X8_collect) (b := false) dX8_collect_65 rfl ?_
          have H := congrArg some (hk_31 _ ((K_35 _ (Option.some.inj H).symm).symm))
          have H := congrArg some (hk_17 _ ((K_21 _ (Option.some.inj H).symm).symm))
          have H := congrArg some (hk_6 _ ((K_10 _ (Option.some.inj H).symm).symm))
          cases H
          exact z_zret (M := M_X8_collect) dX8_collect_66 rfl (Nat.le_of_ble_eq_true rfl) (Nat.le_of_ble_eq_true rfl) ⟨rfl, rfl⟩
      · refine z_icmp_ge_t (M := M_X8_collect) (tgt := 73) dX8_collect_51 (by decide) rfl rfl (Int.not_lt.mp h_36) ?_
        exact J_46 _ _ (K_35 _ (Option.some.inj H).symm).symm
    · refine z_icmp_ge_t (M := M_X8_collect) (tgt := 84) dX8_collect_27 (by decide) rfl rfl (Int.not_lt.mp h_24) ?_
      exact J_54 _ _ _ (K_21 _ (Option.some.inj H).symm).symm
  · refine z_icmp_ge_t (M := M_X8_collect) (tgt := 95) dX8_collect_13 (by decide) rfl rfl (Int.not_lt.mp h_11) ?_
    exact J_59 _ _ _ (K_10 _ (Option.some.inj H).symm).symm
theorem c_X8_firstHotFrom (hl : l.stackTraces = false) {σ : SG} {x_0 : Int} {r : Int}  (H : fN_firstHotFrom σ x_0 = some r) : en_S l E M_X8_firstHotFrom 1 0 0 [vr 193, vi x_0] σ (pS (some (vi r)) σ) := by
  unfold fN_firstHotFrom at H
  refine z_mk (lv := [some (vr 193), some (vi x_0), none, none, none]) m_X8_firstHotFrom rfl hl (Nat.le_of_ble_eq_true rfl) rfl ?_
  refine z_iconst (M := M_X8_firstHotFrom) dX8_firstHotFrom_0 ?_
  refine z_istore_n (M := M_X8_firstHotFrom) (lv' := [some (vr 193), some (vi x_0), some (vi 0), none, none]) dX8_firstHotFrom_1 (Nat.le_of_ble_eq_true rfl) rfl rfl ?_
  refine z_aload_n (M := M_X8_firstHotFrom) dX8_firstHotFrom_2 rfl ?_
  refine z_getI (M := M_X8_firstHotFrom) (ci := 11) (C := RX8) (T := TX8) (Nf := 13) (ty := tyX8) cl11 dX8_firstHotFrom_3 ly_193 8 (by decide) t_338 rfl rfl ?_
  refine z_istore_n (M := M_X8_firstHotFrom) (lv' := [some (vr 193), some (vi x_0), some (vi 0), some (vi (σ kN_hot 0)), none]) dX8_firstHotFrom_6 (Nat.le_of_ble_eq_true rfl) rfl rfl ?_
  obtain ⟨rl_6, hw_3, hk_4⟩ := bd_e H
  have J_27 : ∀ low_25 high_26, rl_6 = (low_25, high_26) → YY l E M_X8_firstHotFrom 1 0 0 (pS (some (vi r)) σ) 46 [some (vr 193), some (vi x_0), some (vi low_25), some (vi high_26), none] [] σ 0 0 := by
    intro low_25 high_26 e
    have H := hk_4
    rw [e] at H
    refine z_iload_n (M := M_X8_firstHotFrom) dX8_firstHotFrom_46 rfl ?_
    cases H
    exact z_iret (M := M_X8_firstHotFrom) dX8_firstHotFrom_47 rfl (Nat.le_of_ble_eq_true rfl) (Nat.le_of_ble_eq_true rfl) ⟨rfl, rfl⟩
  refine whl_go hw_3 (fun (low_1, high_2) => YY l E M_X8_firstHotFrom 1 0 0 (pS (some (vi r)) σ) 7 [some (vr 193), some (vi x_0), some (vi low_1), some (vi high_2), none] [] σ 0 0) ?_
  rintro ⟨low_1, high_2⟩ o_7 H K_8 K_9
  refine z_iload_n (M := M_X8_firstHotFrom) dX8_firstHotFrom_7 rfl ?_
  refine z_iload_n (M := M_X8_firstHotFrom) dX8_firstHotFrom_8 rfl ?_
  rcases if_e H with ⟨h_10, H⟩ | ⟨h_10, H⟩
  · refine z_icmp_ge_f (M := M_X8_firstHotFrom) (tgt := 46) dX8_firstHotFrom_9 (by decide) rfl rfl h_10 ?_
    refine z_iload_n (M := M_X8_firstHotFrom) dX8_firstHotFrom_12 rfl ?_
    refine z_iload_n (M := M_X8_firstHotFrom) dX8_firstHotFrom_13 rfl ?_
    refine z_iload_n (M := M_X8_firstHotFrom) dX8_firstHotFrom_14 rfl ?_
    refine z_isub (M := M_X8_firstHotFrom) dX8_firstHotFrom_15 ?_
    refine z_iconst (M := M_X8_firstHotFrom) dX8_firstHotFrom_16 ?_
    refine z_idiv (M := M_X8_firstHotFrom) dX8_firstHotFrom_17 (by decide +kernel) ?_
    refine z_iadd (M := M_X8_firstHotFrom) dX8_firstHotFrom_18 ?_
    refine z_istore (M := M_X8_firstHotFrom) (lv' := [some (vr 193), some (vi x_0), some (vi low_1), some (vi high_2), some (vi (low_1 + (q_idv (high_2 - low_1) 2)))]) dX8_firstHotFrom_19 (Nat.le_of_ble_eq_true rfl) rfl rfl ?_
    obtain ⟨v_14, he_11, hk_12⟩ := bd_e H
    have J_23 : ∀ low_20 high_21, v_14 = (low_20, high_21) → YY l E M_X8_firstHotFrom 1 0 0 (pS (some (vi r)) σ) 43 [some (vr 193), some (vi x_0), some (vi low_20), some (vi high_21), some (vi (low_1 + (q_idv (high_2 - low_1) 2)))] [] σ 0 0 := by
      intro low_20 high_21 e
      have H := hk_12
      rw [e] at H
      refine z_goto (M := M_X8_firstHotFrom) (tgt := 7) dX8_firstHotFrom_43 (by decide) ?_
      refine z_le (lv' := [some (vr 193), some (vi x_0), some (vi low_20), some (vi high_21), none]) ⟨Or.inr rfl, Or.inr rfl, Or.inr rfl, Or.inr rfl, Or.inl rfl, trivial⟩ ?_
      exact K_8 _ (Option.some.inj H).symm
    have H := he_11
    refine z_aload_n (M := M_X8_firstHotFrom) dX8_firstHotFrom_21 rfl ?_
    refine z_getR (M := M_X8_firstHotFrom) (ci := 11) (C := RX8) (T := TX8) (Nf := 13) (ty := tyX8) cl11 dX8_firstHotFrom_22 ly_193 6 (by decide) t_333 rfl ?_
    refine z_iload (M := M_X8_firstHotFrom) dX8_firstHotFrom_25 rfl ?_
    obtain ⟨x_15, x_15_e, hi_16, H⟩ := rd_e H
    refine z_iald (M := M_X8_firstHotFrom) dX8_firstHotFrom_27 ly_203 rfl rfl rfl hi_16 x_15_e ?_
    refine z_iload_n (M := M_X8_firstHotFrom) dX8_firstHotFrom_28 rfl ?_
    rcases if_e H with ⟨h_17, H⟩ | ⟨h_17, H⟩
    · refine z_icmp_ge_f (M := M_X8_firstHotFrom) (tgt := 40) dX8_firstHotFrom_29 (by decide) rfl rfl h_17 ?_
      refine z_iload (M := M_X8_firstHotFrom) dX8_firstHotFrom_32 rfl ?_
      refine z_iconst (M := M_X8_firstHotFrom) dX8_firstHotFrom_34 ?_
      refine z_iadd (M := M_X8_firstHotFrom) dX8_firstHotFrom_35 ?_
      refine z_istore_n (M := M_X8_firstHotFrom) (lv' := [some (vr 193), some (vi x_0), some (vi ((low_1 + (q_idv (high_2 - low_1) 2)) + 1)), some (vi high_2), some (vi (low_1 + (q_idv (high_2 - low_1) 2)))]) dX8_firstHotFrom_36 (Nat.le_of_ble_eq_true rfl) rfl rfl ?_
      refine z_goto (M := M_X8_firstHotFrom) (tgt := 43) dX8_firstHotFrom_37 (by decide) ?_
      exact J_23 _ _ (Option.some.inj H).symm
    · refine z_icmp_ge_t (M := M_X8_firstHotFrom) (tgt := 40) dX8_firstHotFrom_29 (by decide) rfl rfl (Int.not_lt.mp h_17) ?_
      refine z_iload (M := M_X8_firstHotFrom) dX8_firstHotFrom_40 rfl ?_
      refine z_istore_n (M := M_X8_firstHotFrom) (lv' := [some (vr 193), some (vi x_0), some (vi low_1), some (vi (low_1 + (q_idv (high_2 - low_1) 2))), some (vi (low_1 + (q_idv (high_2 - low_1) 2)))]) dX8_firstHotFrom_42 (Nat.le_of_ble_eq_true rfl) rfl rfl ?_
      exact J_23 _ _ (Option.some.inj H).symm
  · refine z_icmp_ge_t (M := M_X8_firstHotFrom) (tgt := 46) dX8_firstHotFrom_9 (by decide) rfl rfl (Int.not_lt.mp h_10) ?_
    exact J_27 _ _ (K_9 _ (Option.some.inj H).symm).symm
theorem c_X8_meetsPixel (hl : l.stackTraces = false) {σ : SG} {wayX_0 : Int} {wayY_0 : Int} {x_0 : Int} {y_0 : Int} {r : Bool}  (H : fN_meetsPixel wayX_0 wayY_0 x_0 y_0 = r) : en_S l E M_X8_meetsPixel 1 0 0 [vl wayX_0, vl wayY_0, vl x_0, vl y_0] σ (pS (some (zv r)) σ) := by
  unfold fN_meetsPixel at H
  refine z_mk (lv := [some (vl wayX_0), none, some (vl wayY_0), none, some (vl x_0), none, some (vl y_0), none]) m_X8_meetsPixel rfl hl (Nat.le_of_ble_eq_true rfl) rfl ?_
  rcases if_e H with ⟨h_8, H⟩ | ⟨h_8, H⟩
  · have J_9 : YY l E M_X8_meetsPixel 1 0 0 (pS (some (zv r)) σ) 12 [some (vl wayX_0), none, some (vl wayY_0), none, some (vl x_0), none, some (vl y_0), none] [] σ 0 0 := by
      refine z_zconst (M := M_X8_meetsPixel) (b := true) dX8_meetsPixel_12 rfl ?_
      cases H
      exact z_zret (M := M_X8_meetsPixel) dX8_meetsPixel_13 rfl (Nat.le_of_ble_eq_true rfl) (Nat.le_of_ble_eq_true rfl) ⟨rfl, rfl⟩
    refine z_lload_n (M := M_X8_meetsPixel) dX8_meetsPixel_0 rfl ?_
    refine z_lconst (M := M_X8_meetsPixel) (m := 0) dX8_meetsPixel_1 (by decide +kernel) ?_
    refine z_lcmp (M := M_X8_meetsPixel) dX8_meetsPixel_2 ?_
    by_cases h_11 : (w64 wayX_0) = 0
    · refine z_lif_eq_t (M := M_X8_meetsPixel) (tgt := 12) dX8_meetsPixel_3 (by decide) rfl (by decide +kernel) h_11 ?_
      exact J_9
    · refine z_lif_eq_f (M := M_X8_meetsPixel) (tgt := 12) dX8_meetsPixel_3 (by decide) rfl (by decide +kernel) h_11 ?_
      refine z_lload_n (M := M_X8_meetsPixel) dX8_meetsPixel_6 rfl ?_
      refine z_lconst (M := M_X8_meetsPixel) (m := 0) dX8_meetsPixel_7 (by decide +kernel) ?_
      refine z_lcmp (M := M_X8_meetsPixel) dX8_meetsPixel_8 ?_
      by_cases h_12 : (w64 wayY_0) = 0
      · refine z_lif_ne_f (M := M_X8_meetsPixel) (tgt := 14) dX8_meetsPixel_9 (by decide) rfl (by decide +kernel) h_12 ?_
        exact J_9
      · refine z_lif_ne_t (M := M_X8_meetsPixel) (tgt := 14) dX8_meetsPixel_9 (by decide) rfl (by decide +kernel) h_12 ?_
        exact absurd h_8 (fun q => q.elim h_11 h_12)
  · have J_10 : YY l E M_X8_meetsPixel 1 0 0 (pS (some (zv r)) σ) 14 [some (vl wayX_0), none, some (vl wayY_0), none, some (vl x_0), none, some (vl y_0), none] [] σ 0 0 := by
      refine z_lload_n (M := M_X8_meetsPixel) dX8_meetsPixel_14 rfl ?_
      refine z_lconst (M := M_X8_meetsPixel) (m := 0) dX8_meetsPixel_15 (by decide +kernel) ?_
      refine z_lcmp (M := M_X8_meetsPixel) dX8_meetsPixel_16 ?_
      rcases if_e H with ⟨h_1, H⟩ | ⟨h_1, H⟩
      · refine z_lif_le_f (M := M_X8_meetsPixel) (tgt := 58) dX8_meetsPixel_17 (by decide) rfl (by decide +kernel) h_1 ?_
        have J_2 : YY l E M_X8_meetsPixel 1 0 0 (pS (some (zv r)) σ) 57 [some (vl wayX_0), none, some (vl wayY_0), none, some (vl x_0), none, some (vl y_0), none] [zv (decide (((w64 ((x_0 - 1) * wayY_0)) < (w64 ((y_0 + 1) * wayX_0))) ∧ ((w64 ((y_0 - 1) * wayX_0)) < (w64 ((x_0 + 1) * wayY_0)))))] σ 0 0 := by
          cases H
          exact z_zret (M := M_X8_meetsPixel) dX8_meetsPixel_57 rfl (Nat.le_of_ble_eq_true rfl) (Nat.le_of_ble_eq_true rfl) ⟨rfl, rfl⟩
        refine z_lload (M := M_X8_meetsPixel) dX8_meetsPixel_20 rfl ?_
        refine z_lconst (M := M_X8_meetsPixel) (m := 1) dX8_meetsPixel_22 (by decide +kernel) ?_
        refine z_lsub (M := M_X8_meetsPixel) dX8_meetsPixel_23 ?_
        refine z_lload_n (M := M_X8_meetsPixel) dX8_meetsPixel_24 rfl ?_
        refine z_lmul (M := M_X8_meetsPixel) dX8_meetsPixel_25 ?_
        refine z_lload (M := M_X8_meetsPixel) dX8_meetsPixel_26 rfl ?_
        refine z_lconst (M := M_X8_meetsPixel) (m := 1) dX8_meetsPixel_28 (by decide +kernel) ?_
        refine z_ladd (M := M_X8_meetsPixel) dX8_meetsPixel_29 ?_
        refine z_lload_n (M := M_X8_meetsPixel) dX8_meetsPixel_30 rfl ?_
        refine z_lmul (M := M_X8_meetsPixel) dX8_meetsPixel_31 ?_
        refine z_lcmp (M := M_X8_meetsPixel) dX8_meetsPixel_32 ?_
        by_cases h_3 : (w64 ((x_0 - 1) * wayY_0)) < (w64 ((y_0 + 1) * wayX_0))
        · refine z_lif_ge_f (M := M_X8_meetsPixel) (tgt := 56) dX8_meetsPixel_33 (by decide) rfl rfl h_3 ?_
          refine z_lload (M := M_X8_meetsPixel) dX8_meetsPixel_36 rfl ?_
          refine z_lconst (M := M_X8_meetsPixel) (m := 1) dX8_meetsPixel_38 (by decide +kernel) ?_
          refine z_lsub (M := M_X8_meetsPixel) dX8_meetsPixel_39 ?_
          refine z_lload_n (M := M_X8_meetsPixel) dX8_meetsPixel_40 rfl ?_
          refine z_lmul (M := M_X8_meetsPixel) dX8_meetsPixel_41 ?_
          refine z_lload (M := M_X8_meetsPixel) dX8_meetsPixel_42 rfl ?_
          refine z_lconst (M := M_X8_meetsPixel) (m := 1) dX8_meetsPixel_44 (by decide +kernel) ?_
          refine z_ladd (M := M_X8_meetsPixel) dX8_meetsPixel_45 ?_
          refine z_lload_n (M := M_X8_meetsPixel) dX8_meetsPixel_46 rfl ?_
          refine z_lmul (M := M_X8_meetsPixel) dX8_meetsPixel_47 ?_
          refine z_lcmp (M := M_X8_meetsPixel) dX8_meetsPixel_48 ?_
          by_cases h_4 : (w64 ((y_0 - 1) * wayX_0)) < (w64 ((x_0 + 1) * wayY_0))
          · refine z_lif_ge_f (M := M_X8_meetsPixel) (tgt := 56) dX8_meetsPixel_49 (by decide) rfl rfl h_4 ?_
            refine z_iconst (M := M_X8_meetsPixel) dX8_meetsPixel_52 ?_
            refine z_goto (M := M_X8_meetsPixel) (tgt := 57) dX8_meetsPixel_53 (by decide) ?_
            exact z_st (by rw [zv_t (p := ((w64 ((x_0 - 1) * wayY_0)) < (w64 ((y_0 + 1) * wayX_0))) ∧ ((w64 ((y_0 - 1) * wayX_0)) < (w64 ((x_0 + 1) * wayY_0)))) ⟨h_3, h_4⟩]) J_2
          · refine z_lif_ge_t (M := M_X8_meetsPixel) (tgt := 56) dX8_meetsPixel_49 (by decide) rfl rfl (Int.not_lt.mp h_4) ?_
            refine z_iconst (M := M_X8_meetsPixel) dX8_meetsPixel_56 ?_
            exact z_st (by rw [zv_f (p := ((w64 ((x_0 - 1) * wayY_0)) < (w64 ((y_0 + 1) * wayX_0))) ∧ ((w64 ((y_0 - 1) * wayX_0)) < (w64 ((x_0 + 1) * wayY_0)))) (fun q => h_4 q.2)]) J_2
        · refine z_lif_ge_t (M := M_X8_meetsPixel) (tgt := 56) dX8_meetsPixel_33 (by decide) rfl rfl (Int.not_lt.mp h_3) ?_
          refine z_iconst (M := M_X8_meetsPixel) dX8_meetsPixel_56 ?_
          exact z_st (by rw [zv_f (p := ((w64 ((x_0 - 1) * wayY_0)) < (w64 ((y_0 + 1) * wayX_0))) ∧ ((w64 ((y_0 - 1) * wayX_0)) < (w64 ((x_0 + 1) * wayY_0)))) (fun q => h_3 q.1)]) J_2
      · refine z_lif_le_t (M := M_X8_meetsPixel) (tgt := 58) dX8_meetsPixel_17 (by decide) rfl (by decide +kernel) (Int.not_lt.mp h_1) ?_
        have J_5 : YY l E M_X8_meetsPixel 1 0 0 (pS (some (zv r)) σ) 95 [some (vl wayX_0), none, some (vl wayY_0), none, some (vl x_0), none, some (vl y_0), none] [zv (decide (((w64 ((y_0 - 1) * wayX_0)) ≤ (w64 ((x_0 - 1) * wayY_0))) ∧ ((w64 ((x_0 + 1) * wayY_0)) < (w64 ((y_0 + 1) * wayX_0)))))] σ 0 0 := by
          cases H
          exact z_zret (M := M_X8_meetsPixel) dX8_meetsPixel_95 rfl (Nat.le_of_ble_eq_true rfl) (Nat.le_of_ble_eq_true rfl) ⟨rfl, rfl⟩
        refine z_lload (M := M_X8_meetsPixel) dX8_meetsPixel_58 rfl ?_
        refine z_lconst (M := M_X8_meetsPixel) (m := 1) dX8_meetsPixel_60 (by decide +kernel) ?_
        refine z_lsub (M := M_X8_meetsPixel) dX8_meetsPixel_61 ?_
        refine z_lload_n (M := M_X8_meetsPixel) dX8_meetsPixel_62 rfl ?_
        refine z_lmul (M := M_X8_meetsPixel) dX8_meetsPixel_63 ?_
        refine z_lload (M := M_X8_meetsPixel) dX8_meetsPixel_64 rfl ?_
        refine z_lconst (M := M_X8_meetsPixel) (m := 1) dX8_meetsPixel_66 (by decide +kernel) ?_
        refine z_lsub (M := M_X8_meetsPixel) dX8_meetsPixel_67 ?_
        refine z_lload_n (M := M_X8_meetsPixel) dX8_meetsPixel_68 rfl ?_
        refine z_lmul (M := M_X8_meetsPixel) dX8_meetsPixel_69 ?_
        refine z_lcmp (M := M_X8_meetsPixel) dX8_meetsPixel_70 ?_
        by_cases h_6 : (w64 ((y_0 - 1) * wayX_0)) ≤ (w64 ((x_0 - 1) * wayY_0))
        · refine z_lif_lt_f (M := M_X8_meetsPixel) (tgt := 94) dX8_meetsPixel_71 (by decide) rfl rfl h_6 ?_
          refine z_lload (M := M_X8_meetsPixel) dX8_meetsPixel_74 rfl ?_
          refine z_lconst (M := M_X8_meetsPixel) (m := 1) dX8_meetsPixel_76 (by decide +kernel) ?_
          refine z_ladd (M := M_X8_meetsPixel) dX8_meetsPixel_77 ?_
          refine z_lload_n (M := M_X8_meetsPixel) dX8_meetsPixel_78 rfl ?_
          refine z_lmul (M := M_X8_meetsPixel) dX8_meetsPixel_79 ?_
          refine z_lload (M := M_X8_meetsPixel) dX8_meetsPixel_80 rfl ?_
          refine z_lconst (M := M_X8_meetsPixel) (m := 1) dX8_meetsPixel_82 (by decide +kernel) ?_
          refine z_ladd (M := M_X8_meetsPixel) dX8_meetsPixel_83 ?_
          refine z_lload_n (M := M_X8_meetsPixel) dX8_meetsPixel_84 rfl ?_
          refine z_lmul (M := M_X8_meetsPixel) dX8_meetsPixel_85 ?_
          refine z_lcmp (M := M_X8_meetsPixel) dX8_meetsPixel_86 ?_
          by_cases h_7 : (w64 ((x_0 + 1) * wayY_0)) < (w64 ((y_0 + 1) * wayX_0))
          · refine z_lif_le_f (M := M_X8_meetsPixel) (tgt := 94) dX8_meetsPixel_87 (by decide) rfl rfl h_7 ?_
            refine z_iconst (M := M_X8_meetsPixel) dX8_meetsPixel_90 ?_
            refine z_goto (M := M_X8_meetsPixel) (tgt := 95) dX8_meetsPixel_91 (by decide) ?_
            exact z_st (by rw [zv_t (p := ((w64 ((y_0 - 1) * wayX_0)) ≤ (w64 ((x_0 - 1) * wayY_0))) ∧ ((w64 ((x_0 + 1) * wayY_0)) < (w64 ((y_0 + 1) * wayX_0)))) ⟨h_6, h_7⟩]) J_5
          · refine z_lif_le_t (M := M_X8_meetsPixel) (tgt := 94) dX8_meetsPixel_87 (by decide) rfl rfl (Int.not_lt.mp h_7) ?_
            refine z_iconst (M := M_X8_meetsPixel) dX8_meetsPixel_94 ?_
            exact z_st (by rw [zv_f (p := ((w64 ((y_0 - 1) * wayX_0)) ≤ (w64 ((x_0 - 1) * wayY_0))) ∧ ((w64 ((x_0 + 1) * wayY_0)) < (w64 ((y_0 + 1) * wayX_0)))) (fun q => h_7 q.2)]) J_5
        · refine z_lif_lt_t (M := M_X8_meetsPixel) (tgt := 94) dX8_meetsPixel_71 (by decide) rfl rfl (Int.not_le.mp h_6) ?_
          refine z_iconst (M := M_X8_meetsPixel) dX8_meetsPixel_94 ?_
          exact z_st (by rw [zv_f (p := ((w64 ((y_0 - 1) * wayX_0)) ≤ (w64 ((x_0 - 1) * wayY_0))) ∧ ((w64 ((x_0 + 1) * wayY_0)) < (w64 ((y_0 + 1) * wayX_0)))) (fun q => h_6 q.1)]) J_5
    refine z_lload_n (M := M_X8_meetsPixel) dX8_meetsPixel_0 rfl ?_
    refine z_lconst (M := M_X8_meetsPixel) (m := 0) dX8_meetsPixel_1 (by decide +kernel) ?_
    refine z_lcmp (M := M_X8_meetsPixel) dX8_meetsPixel_2 ?_
    by_cases h_13 : (w64 wayX_0) = 0
    · refine z_lif_eq_t (M := M_X8_meetsPixel) (tgt := 12) dX8_meetsPixel_3 (by decide) rfl (by decide +kernel) h_13 ?_
      exact absurd (Or.inl h_13) h_8
    · refine z_lif_eq_f (M := M_X8_meetsPixel) (tgt := 12) dX8_meetsPixel_3 (by decide) rfl (by decide +kernel) h_13 ?_
      refine z_lload_n (M := M_X8_meetsPixel) dX8_meetsPixel_6 rfl ?_
      refine z_lconst (M := M_X8_meetsPixel) (m := 0) dX8_meetsPixel_7 (by decide +kernel) ?_
      refine z_lcmp (M := M_X8_meetsPixel) dX8_meetsPixel_8 ?_
      by_cases h_14 : (w64 wayY_0) = 0
      · refine z_lif_ne_f (M := M_X8_meetsPixel) (tgt := 14) dX8_meetsPixel_9 (by decide) rfl (by decide +kernel) h_14 ?_
        exact absurd (Or.inr h_14) h_8
      · refine z_lif_ne_t (M := M_X8_meetsPixel) (tgt := 14) dX8_meetsPixel_9 (by decide) rfl (by decide +kernel) h_14 ?_
        exact J_10
theorem c_X8_moveToFront (hl : l.stackTraces = false) {σ : SG} {first_0 : Int} {last_0 : Int} {σ' : SG}  (H : fN_moveToFront σ first_0 last_0 = some σ') : en_S l E M_X8_moveToFront 1 0 0 [vr 193, vi first_0, vi last_0] σ (pS (none) σ') := by
  unfold fN_moveToFront at H
  refine z_mk (lv := [some (vr 193), some (vi first_0), some (vi last_0), none, none]) m_X8_moveToFront rfl hl (Nat.le_of_ble_eq_true rfl) rfl ?_
  refine z_aload_n (M := M_X8_moveToFront) dX8_moveToFront_0 rfl ?_
  refine z_getR (M := M_X8_moveToFront) (ci := 11) (C := RX8) (T := TX8) (Nf := 13) (ty := tyX8) cl11 dX8_moveToFront_1 ly_193 5 (by decide) t_332 rfl ?_
  refine z_iload_n (M := M_X8_moveToFront) dX8_moveToFront_4 rfl ?_
  obtain ⟨x_1, x_1_e, hi_2, H⟩ := rd_e H
  refine z_iald (M := M_X8_moveToFront) dX8_moveToFront_5 ly_202 rfl rfl rfl hi_2 x_1_e ?_
  refine z_istore_n (M := M_X8_moveToFront) (lv' := [some (vr 193), some (vi first_0), some (vi last_0), some (vi x_1), none]) dX8_moveToFront_6 (Nat.le_of_ble_eq_true rfl) rfl rfl ?_
  refine z_iload_n (M := M_X8_moveToFront) dX8_moveToFront_7 rfl ?_
  refine z_istore (M := M_X8_moveToFront) (lv' := [some (vr 193), some (vi first_0), some (vi last_0), some (vi x_1), some (vi last_0)]) dX8_moveToFront_8 (Nat.le_of_ble_eq_true rfl) rfl rfl ?_
  obtain ⟨rl_8, hw_5, hk_6⟩ := bd_e H
  have J_23 : ∀ k_19 σ_20, rl_8 = (k_19, σ_20) → YY l E M_X8_moveToFront 1 0 0 (pS (none) σ') 38 [some (vr 193), some (vi first_0), some (vi last_0), some (vi x_1), some (vi k_19)] [] σ_20 0 0 := by
    intro k_19 σ_20 e
    have H := hk_6
    rw [e] at H
    refine z_aload_n (M := M_X8_moveToFront) dX8_moveToFront_38 rfl ?_
    refine z_getR (M := M_X8_moveToFront) (ci := 11) (C := RX8) (T := TX8) (Nf := 13) (ty := tyX8) cl11 dX8_moveToFront_39 ly_193 5 (by decide) t_332 rfl ?_
    refine z_iload_n (M := M_X8_moveToFront) dX8_moveToFront_42 rfl ?_
    refine z_iload_n (M := M_X8_moveToFront) dX8_moveToFront_43 rfl ?_
    obtain ⟨σ_21, σ_21_e, hi_22, H⟩ := wa_e H
    refine z_iast (M := M_X8_moveToFront) dX8_moveToFront_44 ly_202 rfl rfl rfl hi_22 σ_21_e ?_
    cases H
    exact z_vret (M := M_X8_moveToFront) dX8_moveToFront_45 rfl (Nat.le_of_ble_eq_true rfl) (Nat.le_of_ble_eq_true rfl) ⟨rfl, rfl⟩
  refine whl_go hw_5 (fun (k_3, σ_4) => YY l E M_X8_moveToFront 1 0 0 (pS (none) σ') 10 [some (vr 193), some (vi first_0), some (vi last_0), some (vi x_1), some (vi k_3)] [] σ_4 0 0) ?_
  rintro ⟨k_3, σ_4⟩ o_9 H K_10 K_11
  refine z_iload (M := M_X8_moveToFront) dX8_moveToFront_10 rfl ?_
  refine z_iload_n (M := M_X8_moveToFront) dX8_moveToFront_12 rfl ?_
  rcases if_e H with ⟨h_12, H⟩ | ⟨h_12, H⟩
  · refine z_icmp_le_f (M := M_X8_moveToFront) (tgt := 38) dX8_moveToFront_13 (by decide) rfl rfl h_12 ?_
    refine z_aload_n (M := M_X8_moveToFront) dX8_moveToFront_16 rfl ?_
    refine z_getR (M := M_X8_moveToFront) (ci := 11) (C := RX8) (T := TX8) (Nf := 13) (ty := tyX8) cl11 dX8_moveToFront_17 ly_193 5 (by decide) t_332 rfl ?_
    refine z_iload (M := M_X8_moveToFront) dX8_moveToFront_20 rfl ?_
    refine z_aload_n (M := M_X8_moveToFront) dX8_moveToFront_22 rfl ?_
    refine z_getR (M := M_X8_moveToFront) (ci := 11) (C := RX8) (T := TX8) (Nf := 13) (ty := tyX8) cl11 dX8_moveToFront_23 ly_193 5 (by decide) t_332 rfl ?_
    refine z_iload (M := M_X8_moveToFront) dX8_moveToFront_26 rfl ?_
    refine z_iconst (M := M_X8_moveToFront) dX8_moveToFront_28 ?_
    refine z_isub (M := M_X8_moveToFront) dX8_moveToFront_29 ?_
    obtain ⟨x_13, x_13_e, hi_14, H⟩ := rd_e H
    refine z_iald (M := M_X8_moveToFront) dX8_moveToFront_30 ly_202 rfl rfl rfl hi_14 x_13_e ?_
    obtain ⟨σ_15, σ_15_e, hi_16, H⟩ := wa_e H
    refine z_iast (M := M_X8_moveToFront) dX8_moveToFront_31 ly_202 rfl rfl rfl hi_16 σ_15_e ?_
    refine z_iinc (M := M_X8_moveToFront) (lv' := [some (vr 193), some (vi first_0), some (vi last_0), some (vi x_1), some (vi (k_3 + (-1)))]) dX8_moveToFront_32 rfl (Nat.le_of_ble_eq_true rfl) rfl rfl ?_
    refine z_goto (M := M_X8_moveToFront) (tgt := 10) dX8_moveToFront_35 (by decide) ?_
    exact K_10 _ (Option.some.inj H).symm
  · refine z_icmp_le_t (M := M_X8_moveToFront) (tgt := 38) dX8_moveToFront_13 (by decide) rfl rfl (Int.not_lt.mp h_12) ?_
    exact J_23 _ _ (K_11 _ (Option.some.inj H).symm).symm
theorem c_X8_layChain (hl : l.stackTraces = false) {σ : SG} {i_0 : Int} {r : Int} {σ' : SG}  (H : fN_layChain σ i_0 = some (r, σ')) : en_S l E M_X8_layChain 2 0 0 [vr 193, vi i_0] σ (pS (some (vi r)) σ') := by
  unfold fN_layChain at H
  refine z_mk (lv := [some (vr 193), some (vi i_0), none, none, none, none, none, none, none, none, none, none, none]) m_X8_layChain rfl hl (Nat.le_of_ble_eq_true rfl) rfl ?_
  obtain ⟨v_195, he_196, hk_197⟩ := bd_e H
  have J_198 : ∀ x_20, v_195 = x_20 → YY l E M_X8_layChain 2 0 0 (pS (some (vi r)) σ') 68 [some (vr 193), some (vi i_0), none, none, none, none, none, none, none, none, none, none, none] [zv x_20] σ 0 0 := by
    intro x_20 e
    have H := hk_197
    rw [e] at H
    refine z_zstore_n (M := M_X8_layChain) (lv' := [some (vr 193), some (vi i_0), some (zv x_20), none, none, none, none, none, none, none, none, none, none]) dX8_layChain_68 (Nat.le_of_ble_eq_true rfl) rfl rfl ?_
    obtain ⟨v_191, he_192, hk_193⟩ := bd_e H
    have J_194 : ∀ x_32, v_191 = x_32 → YY l E M_X8_layChain 2 0 0 (pS (some (vi r)) σ') 94 [some (vr 193), some (vi i_0), some (zv x_20), none, none, none, none, none, none, none, none, none, none] [vi x_32] σ 0 0 := by
      intro x_32 e
      have H := hk_193
      rw [e] at H
      refine z_istore_n (M := M_X8_layChain) (lv' := [some (vr 193), some (vi i_0), some (zv x_20), some (vi x_32), none, none, none, none, none, none, none, none, none]) dX8_layChain_94 (Nat.le_of_ble_eq_true rfl) rfl rfl ?_
      obtain ⟨v_187, he_188, hk_189⟩ := bd_e H
      have J_190 : ∀ x_44, v_187 = x_44 → YY l E M_X8_layChain 2 0 0 (pS (some (vi r)) σ') 120 [some (vr 193), some (vi i_0), some (zv x_20), some (vi x_32), none, none, none, none, none, none, none, none, none] [vi x_44] σ 0 0 := by
        intro x_44 e
        have H := hk_189
        rw [e] at H
        refine z_istore (M := M_X8_layChain) (lv' := [some (vr 193), some (vi i_0), some (zv x_20), some (vi x_32), some (vi x_44), none, none, none, none, none, none, none, none]) dX8_layChain_120 (Nat.le_of_ble_eq_true rfl) rfl rfl ?_
        obtain ⟨v_183, he_184, hk_185⟩ := bd_e H
        have J_186 : ∀ x_56, v_183 = x_56 → YY l E M_X8_layChain 2 0 0 (pS (some (vi r)) σ') 147 [some (vr 193), some (vi i_0), some (zv x_20), some (vi x_32), some (vi x_44), none, none, none, none, none, none, none, none] [vi x_56] σ 0 0 := by
          intro x_56 e
          have H := hk_185
          rw [e] at H
          refine z_iload_n (M := M_X8_layChain) dX8_layChain_147 rfl ?_
          refine z_isub (M := M_X8_layChain) dX8_layChain_148 ?_
          refine z_istore (M := M_X8_layChain) (lv' := [some (vr 193), some (vi i_0), some (zv x_20), some (vi x_32), some (vi x_44), some (vi (x_56 - x_32)), none, none, none, none, none, none, none]) dX8_layChain_149 (Nat.le_of_ble_eq_true rfl) rfl rfl ?_
          obtain ⟨v_179, he_180, hk_181⟩ := bd_e H
          have J_182 : ∀ x_68, v_179 = x_68 → YY l E M_X8_layChain 2 0 0 (pS (some (vi r)) σ') 176 [some (vr 193), some (vi i_0), some (zv x_20), some (vi x_32), some (vi x_44), some (vi (x_56 - x_32)), none, none, none, none, none, none, none] [vi x_68] σ 0 0 := by
            intro x_68 e
            have H := hk_181
            rw [e] at H
            refine z_iload (M := M_X8_layChain) dX8_layChain_176 rfl ?_
            refine z_isub (M := M_X8_layChain) dX8_layChain_178 ?_
            refine z_istore (M := M_X8_layChain) (lv' := [some (vr 193), some (vi i_0), some (zv x_20), some (vi x_32), some (vi x_44), some (vi (x_56 - x_32)), some (vi (x_68 - x_44)), none, none, none, none, none, none]) dX8_layChain_179 (Nat.le_of_ble_eq_true rfl) rfl rfl ?_
            refine z_aload_n (M := M_X8_layChain) dX8_layChain_181 rfl ?_
            refine z_getR (M := M_X8_layChain) (ci := 11) (C := RX8) (T := TX8) (Nf := 13) (ty := tyX8) cl11 dX8_layChain_182 ly_193 0 (by decide) t_327 rfl ?_
            refine z_iload_n (M := M_X8_layChain) dX8_layChain_185 rfl ?_
            obtain ⟨x_70, hc_69, H⟩ := bd_e H
            refine z_callV (M := M_X8_layChain) (M' := M_X5_lowY) (as := [vi i_0]) (rest := []) rfl rfl dX8_layChain_186 m_X5_lowY t_1467 t_1244 t_1245 (c_X5_lowY hl (by decide) hc_69) rfl rfl (ly_G (by decide)) rfl (Nat.le_of_ble_eq_true rfl) (Nat.le_of_ble_eq_true rfl) (Nat.le_of_ble_eq_true rfl) (Nat.le_of_ble_eq_true rfl) ?_
            refine z_st (st' := [vi x_70]) rfl ?_
            refine z_istore (M := M_X8_layChain) (lv' := [some (vr 193), some (vi i_0), some (zv x_20), some (vi x_32), some (vi x_44), some (vi (x_56 - x_32)), some (vi (x_68 - x_44)), some (vi x_70), none, none, none, none, none]) dX8_layChain_189 (Nat.le_of_ble_eq_true rfl) rfl rfl ?_
            refine z_aload_n (M := M_X8_layChain) dX8_layChain_191 rfl ?_
            refine z_getR (M := M_X8_layChain) (ci := 11) (C := RX8) (T := TX8) (Nf := 13) (ty := tyX8) cl11 dX8_layChain_192 ly_193 0 (by decide) t_327 rfl ?_
            refine z_iload_n (M := M_X8_layChain) dX8_layChain_195 rfl ?_
            obtain ⟨x_72, hc_71, H⟩ := bd_e H
            refine z_callV (M := M_X8_layChain) (M' := M_X5_highY) (as := [vi i_0]) (rest := []) rfl rfl dX8_layChain_196 m_X5_highY t_1468 t_1248 t_1249 (c_X5_highY hl (by decide) hc_71) rfl rfl (ly_G (by decide)) rfl (Nat.le_of_ble_eq_true rfl) (Nat.le_of_ble_eq_true rfl) (Nat.le_of_ble_eq_true rfl) (Nat.le_of_ble_eq_true rfl) ?_
            refine z_st (st' := [vi x_72]) rfl ?_
            refine z_istore (M := M_X8_layChain) (lv' := [some (vr 193), some (vi i_0), some (zv x_20), some (vi x_32), some (vi x_44), some (vi (x_56 - x_32)), some (vi (x_68 - x_44)), some (vi x_70), some (vi x_72), none, none, none, none]) dX8_layChain_199 (Nat.le_of_ble_eq_true rfl) rfl rfl ?_
            refine z_aload_n (M := M_X8_layChain) dX8_layChain_201 rfl ?_
            refine z_getR (M := M_X8_layChain) (ci := 11) (C := RX8) (T := TX8) (Nf := 13) (ty := tyX8) cl11 dX8_layChain_202 ly_193 0 (by decide) t_327 rfl ?_
            refine z_iload_n (M := M_X8_layChain) dX8_layChain_205 rfl ?_
            obtain ⟨x_74, hc_73, H⟩ := bd_e H
            refine z_callV (M := M_X8_layChain) (M' := M_X5_highX) (as := [vi i_0]) (rest := []) rfl rfl dX8_layChain_206 m_X5_highX t_1436 t_1239 t_1240 (c_X5_highX hl (by decide) hc_73) rfl rfl (ly_G (by decide)) rfl (Nat.le_of_ble_eq_true rfl) (Nat.le_of_ble_eq_true rfl) (Nat.le_of_ble_eq_true rfl) (Nat.le_of_ble_eq_true rfl) ?_
            refine z_st (st' := [vi x_74]) rfl ?_
            refine z_istore (M := M_X8_layChain) (lv' := [some (vr 193), some (vi i_0), some (zv x_20), some (vi x_32), some (vi x_44), some (vi (x_56 - x_32)), some (vi (x_68 - x_44)), some (vi x_70), some (vi x_72), some (vi x_74), none, none, none]) dX8_layChain_209 (Nat.le_of_ble_eq_true rfl) rfl rfl ?_
            refine z_iconst (M := M_X8_layChain) dX8_layChain_211 ?_
            refine z_istore (M := M_X8_layChain) (lv' := [some (vr 193), some (vi i_0), some (zv x_20), some (vi x_32), some (vi x_44), some (vi (x_56 - x_32)), some (vi (x_68 - x_44)), some (vi x_70), some (vi x_72), some (vi x_74), some (vi 0), none, none]) dX8_layChain_212 (Nat.le_of_ble_eq_true rfl) rfl rfl ?_
            refine z_iconst (M := M_X8_layChain) dX8_layChain_214 ?_
            refine z_istore (M := M_X8_layChain) (lv' := [some (vr 193), some (vi i_0), some (zv x_20), some (vi x_32), some (vi x_44), some (vi (x_56 - x_32)), some (vi (x_68 - x_44)), some (vi x_70), some (vi x_72), some (vi x_74), some (vi 0), some (vi 0), none]) dX8_layChain_215 (Nat.le_of_ble_eq_true rfl) rfl rfl ?_
            refine z_aload_n (M := M_X8_layChain) dX8_layChain_217 rfl ?_
            refine z_iload_n (M := M_X8_layChain) dX8_layChain_218 rfl ?_
            obtain ⟨x_76, hc_75, H⟩ := bd_e H
            refine z_callV (M := M_X8_layChain) (M' := M_X8_firstHotFrom) (as := [vi x_32]) (rest := []) rfl rfl dX8_layChain_219 m_X8_firstHotFrom t_1469 t_1471 s_77 (c_X8_firstHotFrom hl  hc_75) rfl rfl ly_193 rfl (Nat.le_of_ble_eq_true rfl) (Nat.le_of_ble_eq_true rfl) (Nat.le_of_ble_eq_true rfl) (Nat.le_of_ble_eq_true rfl) ?_
            refine z_st (st' := [vi x_76]) rfl ?_
            refine z_istore (M := M_X8_layChain) (lv' := [some (vr 193), some (vi i_0), some (zv x_20), some (vi x_32), some (vi x_44), some (vi (x_56 - x_32)), some (vi (x_68 - x_44)), some (vi x_70), some (vi x_72), some (vi x_74), some (vi 0), some (vi 0), some (vi x_76)]) dX8_layChain_222 (Nat.le_of_ble_eq_true rfl) rfl rfl ?_
            obtain ⟨rl_84, hw_81, hk_82⟩ := bd_e H
            have J_178 : ∀ size_174 column_175 h_176 σ_177, rl_84 = (size_174, column_175, h_176, σ_177) → YY l E M_X8_layChain 2 0 0 (pS (some (vi r)) σ') 400 [some (vr 193), some (vi i_0), some (zv x_20), some (vi x_32), some (vi x_44), some (vi (x_56 - x_32)), some (vi (x_68 - x_44)), some (vi x_70), some (vi x_72), some (vi x_74), some (vi size_174), some (vi column_175), some (vi h_176)] [] σ_177 0 0 := by
              intro size_174 column_175 h_176 σ_177 e
              have H := hk_82
              rw [e] at H
              refine z_iload (M := M_X8_layChain) dX8_layChain_400 rfl ?_
              cases H
              exact z_iret (M := M_X8_layChain) dX8_layChain_402 rfl (Nat.le_of_ble_eq_true rfl) (Nat.le_of_ble_eq_true rfl) ⟨rfl, rfl⟩
            refine whl_go hw_81 (fun (size_77, column_78, h_79, σ_80) => YY l E M_X8_layChain 2 0 0 (pS (some (vi r)) σ') 224 [some (vr 193), some (vi i_0), some (zv x_20), some (vi x_32), some (vi x_44), some (vi (x_56 - x_32)), some (vi (x_68 - x_44)), some (vi x_70), some (vi x_72), some (vi x_74), some (vi size_77), some (vi column_78), some (vi h_79)] [] σ_80 0 0) ?_
            rintro ⟨size_77, column_78, h_79, σ_80⟩ o_85 H K_86 K_87
            refine z_iload (M := M_X8_layChain) dX8_layChain_224 rfl ?_
            refine z_aload_n (M := M_X8_layChain) dX8_layChain_226 rfl ?_
            refine z_getI (M := M_X8_layChain) (ci := 11) (C := RX8) (T := TX8) (Nf := 13) (ty := tyX8) cl11 dX8_layChain_227 ly_193 8 (by decide) t_338 rfl rfl ?_
            rcases if_e H with ⟨h_96, H⟩ | ⟨h_96, H⟩
            · refine z_icmp_ge_f (M := M_X8_layChain) (tgt := 400) dX8_layChain_230 (by decide) rfl rfl h_96 ?_
              refine z_aload_n (M := M_X8_layChain) dX8_layChain_233 rfl ?_
              refine z_getR (M := M_X8_layChain) (ci := 11) (C := RX8) (T := TX8) (Nf := 13) (ty := tyX8) cl11 dX8_layChain_234 ly_193 6 (by decide) t_333 rfl ?_
              refine z_iload (M := M_X8_layChain) dX8_layChain_237 rfl ?_
              obtain ⟨x_97, x_97_e, hi_98, H⟩ := rd_e H
              refine z_iald (M := M_X8_layChain) dX8_layChain_239 ly_203 rfl rfl rfl hi_98 x_97_e ?_
              refine z_iload (M := M_X8_layChain) dX8_layChain_240 rfl ?_
              rcases if_e H with ⟨h_99, H⟩ | ⟨h_99, H⟩
              · refine z_icmp_gt_f (M := M_X8_layChain) (tgt := 400) dX8_layChain_242 (by decide) rfl rfl h_99 ?_
                refine z_aload_n (M := M_X8_layChain) dX8_layChain_245 rfl ?_
                refine z_getR (M := M_X8_layChain) (ci := 11) (C := RX8) (T := TX8) (Nf := 13) (ty := tyX8) cl11 dX8_layChain_246 ly_193 7 (by decide) t_335 rfl ?_
                refine z_iload (M := M_X8_layChain) dX8_layChain_249 rfl ?_
                obtain ⟨x_116, x_116_e, hi_117, H⟩ := rd_e H
                refine z_iald (M := M_X8_layChain) dX8_layChain_251 ly_204 rfl rfl rfl hi_117 x_116_e ?_
                refine z_iload (M := M_X8_layChain) dX8_layChain_252 rfl ?_
                rcases if_e H with ⟨h_118, H⟩ | ⟨h_118, H⟩
                · refine z_icmp_lt_t (M := M_X8_layChain) (tgt := 394) dX8_layChain_254 (by decide) rfl rfl h_118 ?_
                  refine z_iinc (M := M_X8_layChain) (lv' := [some (vr 193), some (vi i_0), some (zv x_20), some (vi x_32), some (vi x_44), some (vi (x_56 - x_32)), some (vi (x_68 - x_44)), some (vi x_70), some (vi x_72), some (vi x_74), some (vi size_77), some (vi column_78), some (vi (h_79 + 1))]) dX8_layChain_394 rfl (Nat.le_of_ble_eq_true rfl) rfl rfl ?_
                  refine z_goto (M := M_X8_layChain) (tgt := 224) dX8_layChain_397 (by decide) ?_
                  exact K_86 _ (Option.some.inj H).symm
                · refine z_icmp_lt_f (M := M_X8_layChain) (tgt := 394) dX8_layChain_254 (by decide) rfl rfl (Int.not_lt.mp h_118) ?_
                  refine z_aload_n (M := M_X8_layChain) dX8_layChain_257 rfl ?_
                  refine z_getR (M := M_X8_layChain) (ci := 11) (C := RX8) (T := TX8) (Nf := 13) (ty := tyX8) cl11 dX8_layChain_258 ly_193 7 (by decide) t_335 rfl ?_
                  refine z_iload (M := M_X8_layChain) dX8_layChain_261 rfl ?_
                  obtain ⟨x_120, x_120_e, hi_121, H⟩ := rd_e H
                  refine z_iald (M := M_X8_layChain) dX8_layChain_263 ly_204 rfl rfl rfl hi_121 x_120_e ?_
                  refine z_iload (M := M_X8_layChain) dX8_layChain_264 rfl ?_
                  rcases if_e H with ⟨h_122, H⟩ | ⟨h_122, H⟩
                  · refine z_icmp_gt_t (M := M_X8_layChain) (tgt := 394) dX8_layChain_266 (by decide) rfl rfl h_122 ?_
                    refine z_iinc (M := M_X8_layChain) (lv' := [some (vr 193), some (vi i_0), some (zv x_20), some (vi x_32), some (vi x_44), some (vi (x_56 - x_32)), some (vi (x_68 - x_44)), some (vi x_70), some (vi x_72), some (vi x_74), some (vi size_77), some (vi column_78), some (vi (h_79 + 1))]) dX8_layChain_394 rfl (Nat.le_of_ble_eq_true rfl) rfl rfl ?_
                    refine z_goto (M := M_X8_layChain) (tgt := 224) dX8_layChain_397 (by decide) ?_
                    exact K_86 _ (Option.some.inj H).symm
                  · refine z_icmp_gt_f (M := M_X8_layChain) (tgt := 394) dX8_layChain_266 (by decide) rfl rfl (Int.not_lt.mp h_122) ?_
                    refine z_iload (M := M_X8_layChain) dX8_layChain_269 rfl ?_
                    refine z_i2l (M := M_X8_layChain) dX8_layChain_271 ?_
                    refine z_iload (M := M_X8_layChain) dX8_layChain_272 rfl ?_
                    refine z_i2l (M := M_X8_layChain) dX8_layChain_274 ?_
                    refine z_ldc2 (M := M_X8_layChain) (n := 2) dX8_layChain_275 t_1448 (by decide +kernel) ?_
                    refine z_aload_n (M := M_X8_layChain) dX8_layChain_278 rfl ?_
                    refine z_getR (M := M_X8_layChain) (ci := 11) (C := RX8) (T := TX8) (Nf := 13) (ty := tyX8) cl11 dX8_layChain_279 ly_193 6 (by decide) t_333 rfl ?_
                    refine z_iload (M := M_X8_layChain) dX8_layChain_282 rfl ?_
                    obtain ⟨x_124, x_124_e, hi_125, H⟩ := rd_e H
                    refine z_iald (M := M_X8_layChain) dX8_layChain_284 ly_203 rfl rfl rfl hi_125 x_124_e ?_
                    refine z_i2l (M := M_X8_layChain) dX8_layChain_285 ?_
                    refine z_lmul (M := M_X8_layChain) dX8_layChain_286 ?_
                    refine z_ldc2 (M := M_X8_layChain) (n := 2) dX8_layChain_287 t_1448 (by decide +kernel) ?_
                    refine z_iload_n (M := M_X8_layChain) dX8_layChain_290 rfl ?_
                    refine z_i2l (M := M_X8_layChain) dX8_layChain_291 ?_
                    refine z_lmul (M := M_X8_layChain) dX8_layChain_292 ?_
                    refine z_lsub (M := M_X8_layChain) dX8_layChain_293 ?_
                    refine z_ldc2 (M := M_X8_layChain) (n := 2) dX8_layChain_294 t_1448 (by decide +kernel) ?_
                    refine z_aload_n (M := M_X8_layChain) dX8_layChain_297 rfl ?_
                    refine z_getR (M := M_X8_layChain) (ci := 11) (C := RX8) (T := TX8) (Nf := 13) (ty := tyX8) cl11 dX8_layChain_298 ly_193 7 (by decide) t_335 rfl ?_
                    refine z_iload (M := M_X8_layChain) dX8_layChain_301 rfl ?_
                    obtain ⟨x_126, x_126_e, hi_127, H⟩ := rd_e H
                    refine z_iald (M := M_X8_layChain) dX8_layChain_303 ly_204 rfl rfl rfl hi_127 x_126_e ?_
                    refine z_i2l (M := M_X8_layChain) dX8_layChain_304 ?_
                    refine z_lmul (M := M_X8_layChain) dX8_layChain_305 ?_
                    refine z_ldc2 (M := M_X8_layChain) (n := 2) dX8_layChain_306 t_1448 (by decide +kernel) ?_
                    refine z_iload (M := M_X8_layChain) dX8_layChain_309 rfl ?_
                    refine z_i2l (M := M_X8_layChain) dX8_layChain_311 ?_
                    refine z_lmul (M := M_X8_layChain) dX8_layChain_312 ?_
                    refine z_lsub (M := M_X8_layChain) dX8_layChain_313 ?_
                    refine z_callS (M := M_X8_layChain) (M' := M_X8_meetsPixel) (as := [vl (w32 (x_56 - x_32)), vl (w32 (x_68 - x_44)), vl ((2 * (w32 x_124)) - (2 * (w32 x_32))), vl ((2 * (w32 x_126)) - (2 * (w32 x_44)))]) (rest := []) rfl rfl dX8_layChain_314 m_X8_meetsPixel t_1473 t_1474 (c_X8_meetsPixel hl  rfl) rfl rfl (Nat.le_of_ble_eq_true rfl) (Nat.le_of_ble_eq_true rfl) (Nat.le_of_ble_eq_true rfl) (Nat.le_of_ble_eq_true rfl) ?_
                    refine z_st (st' := [zv (fN_meetsPixel (w32 (x_56 - x_32)) (w32 (x_68 - x_44)) ((2 * (w32 x_124)) - (2 * (w32 x_32))) ((2 * (w32 x_126)) - (2 * (w32 x_44))))]) rfl ?_
                    rcases if_e H with ⟨h_128, H⟩ | ⟨h_128, H⟩
                    · refine z_zne_t (M := M_X8_layChain) (tgt := 323) dX8_layChain_317 (by decide) h_128 ?_
                      obtain ⟨v_167, he_168, hk_169⟩ := bd_e H
                      have J_170 : ∀ x_152, v_167 = x_152 → YY l E M_X8_layChain 2 0 0 (pS (some (vi r)) σ') 360 [some (vr 193), some (vi i_0), some (zv x_20), some (vi x_32), some (vi x_44), some (vi (x_56 - x_32)), some (vi (x_68 - x_44)), some (vi x_70), some (vi x_72), some (vi x_74), some (vi size_77), some (vi column_78), some (vi h_79)] [vi x_152] σ_80 0 0 := by
                        intro x_152 e
                        have H := hk_169
                        rw [e] at H
                        refine z_istore (M := M_X8_layChain) (lv' := [some (vr 193), some (vi i_0), some (zv x_20), some (vi x_32), some (vi x_44), some (vi (x_56 - x_32)), some (vi (x_68 - x_44)), some (vi x_70), some (vi x_72), some (vi x_74), some (vi size_77), some (vi x_152), some (vi h_79)]) dX8_layChain_360 (Nat.le_of_ble_eq_true rfl) rfl rfl ?_
                        refine z_aload_n (M := M_X8_layChain) dX8_layChain_362 rfl ?_
                        refine z_getR (M := M_X8_layChain) (ci := 11) (C := RX8) (T := TX8) (Nf := 13) (ty := tyX8) cl11 dX8_layChain_363 ly_193 5 (by decide) t_332 rfl ?_
                        refine z_iload (M := M_X8_layChain) dX8_layChain_366 rfl ?_
                        refine z_iload (M := M_X8_layChain) dX8_layChain_368 rfl ?_
                        obtain ⟨σ_153, σ_153_e, hi_154, H⟩ := wa_e H
                        refine z_iast (M := M_X8_layChain) dX8_layChain_370 ly_202 rfl rfl rfl hi_154 σ_153_e ?_
                        refine z_iinc (M := M_X8_layChain) (lv' := [some (vr 193), some (vi i_0), some (zv x_20), some (vi x_32), some (vi x_44), some (vi (x_56 - x_32)), some (vi (x_68 - x_44)), some (vi x_70), some (vi x_72), some (vi x_74), some (vi (size_77 + 1)), some (vi x_152), some (vi h_79)]) dX8_layChain_371 rfl (Nat.le_of_ble_eq_true rfl) rfl rfl ?_
                        obtain ⟨v_158, he_155, hk_156⟩ := bd_e H
                        have J_166 : ∀ σ_164, v_158 = σ_164 → YY l E M_X8_layChain 2 0 0 (pS (some (vi r)) σ') 394 [some (vr 193), some (vi i_0), some (zv x_20), some (vi x_32), some (vi x_44), some (vi (x_56 - x_32)), some (vi (x_68 - x_44)), some (vi x_70), some (vi x_72), some (vi x_74), some (vi (size_77 + 1)), some (vi x_152), some (vi h_79)] [] σ_164 0 0 := by
                          intro σ_164 e
                          have H := hk_156
                          rw [e] at H
                          refine z_iinc (M := M_X8_layChain) (lv' := [some (vr 193), some (vi i_0), some (zv x_20), some (vi x_32), some (vi x_44), some (vi (x_56 - x_32)), some (vi (x_68 - x_44)), some (vi x_70), some (vi x_72), some (vi x_74), some (vi (size_77 + 1)), some (vi x_152), some (vi (h_79 + 1))]) dX8_layChain_394 rfl (Nat.le_of_ble_eq_true rfl) rfl rfl ?_
                          refine z_goto (M := M_X8_layChain) (tgt := 224) dX8_layChain_397 (by decide) ?_
                          exact K_86 _ (Option.some.inj H).symm
                        have H := he_155
                        refine z_iload (M := M_X8_layChain) dX8_layChain_374 rfl ?_
                        rcases if_e H with ⟨h_159, H⟩ | ⟨h_159, H⟩
                        · refine z_if_ge_f (M := M_X8_layChain) (tgt := 394) dX8_layChain_376 (by decide) rfl h_159 ?_
                          refine z_aload_n (M := M_X8_layChain) dX8_layChain_379 rfl ?_
                          refine z_iload (M := M_X8_layChain) dX8_layChain_380 rfl ?_
                          refine z_iconst (M := M_X8_layChain) dX8_layChain_382 ?_
                          refine z_isub (M := M_X8_layChain) dX8_layChain_383 ?_
                          refine z_iload (M := M_X8_layChain) dX8_layChain_384 rfl ?_
                          refine z_isub (M := M_X8_layChain) dX8_layChain_386 ?_
                          refine z_iload (M := M_X8_layChain) dX8_layChain_387 rfl ?_
                          refine z_iconst (M := M_X8_layChain) dX8_layChain_389 ?_
                          refine z_isub (M := M_X8_layChain) dX8_layChain_390 ?_
                          obtain ⟨σ_161, hc_160, H⟩ := bd_e H
                          refine z_callV (M := M_X8_layChain) (M' := M_X8_moveToFront) (as := [vi (((size_77 + 1) - 1) - x_152), vi ((size_77 + 1) - 1)]) (rest := []) rfl rfl dX8_layChain_391 m_X8_moveToFront t_1476 t_1478 s_78 (c_X8_moveToFront hl  hc_160) rfl rfl ly_193 rfl (Nat.le_of_ble_eq_true rfl) (Nat.le_of_ble_eq_true rfl) (Nat.le_of_ble_eq_true rfl) (Nat.le_of_ble_eq_true rfl) ?_
                          refine z_st (st' := []) rfl ?_
                          exact J_166 _ (Option.some.inj H).symm
                        · refine z_if_ge_t (M := M_X8_layChain) (tgt := 394) dX8_layChain_376 (by decide) rfl (Int.not_lt.mp h_159) ?_
                          exact J_166 _ (Option.some.inj H).symm
                      have H := he_168
                      refine z_iload (M := M_X8_layChain) dX8_layChain_323 rfl ?_
                      rcases if_e H with ⟨h_141, H⟩ | ⟨h_141, H⟩
                      · refine z_if_le_f (M := M_X8_layChain) (tgt := 359) dX8_layChain_325 (by decide) rfl h_141 ?_
                        refine z_aload_n (M := M_X8_layChain) dX8_layChain_328 rfl ?_
                        refine z_getR (M := M_X8_layChain) (ci := 11) (C := RX8) (T := TX8) (Nf := 13) (ty := tyX8) cl11 dX8_layChain_329 ly_193 6 (by decide) t_333 rfl ?_
                        refine z_aload_n (M := M_X8_layChain) dX8_layChain_332 rfl ?_
                        refine z_getR (M := M_X8_layChain) (ci := 11) (C := RX8) (T := TX8) (Nf := 13) (ty := tyX8) cl11 dX8_layChain_333 ly_193 5 (by decide) t_332 rfl ?_
                        refine z_iload (M := M_X8_layChain) dX8_layChain_336 rfl ?_
                        refine z_iconst (M := M_X8_layChain) dX8_layChain_338 ?_
                        refine z_isub (M := M_X8_layChain) dX8_layChain_339 ?_
                        obtain ⟨x_142, x_142_e, hi_143, H⟩ := rd_e H
                        refine z_iald (M := M_X8_layChain) dX8_layChain_340 ly_202 rfl rfl rfl hi_143 x_142_e ?_
                        obtain ⟨x_144, x_144_e, hi_145, H⟩ := rd_e H
                        refine z_iald (M := M_X8_layChain) dX8_layChain_341 ly_203 rfl rfl rfl hi_145 x_144_e ?_
                        refine z_aload_n (M := M_X8_layChain) dX8_layChain_342 rfl ?_
                        refine z_getR (M := M_X8_layChain) (ci := 11) (C := RX8) (T := TX8) (Nf := 13) (ty := tyX8) cl11 dX8_layChain_343 ly_193 6 (by decide) t_333 rfl ?_
                        refine z_iload (M := M_X8_layChain) dX8_layChain_346 rfl ?_
                        obtain ⟨x_146, x_146_e, hi_147, H⟩ := rd_e H
                        refine z_iald (M := M_X8_layChain) dX8_layChain_348 ly_203 rfl rfl rfl hi_147 x_146_e ?_
                        rcases if_e H with ⟨h_148, H⟩ | ⟨h_148, H⟩
                        · refine z_icmp_ne_f (M := M_X8_layChain) (tgt := 359) dX8_layChain_349 (by decide) rfl rfl h_148 ?_
                          refine z_iload (M := M_X8_layChain) dX8_layChain_352 rfl ?_
                          refine z_iconst (M := M_X8_layChain) dX8_layChain_354 ?_
                          refine z_iadd (M := M_X8_layChain) dX8_layChain_355 ?_
                          refine z_goto (M := M_X8_layChain) (tgt := 360) dX8_layChain_356 (by decide) ?_
                          exact J_170 _ (Option.some.inj H).symm
                        · refine z_icmp_ne_t (M := M_X8_layChain) (tgt := 359) dX8_layChain_349 (by decide) rfl rfl h_148 ?_
                          refine z_iconst (M := M_X8_layChain) dX8_layChain_359 ?_
                          exact J_170 _ (Option.some.inj H).symm
                      · refine z_if_le_t (M := M_X8_layChain) (tgt := 359) dX8_layChain_325 (by decide) rfl (Int.not_lt.mp h_141) ?_
                        refine z_iconst (M := M_X8_layChain) dX8_layChain_359 ?_
                        exact J_170 _ (Option.some.inj H).symm
                    · refine z_zne_f (M := M_X8_layChain) (tgt := 323) dX8_layChain_317 (by decide) h_128 ?_
                      refine z_goto (M := M_X8_layChain) (tgt := 394) dX8_layChain_320 (by decide) ?_
                      refine z_iinc (M := M_X8_layChain) (lv' := [some (vr 193), some (vi i_0), some (zv x_20), some (vi x_32), some (vi x_44), some (vi (x_56 - x_32)), some (vi (x_68 - x_44)), some (vi x_70), some (vi x_72), some (vi x_74), some (vi size_77), some (vi column_78), some (vi (h_79 + 1))]) dX8_layChain_394 rfl (Nat.le_of_ble_eq_true rfl) rfl rfl ?_
                      refine z_goto (M := M_X8_layChain) (tgt := 224) dX8_layChain_397 (by decide) ?_
                      exact K_86 _ (Option.some.inj H).symm
              · refine z_icmp_gt_t (M := M_X8_layChain) (tgt := 400) dX8_layChain_242 (by decide) rfl rfl (Int.not_le.mp h_99) ?_
                exact J_178 _ _ _ _ (K_87 _ (Option.some.inj H).symm).symm
            · refine z_icmp_ge_t (M := M_X8_layChain) (tgt := 400) dX8_layChain_230 (by decide) rfl rfl (Int.not_lt.mp h_96) ?_
              exact J_178 _ _ _ _ (K_87 _ (Option.some.inj H).symm).symm
          have H := he_180
          refine z_zload_n (M := M_X8_layChain) dX8_layChain_151 rfl ?_
          rcases if_e H with ⟨h_61, H⟩ | ⟨h_61, H⟩
          · refine z_zeq_f (M := M_X8_layChain) (tgt := 167) dX8_layChain_152 (by decide) h_61 ?_
            refine z_aload_n (M := M_X8_layChain) dX8_layChain_155 rfl ?_
            refine z_getR (M := M_X8_layChain) (ci := 11) (C := RX8) (T := TX8) (Nf := 13) (ty := tyX8) cl11 dX8_layChain_156 ly_193 0 (by decide) t_327 rfl ?_
            refine z_getR (M := M_X8_layChain) (ci := 8) (C := RX5) (T := TX5) (Nf := 8) (ty := tyX5) cl8 dX8_layChain_159 (ly_G (by decide)) 1 (by decide) t_239 rfl ?_
            refine z_iload_n (M := M_X8_layChain) dX8_layChain_162 rfl ?_
            obtain ⟨x_62, x_62_e, hi_63, H⟩ := rd_e H
            refine z_iald (M := M_X8_layChain) dX8_layChain_163 ly_196 rfl rfl rfl hi_63 x_62_e ?_
            refine z_goto (M := M_X8_layChain) (tgt := 176) dX8_layChain_164 (by decide) ?_
            exact J_182 _ (Option.some.inj H).symm
          · refine z_zeq_t (M := M_X8_layChain) (tgt := 167) dX8_layChain_152 (by decide) h_61 ?_
            refine z_aload_n (M := M_X8_layChain) dX8_layChain_167 rfl ?_
            refine z_getR (M := M_X8_layChain) (ci := 11) (C := RX8) (T := TX8) (Nf := 13) (ty := tyX8) cl11 dX8_layChain_168 ly_193 0 (by decide) t_327 rfl ?_
            refine z_getR (M := M_X8_layChain) (ci := 8) (C := RX5) (T := TX5) (Nf := 8) (ty := tyX5) cl8 dX8_layChain_171 (ly_G (by decide)) 3 (by decide) t_247 rfl ?_
            refine z_iload_n (M := M_X8_layChain) dX8_layChain_174 rfl ?_
            obtain ⟨x_65, x_65_e, hi_66, H⟩ := rd_e H
            refine z_iald (M := M_X8_layChain) dX8_layChain_175 ly_198 rfl rfl rfl hi_66 x_65_e ?_
            exact J_182 _ (Option.some.inj H).symm
        have H := he_184
        refine z_zload_n (M := M_X8_layChain) dX8_layChain_122 rfl ?_
        rcases if_e H with ⟨h_49, H⟩ | ⟨h_49, H⟩
        · refine z_zeq_f (M := M_X8_layChain) (tgt := 138) dX8_layChain_123 (by decide) h_49 ?_
          refine z_aload_n (M := M_X8_layChain) dX8_layChain_126 rfl ?_
          refine z_getR (M := M_X8_layChain) (ci := 11) (C := RX8) (T := TX8) (Nf := 13) (ty := tyX8) cl11 dX8_layChain_127 ly_193 0 (by decide) t_327 rfl ?_
          refine z_getR (M := M_X8_layChain) (ci := 8) (C := RX5) (T := TX5) (Nf := 8) (ty := tyX5) cl8 dX8_layChain_130 (ly_G (by decide)) 0 (by decide) t_235 rfl ?_
          refine z_iload_n (M := M_X8_layChain) dX8_layChain_133 rfl ?_
          obtain ⟨x_50, x_50_e, hi_51, H⟩ := rd_e H
          refine z_iald (M := M_X8_layChain) dX8_layChain_134 ly_195 rfl rfl rfl hi_51 x_50_e ?_
          refine z_goto (M := M_X8_layChain) (tgt := 147) dX8_layChain_135 (by decide) ?_
          exact J_186 _ (Option.some.inj H).symm
        · refine z_zeq_t (M := M_X8_layChain) (tgt := 138) dX8_layChain_123 (by decide) h_49 ?_
          refine z_aload_n (M := M_X8_layChain) dX8_layChain_138 rfl ?_
          refine z_getR (M := M_X8_layChain) (ci := 11) (C := RX8) (T := TX8) (Nf := 13) (ty := tyX8) cl11 dX8_layChain_139 ly_193 0 (by decide) t_327 rfl ?_
          refine z_getR (M := M_X8_layChain) (ci := 8) (C := RX5) (T := TX5) (Nf := 8) (ty := tyX5) cl8 dX8_layChain_142 (ly_G (by decide)) 2 (by decide) t_243 rfl ?_
          refine z_iload_n (M := M_X8_layChain) dX8_layChain_145 rfl ?_
          obtain ⟨x_53, x_53_e, hi_54, H⟩ := rd_e H
          refine z_iald (M := M_X8_layChain) dX8_layChain_146 ly_197 rfl rfl rfl hi_54 x_53_e ?_
          exact J_186 _ (Option.some.inj H).symm
      have H := he_188
      refine z_zload_n (M := M_X8_layChain) dX8_layChain_95 rfl ?_
      rcases if_e H with ⟨h_37, H⟩ | ⟨h_37, H⟩
      · refine z_zeq_f (M := M_X8_layChain) (tgt := 111) dX8_layChain_96 (by decide) h_37 ?_
        refine z_aload_n (M := M_X8_layChain) dX8_layChain_99 rfl ?_
        refine z_getR (M := M_X8_layChain) (ci := 11) (C := RX8) (T := TX8) (Nf := 13) (ty := tyX8) cl11 dX8_layChain_100 ly_193 0 (by decide) t_327 rfl ?_
        refine z_getR (M := M_X8_layChain) (ci := 8) (C := RX5) (T := TX5) (Nf := 8) (ty := tyX5) cl8 dX8_layChain_103 (ly_G (by decide)) 3 (by decide) t_247 rfl ?_
        refine z_iload_n (M := M_X8_layChain) dX8_layChain_106 rfl ?_
        obtain ⟨x_38, x_38_e, hi_39, H⟩ := rd_e H
        refine z_iald (M := M_X8_layChain) dX8_layChain_107 ly_198 rfl rfl rfl hi_39 x_38_e ?_
        refine z_goto (M := M_X8_layChain) (tgt := 120) dX8_layChain_108 (by decide) ?_
        exact J_190 _ (Option.some.inj H).symm
      · refine z_zeq_t (M := M_X8_layChain) (tgt := 111) dX8_layChain_96 (by decide) h_37 ?_
        refine z_aload_n (M := M_X8_layChain) dX8_layChain_111 rfl ?_
        refine z_getR (M := M_X8_layChain) (ci := 11) (C := RX8) (T := TX8) (Nf := 13) (ty := tyX8) cl11 dX8_layChain_112 ly_193 0 (by decide) t_327 rfl ?_
        refine z_getR (M := M_X8_layChain) (ci := 8) (C := RX5) (T := TX5) (Nf := 8) (ty := tyX5) cl8 dX8_layChain_115 (ly_G (by decide)) 1 (by decide) t_239 rfl ?_
        refine z_iload_n (M := M_X8_layChain) dX8_layChain_118 rfl ?_
        obtain ⟨x_41, x_41_e, hi_42, H⟩ := rd_e H
        refine z_iald (M := M_X8_layChain) dX8_layChain_119 ly_196 rfl rfl rfl hi_42 x_41_e ?_
        exact J_190 _ (Option.some.inj H).symm
    have H := he_192
    refine z_zload_n (M := M_X8_layChain) dX8_layChain_69 rfl ?_
    rcases if_e H with ⟨h_25, H⟩ | ⟨h_25, H⟩
    · refine z_zeq_f (M := M_X8_layChain) (tgt := 85) dX8_layChain_70 (by decide) h_25 ?_
      refine z_aload_n (M := M_X8_layChain) dX8_layChain_73 rfl ?_
      refine z_getR (M := M_X8_layChain) (ci := 11) (C := RX8) (T := TX8) (Nf := 13) (ty := tyX8) cl11 dX8_layChain_74 ly_193 0 (by decide) t_327 rfl ?_
      refine z_getR (M := M_X8_layChain) (ci := 8) (C := RX5) (T := TX5) (Nf := 8) (ty := tyX5) cl8 dX8_layChain_77 (ly_G (by decide)) 2 (by decide) t_243 rfl ?_
      refine z_iload_n (M := M_X8_layChain) dX8_layChain_80 rfl ?_
      obtain ⟨x_26, x_26_e, hi_27, H⟩ := rd_e H
      refine z_iald (M := M_X8_layChain) dX8_layChain_81 ly_197 rfl rfl rfl hi_27 x_26_e ?_
      refine z_goto (M := M_X8_layChain) (tgt := 94) dX8_layChain_82 (by decide) ?_
      exact J_194 _ (Option.some.inj H).symm
    · refine z_zeq_t (M := M_X8_layChain) (tgt := 85) dX8_layChain_70 (by decide) h_25 ?_
      refine z_aload_n (M := M_X8_layChain) dX8_layChain_85 rfl ?_
      refine z_getR (M := M_X8_layChain) (ci := 11) (C := RX8) (T := TX8) (Nf := 13) (ty := tyX8) cl11 dX8_layChain_86 ly_193 0 (by decide) t_327 rfl ?_
      refine z_getR (M := M_X8_layChain) (ci := 8) (C := RX5) (T := TX5) (Nf := 8) (ty := tyX5) cl8 dX8_layChain_89 (ly_G (by decide)) 0 (by decide) t_235 rfl ?_
      refine z_iload_n (M := M_X8_layChain) dX8_layChain_92 rfl ?_
      obtain ⟨x_29, x_29_e, hi_30, H⟩ := rd_e H
      refine z_iald (M := M_X8_layChain) dX8_layChain_93 ly_195 rfl rfl rfl hi_30 x_29_e ?_
      exact J_194 _ (Option.some.inj H).symm
  have H := he_196
  refine z_aload_n (M := M_X8_layChain) dX8_layChain_0 rfl ?_
  refine z_getR (M := M_X8_layChain) (ci := 11) (C := RX8) (T := TX8) (Nf := 13) (ty := tyX8) cl11 dX8_layChain_1 ly_193 0 (by decide) t_327 rfl ?_
  refine z_getR (M := M_X8_layChain) (ci := 8) (C := RX5) (T := TX5) (Nf := 8) (ty := tyX5) cl8 dX8_layChain_4 (ly_G (by decide)) 0 (by decide) t_235 rfl ?_
  refine z_iload_n (M := M_X8_layChain) dX8_layChain_7 rfl ?_
  obtain ⟨x_1, x_1_e, hi_2, H⟩ := rd_e H
  refine z_iald (M := M_X8_layChain) dX8_layChain_8 ly_195 rfl rfl rfl hi_2 x_1_e ?_
  refine z_aload_n (M := M_X8_layChain) dX8_layChain_9 rfl ?_
  refine z_getR (M := M_X8_layChain) (ci := 11) (C := RX8) (T := TX8) (Nf := 13) (ty := tyX8) cl11 dX8_layChain_10 ly_193 0 (by decide) t_327 rfl ?_
  refine z_getR (M := M_X8_layChain) (ci := 8) (C := RX5) (T := TX5) (Nf := 8) (ty := tyX5) cl8 dX8_layChain_13 (ly_G (by decide)) 2 (by decide) t_243 rfl ?_
  refine z_iload_n (M := M_X8_layChain) dX8_layChain_16 rfl ?_
  obtain ⟨x_3, x_3_e, hi_4, H⟩ := rd_e H
  refine z_iald (M := M_X8_layChain) dX8_layChain_17 ly_197 rfl rfl rfl hi_4 x_3_e ?_
  rcases if_e H with ⟨h_5, H⟩ | ⟨h_5, H⟩
  · refine z_icmp_gt_t (M := M_X8_layChain) (tgt := 63) dX8_layChain_18 (by decide) rfl rfl h_5 ?_
    refine z_zconst (M := M_X8_layChain) (b := true) dX8_layChain_63 rfl ?_
    refine z_goto (M := M_X8_layChain) (tgt := 68) dX8_layChain_64 (by decide) ?_
    exact J_198 _ (Option.some.inj H).symm
  · refine z_icmp_gt_f (M := M_X8_layChain) (tgt := 63) dX8_layChain_18 (by decide) rfl rfl (Int.not_lt.mp h_5) ?_
    refine z_aload_n (M := M_X8_layChain) dX8_layChain_21 rfl ?_
    refine z_getR (M := M_X8_layChain) (ci := 11) (C := RX8) (T := TX8) (Nf := 13) (ty := tyX8) cl11 dX8_layChain_22 ly_193 0 (by decide) t_327 rfl ?_
    refine z_getR (M := M_X8_layChain) (ci := 8) (C := RX5) (T := TX5) (Nf := 8) (ty := tyX5) cl8 dX8_layChain_25 (ly_G (by decide)) 0 (by decide) t_235 rfl ?_
    refine z_iload_n (M := M_X8_layChain) dX8_layChain_28 rfl ?_
    obtain ⟨x_7, x_7_e, hi_8, H⟩ := rd_e H
    refine z_iald (M := M_X8_layChain) dX8_layChain_29 ly_195 rfl rfl rfl hi_8 x_7_e ?_
    refine z_aload_n (M := M_X8_layChain) dX8_layChain_30 rfl ?_
    refine z_getR (M := M_X8_layChain) (ci := 11) (C := RX8) (T := TX8) (Nf := 13) (ty := tyX8) cl11 dX8_layChain_31 ly_193 0 (by decide) t_327 rfl ?_
    refine z_getR (M := M_X8_layChain) (ci := 8) (C := RX5) (T := TX5) (Nf := 8) (ty := tyX5) cl8 dX8_layChain_34 (ly_G (by decide)) 2 (by decide) t_243 rfl ?_
    refine z_iload_n (M := M_X8_layChain) dX8_layChain_37 rfl ?_
    obtain ⟨x_9, x_9_e, hi_10, H⟩ := rd_e H
    refine z_iald (M := M_X8_layChain) dX8_layChain_38 ly_197 rfl rfl rfl hi_10 x_9_e ?_
    rcases if_e H with ⟨h_11, H⟩ | ⟨h_11, H⟩
    · refine z_icmp_ne_f (M := M_X8_layChain) (tgt := 67) dX8_layChain_39 (by decide) rfl rfl h_11 ?_
      refine z_aload_n (M := M_X8_layChain) dX8_layChain_42 rfl ?_
      refine z_getR (M := M_X8_layChain) (ci := 11) (C := RX8) (T := TX8) (Nf := 13) (ty := tyX8) cl11 dX8_layChain_43 ly_193 0 (by decide) t_327 rfl ?_
      refine z_getR (M := M_X8_layChain) (ci := 8) (C := RX5) (T := TX5) (Nf := 8) (ty := tyX5) cl8 dX8_layChain_46 (ly_G (by decide)) 1 (by decide) t_239 rfl ?_
      refine z_iload_n (M := M_X8_layChain) dX8_layChain_49 rfl ?_
      obtain ⟨x_12, x_12_e, hi_13, H⟩ := rd_e H
      refine z_iald (M := M_X8_layChain) dX8_layChain_50 ly_196 rfl rfl rfl hi_13 x_12_e ?_
      refine z_aload_n (M := M_X8_layChain) dX8_layChain_51 rfl ?_
      refine z_getR (M := M_X8_layChain) (ci := 11) (C := RX8) (T := TX8) (Nf := 13) (ty := tyX8) cl11 dX8_layChain_52 ly_193 0 (by decide) t_327 rfl ?_
      refine z_getR (M := M_X8_layChain) (ci := 8) (C := RX5) (T := TX5) (Nf := 8) (ty := tyX5) cl8 dX8_layChain_55 (ly_G (by decide)) 3 (by decide) t_247 rfl ?_
      refine z_iload_n (M := M_X8_layChain) dX8_layChain_58 rfl ?_
      obtain ⟨x_14, x_14_e, hi_15, H⟩ := rd_e H
      refine z_iald (M := M_X8_layChain) dX8_layChain_59 ly_198 rfl rfl rfl hi_15 x_14_e ?_
      rcases if_e H with ⟨h_16, H⟩ | ⟨h_16, H⟩
      · refine z_icmp_le_f (M := M_X8_layChain) (tgt := 67) dX8_layChain_60 (by decide) rfl rfl h_16 ?_
        refine z_zconst (M := M_X8_layChain) (b := true) dX8_layChain_63 rfl ?_
        refine z_goto (M := M_X8_layChain) (tgt := 68) dX8_layChain_64 (by decide) ?_
        exact J_198 _ (Option.some.inj H).symm
      · refine z_icmp_le_t (M := M_X8_layChain) (tgt := 67) dX8_layChain_60 (by decide) rfl rfl (Int.not_lt.mp h_16) ?_
        refine z_zconst (M := M_X8_layChain) (b := false) dX8_layChain_67 rfl ?_
        exact J_198 _ (Option.some.inj H).symm
    · refine z_icmp_ne_t (M := M_X8_layChain) (tgt := 67) dX8_layChain_39 (by decide) rfl rfl h_11 ?_
      refine z_zconst (M := M_X8_layChain) (b := false) dX8_layChain_67 rfl ?_
      exact J_198 _ (Option.some.inj H).symm
theorem c_X8_leavePieces (hl : l.stackTraces = false) {σ : SG} {told_0 : Int} {σ' : SG}  (H : fN_leavePieces σ told_0 = some σ') : en_S l E M_X8_leavePieces 1 0 0 [vr 193, vi told_0] σ (pS (none) σ') := by
  unfold fN_leavePieces at H
  refine z_mk (lv := [some (vr 193), some (vi told_0), none, none, none, none]) m_X8_leavePieces rfl hl (Nat.le_of_ble_eq_true rfl) rfl ?_
  refine z_aload_n (M := M_X8_leavePieces) dX8_leavePieces_0 rfl ?_
  refine z_iconst (M := M_X8_leavePieces) dX8_leavePieces_1 ?_
  obtain ⟨σ_1, σ_1_e, H⟩ := wf_e H
  refine z_putI (M := M_X8_leavePieces) (ci := 11) (C := RX8) (T := TX8) (Nf := 13) (ty := tyX8) cl11 dX8_leavePieces_2 ly_193 12 (by decide) t_346 rfl rfl rfl rfl σ_1_e ?_
  refine z_iconst (M := M_X8_leavePieces) dX8_leavePieces_5 ?_
  refine z_istore_n (M := M_X8_leavePieces) (lv' := [some (vr 193), some (vi told_0), some (vi 0), none, none, none]) dX8_leavePieces_6 (Nat.le_of_ble_eq_true rfl) rfl rfl ?_
  refine z_iconst (M := M_X8_leavePieces) dX8_leavePieces_7 ?_
  refine z_istore_n (M := M_X8_leavePieces) (lv' := [some (vr 193), some (vi told_0), some (vi 0), some (vi 0), none, none]) dX8_leavePieces_8 (Nat.le_of_ble_eq_true rfl) rfl rfl ?_
  obtain ⟨rl_8, hw_5, hk_6⟩ := bd_e H
  have J_76 : ∀ mask_73 i_74 σ_75, rl_8 = (mask_73, i_74, σ_75) → YY l E M_X8_leavePieces 1 0 0 (pS (none) σ') 127 [some (vr 193), some (vi told_0), some (vi mask_73), some (vi i_74), none, none] [] σ_75 0 0 := by
    intro mask_73 i_74 σ_75 e
    have H := hk_6
    rw [e] at H
    cases H
    exact z_vret (M := M_X8_leavePieces) dX8_leavePieces_127 rfl (Nat.le_of_ble_eq_true rfl) (Nat.le_of_ble_eq_true rfl) ⟨rfl, rfl⟩
  refine whl_go hw_5 (fun (mask_2, i_3, σ_4) => YY l E M_X8_leavePieces 1 0 0 (pS (none) σ') 9 [some (vr 193), some (vi told_0), some (vi mask_2), some (vi i_3), none, none] [] σ_4 0 0) ?_
  rintro ⟨mask_2, i_3, σ_4⟩ o_9 H K_10 K_11
  refine z_iload_n (M := M_X8_leavePieces) dX8_leavePieces_9 rfl ?_
  refine z_iload_n (M := M_X8_leavePieces) dX8_leavePieces_10 rfl ?_
  rcases if_e H with ⟨h_12, H⟩ | ⟨h_12, H⟩
  · refine z_icmp_ge_f (M := M_X8_leavePieces) (tgt := 127) dX8_leavePieces_11 (by decide) rfl rfl h_12 ?_
    refine z_aload_n (M := M_X8_leavePieces) dX8_leavePieces_14 rfl ?_
    refine z_getR (M := M_X8_leavePieces) (ci := 11) (C := RX8) (T := TX8) (Nf := 13) (ty := tyX8) cl11 dX8_leavePieces_15 ly_193 4 (by decide) t_331 rfl ?_
    refine z_iload_n (M := M_X8_leavePieces) dX8_leavePieces_18 rfl ?_
    obtain ⟨x_13, x_13_e, hi_14, H⟩ := rd_e H
    refine z_lald (M := M_X8_leavePieces) dX8_leavePieces_19 ly_201 rfl rfl rfl hi_14 x_13_e ?_
    refine z_iconst (M := M_X8_leavePieces) dX8_leavePieces_20 ?_
    refine z_lshr (M := M_X8_leavePieces) dX8_leavePieces_21 ?_
    refine z_lstore (M := M_X8_leavePieces) (lv' := [some (vr 193), some (vi told_0), some (vi mask_2), some (vi i_3), some (vl (q_lsr x_13 2)), none]) dX8_leavePieces_22 (Nat.le_of_ble_eq_true rfl) rfl rfl ?_
    refine z_iload_n (M := M_X8_leavePieces) dX8_leavePieces_24 rfl ?_
    refine z_aload_n (M := M_X8_leavePieces) dX8_leavePieces_25 rfl ?_
    refine z_getR (M := M_X8_leavePieces) (ci := 11) (C := RX8) (T := TX8) (Nf := 13) (ty := tyX8) cl11 dX8_leavePieces_26 ly_193 4 (by decide) t_331 rfl ?_
    refine z_iload_n (M := M_X8_leavePieces) dX8_leavePieces_29 rfl ?_
    obtain ⟨x_15, x_15_e, hi_16, H⟩ := rd_e H
    refine z_lald (M := M_X8_leavePieces) dX8_leavePieces_30 ly_201 rfl rfl rfl hi_16 x_15_e ?_
    refine z_ldc2 (M := M_X8_leavePieces) (n := 3) dX8_leavePieces_31 t_1486 (by decide +kernel) ?_
    refine z_land (M := M_X8_leavePieces) dX8_leavePieces_34 ?_
    refine z_l2i (M := M_X8_leavePieces) dX8_leavePieces_35 ?_
    refine z_ixor (M := M_X8_leavePieces) dX8_leavePieces_36 ?_
    refine z_istore_n (M := M_X8_leavePieces) (lv' := [some (vr 193), some (vi told_0), some (vi (q_ixo mask_2 (q_lan x_15 3))), some (vi i_3), some (vl (q_lsr x_13 2)), none]) dX8_leavePieces_37 (Nat.le_of_ble_eq_true rfl) rfl rfl ?_
    obtain ⟨v_67, he_68, hk_69⟩ := bd_e H
    have J_70 : v_67 = true → YY l E M_X8_leavePieces 1 0 0 (pS (none) σ') 61 [some (vr 193), some (vi told_0), some (vi (q_ixo mask_2 (q_lan x_15 3))), some (vi i_3), some (vl (q_lsr x_13 2)), none] [] σ_4 0 0 := by
      intro e
      have H := hk_69
      rw [e] at H
      rcases if_e H with ⟨_, H⟩ | ⟨q, H⟩
      · refine z_goto (M := M_X8_leavePieces) (tgt := 121) dX8_leavePieces_61 (by decide) ?_
        refine z_iinc (M := M_X8_leavePieces) (lv' := [some (vr 193), some (vi told_0), some (vi (q_ixo mask_2 (q_lan x_15 3))), some (vi (i_3 + 1)), some (vl (q_lsr x_13 2)), none]) dX8_leavePieces_121 rfl (Nat.le_of_ble_eq_true rfl) rfl rfl ?_
        refine z_goto (M := M_X8_leavePieces) (tgt := 9) dX8_leavePieces_124 (by decide) ?_
        refine z_le (lv' := [some (vr 193), some (vi told_0), some (vi (q_ixo mask_2 (q_lan x_15 3))), some (vi (i_3 + 1)), none, none]) ⟨Or.inr rfl, Or.inr rfl, Or.inr rfl, Or.inr rfl, Or.inl rfl, Or.inl rfl, trivial⟩ ?_
        exact K_10 _ (Option.some.inj H).symm
      · exact absurd rfl q
    have J_71 : v_67 = false → YY l E M_X8_leavePieces 1 0 0 (pS (none) σ') 64 [some (vr 193), some (vi told_0), some (vi (q_ixo mask_2 (q_lan x_15 3))), some (vi i_3), some (vl (q_lsr x_13 2)), none] [] σ_4 0 0 := by
      intro e
      have H := hk_69
      rw [e] at H
      rcases if_e H with ⟨q, H⟩ | ⟨_, H⟩
      · exact nomatch q
      · obtain ⟨v_53, he_50, hk_51⟩ := bd_e H
        have J_66 : ∀ σ_64, v_53 = σ_64 → YY l E M_X8_leavePieces 1 0 0 (pS (none) σ') 119 [some (vr 193), some (vi told_0), some (vi (q_ixo mask_2 (q_lan x_15 3))), some (vi i_3), some (vl (q_lsr x_13 2)), none] [] σ_64 0 0 := by
          intro σ_64 e
          have H := hk_51
          rw [e] at H
          refine z_iconst (M := M_X8_leavePieces) dX8_leavePieces_119 ?_
          refine z_istore_n (M := M_X8_leavePieces) (lv' := [some (vr 193), some (vi told_0), some (vi 0), some (vi i_3), some (vl (q_lsr x_13 2)), none]) dX8_leavePieces_120 (Nat.le_of_ble_eq_true rfl) rfl rfl ?_
          refine z_iinc (M := M_X8_leavePieces) (lv' := [some (vr 193), some (vi told_0), some (vi 0), some (vi (i_3 + 1)), some (vl (q_lsr x_13 2)), none]) dX8_leavePieces_121 rfl (Nat.le_of_ble_eq_true rfl) rfl rfl ?_
          refine z_goto (M := M_X8_leavePieces) (tgt := 9) dX8_leavePieces_124 (by decide) ?_
          refine z_le (lv' := [some (vr 193), some (vi told_0), some (vi 0), some (vi (i_3 + 1)), none, none]) ⟨Or.inr rfl, Or.inr rfl, Or.inr rfl, Or.inr rfl, Or.inl rfl, Or.inl rfl, trivial⟩ ?_
          exact K_10 _ (Option.some.inj H).symm
        have H := he_50
        refine z_iload_n (M := M_X8_leavePieces) dX8_leavePieces_64 rfl ?_
        rcases if_e H with ⟨h_54, H⟩ | ⟨h_54, H⟩
        · refine z_if_eq_f (M := M_X8_leavePieces) (tgt := 119) dX8_leavePieces_65 (by decide) rfl h_54 ?_
          refine z_aload_n (M := M_X8_leavePieces) dX8_leavePieces_68 rfl ?_
          refine z_getR (M := M_X8_leavePieces) (ci := 11) (C := RX8) (T := TX8) (Nf := 13) (ty := tyX8) cl11 dX8_leavePieces_69 ly_193 9 (by decide) t_339 rfl ?_
          refine z_aload_n (M := M_X8_leavePieces) dX8_leavePieces_72 rfl ?_
          refine z_getI (M := M_X8_leavePieces) (ci := 11) (C := RX8) (T := TX8) (Nf := 13) (ty := tyX8) cl11 dX8_leavePieces_73 ly_193 12 (by decide) t_346 rfl rfl ?_
          refine z_lload (M := M_X8_leavePieces) dX8_leavePieces_76 rfl ?_
          refine z_bipush (M := M_X8_leavePieces) dX8_leavePieces_78 (by decide +kernel) ?_
          refine z_lshr (M := M_X8_leavePieces) dX8_leavePieces_80 ?_
          refine z_l2i (M := M_X8_leavePieces) dX8_leavePieces_81 ?_
          obtain ⟨σ_55, σ_55_e, hi_56, H⟩ := wa_e H
          refine z_iast (M := M_X8_leavePieces) dX8_leavePieces_82 ly_205 rfl rfl rfl hi_56 σ_55_e ?_
          refine z_aload_n (M := M_X8_leavePieces) dX8_leavePieces_83 rfl ?_
          refine z_getR (M := M_X8_leavePieces) (ci := 11) (C := RX8) (T := TX8) (Nf := 13) (ty := tyX8) cl11 dX8_leavePieces_84 ly_193 10 (by decide) t_341 rfl ?_
          refine z_aload_n (M := M_X8_leavePieces) dX8_leavePieces_87 rfl ?_
          refine z_getI (M := M_X8_leavePieces) (ci := 11) (C := RX8) (T := TX8) (Nf := 13) (ty := tyX8) cl11 dX8_leavePieces_88 ly_193 12 (by decide) t_346 rfl rfl ?_
          refine z_lload (M := M_X8_leavePieces) dX8_leavePieces_91 rfl ?_
          refine z_ldc2 (M := M_X8_leavePieces) (n := 8191) dX8_leavePieces_93 t_1487 (by decide +kernel) ?_
          refine z_land (M := M_X8_leavePieces) dX8_leavePieces_96 ?_
          refine z_l2i (M := M_X8_leavePieces) dX8_leavePieces_97 ?_
          obtain ⟨σ_57, σ_57_e, hi_58, H⟩ := wa_e H
          refine z_iast (M := M_X8_leavePieces) dX8_leavePieces_98 ly_206 rfl rfl rfl hi_58 σ_57_e ?_
          refine z_aload_n (M := M_X8_leavePieces) dX8_leavePieces_99 rfl ?_
          refine z_getR (M := M_X8_leavePieces) (ci := 11) (C := RX8) (T := TX8) (Nf := 13) (ty := tyX8) cl11 dX8_leavePieces_100 ly_193 11 (by decide) t_343 rfl ?_
          refine z_aload_n (M := M_X8_leavePieces) dX8_leavePieces_103 rfl ?_
          refine z_getI (M := M_X8_leavePieces) (ci := 11) (C := RX8) (T := TX8) (Nf := 13) (ty := tyX8) cl11 dX8_leavePieces_104 ly_193 12 (by decide) t_346 rfl rfl ?_
          refine z_iload_n (M := M_X8_leavePieces) dX8_leavePieces_107 rfl ?_
          obtain ⟨σ_59, σ_59_e, hi_60, H⟩ := wa_e H
          refine z_iast (M := M_X8_leavePieces) dX8_leavePieces_108 ly_207 rfl rfl rfl hi_60 σ_59_e ?_
          refine z_aload_n (M := M_X8_leavePieces) dX8_leavePieces_109 rfl ?_
          refine z_dup (M := M_X8_leavePieces) dX8_leavePieces_110 rfl ?_
          refine z_getI (M := M_X8_leavePieces) (ci := 11) (C := RX8) (T := TX8) (Nf := 13) (ty := tyX8) cl11 dX8_leavePieces_111 ly_193 12 (by decide) t_346 rfl rfl ?_
          refine z_iconst (M := M_X8_leavePieces) dX8_leavePieces_114 ?_
          refine z_iadd (M := M_X8_leavePieces) dX8_leavePieces_115 ?_
          obtain ⟨σ_61, σ_61_e, H⟩ := wf_e H
          refine z_putI (M := M_X8_leavePieces) (ci := 11) (C := RX8) (T := TX8) (Nf := 13) (ty := tyX8) cl11 dX8_leavePieces_116 ly_193 12 (by decide) t_346 rfl rfl rfl rfl σ_61_e ?_
          exact J_66 _ (Option.some.inj H).symm
        · refine z_if_eq_t (M := M_X8_leavePieces) (tgt := 119) dX8_leavePieces_65 (by decide) rfl (Decidable.not_not.mp h_54) ?_
          exact J_66 _ (Option.some.inj H).symm
    have H := he_68
    refine z_iload_n (M := M_X8_leavePieces) dX8_leavePieces_38 rfl ?_
    refine z_iconst (M := M_X8_leavePieces) dX8_leavePieces_39 ?_
    refine z_iadd (M := M_X8_leavePieces) dX8_leavePieces_40 ?_
    refine z_iload_n (M := M_X8_leavePieces) dX8_leavePieces_41 rfl ?_
    rcases if_e H with ⟨h_41, H⟩ | ⟨h_41, H⟩
    · refine z_icmp_ge_f (M := M_X8_leavePieces) (tgt := 64) dX8_leavePieces_42 (by decide) rfl rfl h_41 ?_
      refine z_aload_n (M := M_X8_leavePieces) dX8_leavePieces_45 rfl ?_
      refine z_getR (M := M_X8_leavePieces) (ci := 11) (C := RX8) (T := TX8) (Nf := 13) (ty := tyX8) cl11 dX8_leavePieces_46 ly_193 4 (by decide) t_331 rfl ?_
      refine z_iload_n (M := M_X8_leavePieces) dX8_leavePieces_49 rfl ?_
      refine z_iconst (M := M_X8_leavePieces) dX8_leavePieces_50 ?_
      refine z_iadd (M := M_X8_leavePieces) dX8_leavePieces_51 ?_
      obtain ⟨x_42, x_42_e, hi_43, H⟩ := rd_e H
      refine z_lald (M := M_X8_leavePieces) dX8_leavePieces_52 ly_201 rfl rfl rfl hi_43 x_42_e ?_
      refine z_iconst (M := M_X8_leavePieces) dX8_leavePieces_53 ?_
      refine z_lshr (M := M_X8_leavePieces) dX8_leavePieces_54 ?_
      refine z_lload (M := M_X8_leavePieces) dX8_leavePieces_55 rfl ?_
      refine z_lcmp (M := M_X8_leavePieces) dX8_leavePieces_57 ?_
      rcases if_e H with ⟨h_44, H⟩ | ⟨h_44, H⟩
      · refine z_lif_ne_f (M := M_X8_leavePieces) (tgt := 64) dX8_leavePieces_58 (by decide) rfl rfl h_44 ?_
        exact J_70 (Option.some.inj H).symm
      · refine z_lif_ne_t (M := M_X8_leavePieces) (tgt := 64) dX8_leavePieces_58 (by decide) rfl rfl h_44 ?_
        exact J_71 (Option.some.inj H).symm
    · refine z_icmp_ge_t (M := M_X8_leavePieces) (tgt := 64) dX8_leavePieces_42 (by decide) rfl rfl (Int.not_lt.mp h_41) ?_
      exact J_71 (Option.some.inj H).symm
  · refine z_icmp_ge_t (M := M_X8_leavePieces) (tgt := 127) dX8_leavePieces_11 (by decide) rfl rfl (Int.not_lt.mp h_12) ?_
    exact J_76 _ _ _ (K_11 _ (Option.some.inj H).symm).symm
theorem c_X8_layChains (hl : l.stackTraces = false) {σ : SG} {r : Bool} {σ' : SG}  (H : fN_layChains σ = some (r, σ')) : en_S l E M_X8_layChains 3 0 0 [vr 193] σ (pS (some (zv r)) σ') := by
  unfold fN_layChains at H
  refine z_mk (lv := [some (vr 193), none, none, none, none, none, none, none, none, none]) m_X8_layChains rfl hl (Nat.le_of_ble_eq_true rfl) rfl ?_
  refine z_aload_n (M := M_X8_layChains) dX8_layChains_0 rfl ?_
  refine z_getI (M := M_X8_layChains) (ci := 11) (C := RX8) (T := TX8) (Nf := 13) (ty := tyX8) cl11 dX8_layChains_1 ly_193 1 (by decide) t_328 rfl rfl ?_
  refine z_istore_n (M := M_X8_layChains) (lv' := [some (vr 193), some (vi (σ kN_lengthless 0)), none, none, none, none, none, none, none, none]) dX8_layChains_4 (Nat.le_of_ble_eq_true rfl) rfl rfl ?_
  refine z_iconst (M := M_X8_layChains) dX8_layChains_5 ?_
  refine z_istore_n (M := M_X8_layChains) (lv' := [some (vr 193), some (vi (σ kN_lengthless 0)), some (vi 0), none, none, none, none, none, none, none]) dX8_layChains_6 (Nat.le_of_ble_eq_true rfl) rfl rfl ?_
  refine z_iconst (M := M_X8_layChains) dX8_layChains_7 ?_
  refine z_istore_n (M := M_X8_layChains) (lv' := [some (vr 193), some (vi (σ kN_lengthless 0)), some (vi 0), some (vi 0), none, none, none, none, none, none]) dX8_layChains_8 (Nat.le_of_ble_eq_true rfl) rfl rfl ?_
  obtain ⟨rl_8, hw_5, hk_6, hk_7⟩ := bx_e H
  have J_56 : ∀ places_48 told_49 i_50 σ_51, rl_8 = (.inl (places_48, told_49, i_50, σ_51)) → YY l E M_X8_layChains 3 0 0 (pS (some (zv r)) σ') 139 [some (vr 193), some (vi places_48), some (vi told_49), some (vi i_50), none, none, none, none, none, none] [] σ_51 0 0 := by
    intro places_48 told_49 i_50 σ_51 e
    have H := hk_6 _ e
    refine z_aload_n (M := M_X8_layChains) dX8_layChains_139 rfl ?_
    refine z_getR (M := M_X8_layChains) (ci := 11) (C := RX8) (T := TX8) (Nf := 13) (ty := tyX8) cl11 dX8_layChains_140 ly_193 4 (by decide) t_331 rfl ?_
    refine z_iload_n (M := M_X8_layChains) dX8_layChains_143 rfl ?_
    obtain ⟨σ_53, hc_52, H⟩ := bd_e H
    refine z_callSN (M := M_X8_layChains) (M' := M_X11_sortRow) (as := [vr 201, vi told_49]) (rest := []) rfl rfl dX8_layChains_144 m_X11_sortRow n_1416 t_1417 (c_X11_sortRow hl ly_201 hc_52) rfl rfl (Nat.le_of_ble_eq_true rfl) (Nat.le_of_ble_eq_true rfl) (Nat.le_of_ble_eq_true rfl) (Nat.le_of_ble_eq_true rfl) ?_
    refine z_st (st' := []) rfl ?_
    refine z_aload_n (M := M_X8_layChains) dX8_layChains_147 rfl ?_
    refine z_iload_n (M := M_X8_layChains) dX8_layChains_148 rfl ?_
    obtain ⟨σ_55, hc_54, H⟩ := bd_e H
    refine z_callV (M := M_X8_layChains) (M' := M_X8_leavePieces) (as := [vi told_49]) (rest := []) rfl rfl dX8_layChains_149 m_X8_leavePieces t_1482 t_1484 s_79 (c_X8_leavePieces hl  hc_54) rfl rfl ly_193 rfl (Nat.le_of_ble_eq_true rfl) (Nat.le_of_ble_eq_true rfl) (Nat.le_of_ble_eq_true rfl) (Nat.le_of_ble_eq_true rfl) ?_
    refine z_st (st' := []) rfl ?_
    refine z_zconst (M := M_X8_layChains) (b := true) dX8_layChains_152 rfl ?_
    cases H
    exact z_zret (M := M_X8_layChains) dX8_layChains_153 rfl (Nat.le_of_ble_eq_true rfl) (Nat.le_of_ble_eq_true rfl) ⟨rfl, rfl⟩
  refine whl_go hw_5 (fun (places_1, told_2, i_3, σ_4) => YY l E M_X8_layChains 3 0 0 (pS (some (zv r)) σ') 9 [some (vr 193), some (vi places_1), some (vi told_2), some (vi i_3), none, none, none, none, none, none] [] σ_4 0 0) ?_
  rintro ⟨places_1, told_2, i_3, σ_4⟩ o_9 H K_10 K_11
  refine z_iload_n (M := M_X8_layChains) dX8_layChains_9 rfl ?_
  refine z_aload_n (M := M_X8_layChains) dX8_layChains_10 rfl ?_
  refine z_getR (M := M_X8_layChains) (ci := 11) (C := RX8) (T := TX8) (Nf := 13) (ty := tyX8) cl11 dX8_layChains_11 ly_193 0 (by decide) t_327 rfl ?_
  refine z_getI (M := M_X8_layChains) (ci := 8) (C := RX5) (T := TX5) (Nf := 8) (ty := tyX5) cl8 dX8_layChains_14 (ly_G (by decide)) 5 (by decide) t_255 rfl rfl ?_
  rcases if_e H with ⟨h_12, H⟩ | ⟨h_12, H⟩
  · refine z_icmp_ge_f (M := M_X8_layChains) (tgt := 139) dX8_layChains_17 (by decide) rfl rfl h_12 ?_
    refine z_aload_n (M := M_X8_layChains) dX8_layChains_20 rfl ?_
    refine z_iload_n (M := M_X8_layChains) dX8_layChains_21 rfl ?_
    obtain ⟨⟨x_15, σ_14⟩, hc_13, H⟩ := bd_e H
    refine z_callV (M := M_X8_layChains) (M' := M_X8_layChain) (as := [vi i_3]) (rest := []) rfl rfl dX8_layChains_22 m_X8_layChain t_1463 t_1465 s_76 (c_X8_layChain hl  hc_13) rfl rfl ly_193 rfl (Nat.le_of_ble_eq_true rfl) (Nat.le_of_ble_eq_true rfl) (Nat.le_of_ble_eq_true rfl) (Nat.le_of_ble_eq_true rfl) ?_
    refine z_st (st' := [vi x_15]) rfl ?_
    refine z_istore (M := M_X8_layChains) (lv' := [some (vr 193), some (vi places_1), some (vi told_2), some (vi i_3), some (vi x_15), none, none, none, none, none]) dX8_layChains_25 (Nat.le_of_ble_eq_true rfl) rfl rfl ?_
    refine z_iload_n (M := M_X8_layChains) dX8_layChains_27 rfl ?_
    refine z_iload (M := M_X8_layChains) dX8_layChains_28 rfl ?_
    refine z_iadd (M := M_X8_layChains) dX8_layChains_30 ?_
    refine z_istore_n (M := M_X8_layChains) (lv' := [some (vr 193), some (vi (places_1 + x_15)), some (vi told_2), some (vi i_3), some (vi x_15), none, none, none, none, none]) dX8_layChains_31 (Nat.le_of_ble_eq_true rfl) rfl rfl ?_
    refine z_iload_n (M := M_X8_layChains) dX8_layChains_32 rfl ?_
    refine z_sipush (M := M_X8_layChains) dX8_layChains_33 (by decide +kernel) ?_
    rcases if_e H with ⟨h_16, H⟩ | ⟨h_16, H⟩
    · refine z_icmp_le_f (M := M_X8_layChains) (tgt := 41) dX8_layChains_36 (by decide) rfl (by decide +kernel) h_16 ?_
      refine z_zconst (M := M_X8_layChains) (b := false) dX8_layChains_39 rfl ?_
      have H := congrArg some (hk_7 _ ((K_11 _ (Option.some.inj H).symm).symm))
      cases H
      exact z_zret (M := M_X8_layChains) dX8_layChains_40 rfl (Nat.le_of_ble_eq_true rfl) (Nat.le_of_ble_eq_true rfl) ⟨rfl, rfl⟩
    · refine z_icmp_le_t (M := M_X8_layChains) (tgt := 41) dX8_layChains_36 (by decide) rfl (by decide +kernel) (Int.not_lt.mp h_16) ?_
      refine z_iconst (M := M_X8_layChains) dX8_layChains_41 ?_
      refine z_istore (M := M_X8_layChains) (lv' := [some (vr 193), some (vi (places_1 + x_15)), some (vi told_2), some (vi i_3), some (vi x_15), some (vi 0), none, none, none, none]) dX8_layChains_42 (Nat.le_of_ble_eq_true rfl) rfl rfl ?_
      obtain ⟨rl_23, hw_20, hk_21⟩ := bd_e H
      have J_46 : ∀ told_42 k_43 σ_44, rl_23 = (told_42, k_43, σ_44) → YY l E M_X8_layChains 3 0 0 (pS (some (zv r)) σ') 133 [some (vr 193), some (vi (places_1 + x_15)), some (vi told_42), some (vi i_3), some (vi x_15), some (vi k_43), none, none, none, none] [] σ_44 0 0 := by
        intro told_42 k_43 σ_44 e
        have H := hk_21
        rw [e] at H
        refine z_iinc (M := M_X8_layChains) (lv' := [some (vr 193), some (vi (places_1 + x_15)), some (vi told_42), some (vi (i_3 + 1)), some (vi x_15), some (vi k_43), none, none, none, none]) dX8_layChains_133 rfl (Nat.le_of_ble_eq_true rfl) rfl rfl ?_
        refine z_goto (M := M_X8_layChains) (tgt := 9) dX8_layChains_136 (by decide) ?_
        refine z_le (lv' := [some (vr 193), some (vi (places_1 + x_15)), some (vi told_42), some (vi (i_3 + 1)), none, none, none, none, none, none]) ⟨Or.inr rfl, Or.inr rfl, Or.inr rfl, Or.inr rfl, Or.inl rfl, Or.inl rfl, Or.inl rfl, Or.inl rfl, Or.inl rfl, Or.inl rfl, trivial⟩ ?_
        exact K_10 _ (Option.some.inj H).symm
      refine whl_go hw_20 (fun (told_17, k_18, σ_19) => YY l E M_X8_layChains 3 0 0 (pS (some (zv r)) σ') 44 [some (vr 193), some (vi (places_1 + x_15)), some (vi told_17), some (vi i_3), some (vi x_15), some (vi k_18), none, none, none, none] [] σ_19 0 0) ?_
      rintro ⟨told_17, k_18, σ_19⟩ o_24 H K_25 K_26
      refine z_iload (M := M_X8_layChains) dX8_layChains_44 rfl ?_
      refine z_iconst (M := M_X8_layChains) dX8_layChains_46 ?_
      refine z_iadd (M := M_X8_layChains) dX8_layChains_47 ?_
      refine z_iload (M := M_X8_layChains) dX8_layChains_48 rfl ?_
      rcases if_e H with ⟨h_27, H⟩ | ⟨h_27, H⟩
      · refine z_icmp_ge_f (M := M_X8_layChains) (tgt := 133) dX8_layChains_50 (by decide) rfl rfl h_27 ?_
        refine z_aload_n (M := M_X8_layChains) dX8_layChains_53 rfl ?_
        refine z_getR (M := M_X8_layChains) (ci := 11) (C := RX8) (T := TX8) (Nf := 13) (ty := tyX8) cl11 dX8_layChains_54 ly_193 5 (by decide) t_332 rfl ?_
        refine z_iload (M := M_X8_layChains) dX8_layChains_57 rfl ?_
        obtain ⟨x_28, x_28_e, hi_29, H⟩ := rd_e H
        refine z_iald (M := M_X8_layChains) dX8_layChains_59 ly_202 rfl rfl rfl hi_29 x_28_e ?_
        refine z_aload_n (M := M_X8_layChains) dX8_layChains_60 rfl ?_
        refine z_getR (M := M_X8_layChains) (ci := 11) (C := RX8) (T := TX8) (Nf := 13) (ty := tyX8) cl11 dX8_layChains_61 ly_193 5 (by decide) t_332 rfl ?_
        refine z_iload (M := M_X8_layChains) dX8_layChains_64 rfl ?_
        refine z_iconst (M := M_X8_layChains) dX8_layChains_66 ?_
        refine z_iadd (M := M_X8_layChains) dX8_layChains_67 ?_
        obtain ⟨x_30, x_30_e, hi_31, H⟩ := rd_e H
        refine z_iald (M := M_X8_layChains) dX8_layChains_68 ly_202 rfl rfl rfl hi_31 x_30_e ?_
        refine z_mmin (M := M_X8_layChains) dX8_layChains_69 t_1480 t_626 t_20 t_627 (Nat.le_of_ble_eq_true rfl) (Nat.le_of_ble_eq_true rfl) (Nat.le_of_ble_eq_true rfl) (Nat.le_of_ble_eq_true rfl) ?_
        refine z_i2l (M := M_X8_layChains) dX8_layChains_72 ?_
        refine z_lstore (M := M_X8_layChains) (lv' := [some (vr 193), some (vi (places_1 + x_15)), some (vi told_17), some (vi i_3), some (vi x_15), some (vi k_18), some (vl (w32 (q_mni x_28 x_30))), none, none, none]) dX8_layChains_73 (Nat.le_of_ble_eq_true rfl) rfl rfl ?_
        refine z_aload_n (M := M_X8_layChains) dX8_layChains_75 rfl ?_
        refine z_getR (M := M_X8_layChains) (ci := 11) (C := RX8) (T := TX8) (Nf := 13) (ty := tyX8) cl11 dX8_layChains_76 ly_193 5 (by decide) t_332 rfl ?_
        refine z_iload (M := M_X8_layChains) dX8_layChains_79 rfl ?_
        obtain ⟨x_32, x_32_e, hi_33, H⟩ := rd_e H
        refine z_iald (M := M_X8_layChains) dX8_layChains_81 ly_202 rfl rfl rfl hi_33 x_32_e ?_
        refine z_aload_n (M := M_X8_layChains) dX8_layChains_82 rfl ?_
        refine z_getR (M := M_X8_layChains) (ci := 11) (C := RX8) (T := TX8) (Nf := 13) (ty := tyX8) cl11 dX8_layChains_83 ly_193 5 (by decide) t_332 rfl ?_
        refine z_iload (M := M_X8_layChains) dX8_layChains_86 rfl ?_
        refine z_iconst (M := M_X8_layChains) dX8_layChains_88 ?_
        refine z_iadd (M := M_X8_layChains) dX8_layChains_89 ?_
        obtain ⟨x_34, x_34_e, hi_35, H⟩ := rd_e H
        refine z_iald (M := M_X8_layChains) dX8_layChains_90 ly_202 rfl rfl rfl hi_35 x_34_e ?_
        refine z_mmax (M := M_X8_layChains) dX8_layChains_91 t_1481 t_1013 t_20 t_1014 (Nat.le_of_ble_eq_true rfl) (Nat.le_of_ble_eq_true rfl) (Nat.le_of_ble_eq_true rfl) (Nat.le_of_ble_eq_true rfl) ?_
        refine z_i2l (M := M_X8_layChains) dX8_layChains_94 ?_
        refine z_lstore (M := M_X8_layChains) (lv' := [some (vr 193), some (vi (places_1 + x_15)), some (vi told_17), some (vi i_3), some (vi x_15), some (vi k_18), some (vl (w32 (q_mni x_28 x_30))), none, some (vl (w32 (q_mxi x_32 x_34))), none]) dX8_layChains_95 (Nat.le_of_ble_eq_true rfl) rfl rfl ?_
        refine z_aload_n (M := M_X8_layChains) dX8_layChains_97 rfl ?_
        refine z_getR (M := M_X8_layChains) (ci := 11) (C := RX8) (T := TX8) (Nf := 13) (ty := tyX8) cl11 dX8_layChains_98 ly_193 4 (by decide) t_331 rfl ?_
        refine z_iload_n (M := M_X8_layChains) dX8_layChains_101 rfl ?_
        refine z_lload (M := M_X8_layChains) dX8_layChains_102 rfl ?_
        refine z_bipush (M := M_X8_layChains) dX8_layChains_104 (by decide +kernel) ?_
        refine z_lshl (M := M_X8_layChains) dX8_layChains_106 ?_
        refine z_lload (M := M_X8_layChains) dX8_layChains_107 rfl ?_
        refine z_lor (M := M_X8_layChains) dX8_layChains_109 ?_
        refine z_iconst (M := M_X8_layChains) dX8_layChains_110 ?_
        refine z_lshl (M := M_X8_layChains) dX8_layChains_111 ?_
        refine z_aload_n (M := M_X8_layChains) dX8_layChains_112 rfl ?_
        refine z_getR (M := M_X8_layChains) (ci := 11) (C := RX8) (T := TX8) (Nf := 13) (ty := tyX8) cl11 dX8_layChains_113 ly_193 0 (by decide) t_327 rfl ?_
        refine z_getR (M := M_X8_layChains) (ci := 8) (C := RX5) (T := TX5) (Nf := 8) (ty := tyX5) cl8 dX8_layChains_116 (ly_G (by decide)) 4 (by decide) t_252 rfl ?_
        refine z_iload_n (M := M_X8_layChains) dX8_layChains_119 rfl ?_
        obtain ⟨x_36, x_36_e, hi_37, H⟩ := rd_e H
        refine z_iald (M := M_X8_layChains) dX8_layChains_120 ly_199 rfl rfl rfl hi_37 x_36_e ?_
        refine z_i2l (M := M_X8_layChains) dX8_layChains_121 ?_
        refine z_lor (M := M_X8_layChains) dX8_layChains_122 ?_
        obtain ⟨σ_38, σ_38_e, hi_39, H⟩ := wa_e H
        refine z_last (M := M_X8_layChains) dX8_layChains_123 ly_201 rfl rfl rfl hi_39 σ_38_e ?_
        refine z_iinc (M := M_X8_layChains) (lv' := [some (vr 193), some (vi (places_1 + x_15)), some (vi (told_17 + 1)), some (vi i_3), some (vi x_15), some (vi k_18), some (vl (w32 (q_mni x_28 x_30))), none, some (vl (w32 (q_mxi x_32 x_34))), none]) dX8_layChains_124 rfl (Nat.le_of_ble_eq_true rfl) rfl rfl ?_
        refine z_iinc (M := M_X8_layChains) (lv' := [some (vr 193), some (vi (places_1 + x_15)), some (vi (told_17 + 1)), some (vi i_3), some (vi x_15), some (vi (k_18 + 1)), some (vl (w32 (q_mni x_28 x_30))), none, some (vl (w32 (q_mxi x_32 x_34))), none]) dX8_layChains_127 rfl (Nat.le_of_ble_eq_true rfl) rfl rfl ?_
        refine z_goto (M := M_X8_layChains) (tgt := 44) dX8_layChains_130 (by decide) ?_
        refine z_le (lv' := [some (vr 193), some (vi (places_1 + x_15)), some (vi (told_17 + 1)), some (vi i_3), some (vi x_15), some (vi (k_18 + 1)), none, none, none, none]) ⟨Or.inr rfl, Or.inr rfl, Or.inr rfl, Or.inr rfl, Or.inr rfl, Or.inr rfl, Or.inl rfl, Or.inl rfl, Or.inl rfl, Or.inl rfl, trivial⟩ ?_
        exact K_25 _ (Option.some.inj H).symm
      · refine z_icmp_ge_t (M := M_X8_layChains) (tgt := 133) dX8_layChains_50 (by decide) rfl rfl (Int.not_lt.mp h_27) ?_
        exact J_46 _ _ _ (K_26 _ (Option.some.inj H).symm).symm
  · refine z_icmp_ge_t (M := M_X8_layChains) (tgt := 139) dX8_layChains_17 (by decide) rfl rfl (Int.not_lt.mp h_12) ?_
    exact J_56 _ _ _ _ (K_11 _ (Option.some.inj H).symm).symm
theorem c_X11_keyX (hl : l.stackTraces = false) {σ : SG} {key_0 : Int} {r : Int}  (H : fQ_keyX key_0 = r) : en_S l E M_X11_keyX 1 0 0 [vl key_0] σ (pS (some (vi r)) σ) := by
  unfold fQ_keyX at H
  refine z_mk (lv := [some (vl key_0), none]) m_X11_keyX rfl hl (Nat.le_of_ble_eq_true rfl) rfl ?_
  refine z_lload_n (M := M_X11_keyX) dX11_keyX_0 rfl ?_
  refine z_bipush (M := M_X11_keyX) dX11_keyX_1 (by decide +kernel) ?_
  refine z_lshr (M := M_X11_keyX) dX11_keyX_3 ?_
  refine z_l2i (M := M_X11_keyX) dX11_keyX_4 ?_
  cases H
  exact z_iret (M := M_X11_keyX) dX11_keyX_5 rfl (Nat.le_of_ble_eq_true rfl) (Nat.le_of_ble_eq_true rfl) ⟨rfl, rfl⟩
theorem c_X11_keyY (hl : l.stackTraces = false) {σ : SG} {key_0 : Int} {r : Int}  (H : fQ_keyY key_0 = r) : en_S l E M_X11_keyY 1 0 0 [vl key_0] σ (pS (some (vi r)) σ) := by
  unfold fQ_keyY at H
  refine z_mk (lv := [some (vl key_0), none]) m_X11_keyY rfl hl (Nat.le_of_ble_eq_true rfl) rfl ?_
  refine z_lload_n (M := M_X11_keyY) dX11_keyY_0 rfl ?_
  refine z_l2i (M := M_X11_keyY) dX11_keyY_1 ?_
  refine z_ldcw (M := M_X11_keyY) (n := (-2147483648)) dX11_keyY_2 t_1428 (by decide +kernel) ?_
  refine z_ixor (M := M_X11_keyY) dX11_keyY_5 ?_
  cases H
  exact z_iret (M := M_X11_keyY) dX11_keyY_6 rfl (Nat.le_of_ble_eq_true rfl) (Nat.le_of_ble_eq_true rfl) ⟨rfl, rfl⟩
theorem c_X8_sortHot (hl : l.stackTraces = false) {σ : SG} {r : Bool} {σ' : SG}  (H : fN_sortHot σ = some (r, σ')) : en_S l E M_X8_sortHot 4 0 0 [vr 193] σ (pS (some (zv r)) σ') := by
  unfold fN_sortHot at H
  refine z_mk (lv := [some (vr 193), none]) m_X8_sortHot rfl hl (Nat.le_of_ble_eq_true rfl) rfl ?_
  refine z_aload_n (M := M_X8_sortHot) dX8_sortHot_0 rfl ?_
  obtain ⟨⟨x_3, σ_2⟩, hc_1, H⟩ := bd_e H
  refine z_callV (M := M_X8_sortHot) (M' := M_X8_sortOutKeys) (as := []) (rest := []) rfl rfl dX8_sortHot_1 m_X8_sortOutKeys t_1412 t_1414 s_71 (c_X8_sortOutKeys hl  hc_1) rfl rfl ly_193 rfl (Nat.le_of_ble_eq_true rfl) (Nat.le_of_ble_eq_true rfl) (Nat.le_of_ble_eq_true rfl) (Nat.le_of_ble_eq_true rfl) ?_
  refine z_st (st' := [zv x_3]) rfl ?_
  rcases if_e H with ⟨h_4, H⟩ | ⟨h_4, H⟩
  · refine z_zne_t (M := M_X8_sortHot) (tgt := 9) dX8_sortHot_4 (by decide) h_4 ?_
    refine z_aload_n (M := M_X8_sortHot) dX8_sortHot_9 rfl ?_
    refine z_aload_n (M := M_X8_sortHot) dX8_sortHot_10 rfl ?_
    refine z_getI (M := M_X8_sortHot) (ci := 11) (C := RX8) (T := TX8) (Nf := 13) (ty := tyX8) cl11 dX8_sortHot_11 ly_193 3 (by decide) t_330 rfl rfl ?_
    obtain ⟨σ_5, σ_5_e, H⟩ := wf_e H
    refine z_putI (M := M_X8_sortHot) (ci := 11) (C := RX8) (T := TX8) (Nf := 13) (ty := tyX8) cl11 dX8_sortHot_14 ly_193 8 (by decide) t_338 rfl rfl rfl rfl σ_5_e ?_
    refine z_iconst (M := M_X8_sortHot) dX8_sortHot_17 ?_
    refine z_istore_n (M := M_X8_sortHot) (lv' := [some (vr 193), some (vi 0)]) dX8_sortHot_18 (Nat.le_of_ble_eq_true rfl) rfl rfl ?_
    obtain ⟨rl_11, hw_8, hk_9⟩ := bd_e H
    have J_28 : ∀ i_26 σ_27, rl_11 = (i_26, σ_27) → YY l E M_X8_sortHot 4 0 0 (pS (some (zv r)) σ') 63 [some (vr 193), some (vi i_26)] [] σ_27 0 0 := by
      intro i_26 σ_27 e
      have H := hk_9
      rw [e] at H
      refine z_zconst (M := M_X8_sortHot) (b := true) dX8_sortHot_63 rfl ?_
      cases H
      exact z_zret (M := M_X8_sortHot) dX8_sortHot_64 rfl (Nat.le_of_ble_eq_true rfl) (Nat.le_of_ble_eq_true rfl) ⟨rfl, rfl⟩
    refine whl_go hw_8 (fun (i_6, σ_7) => YY l E M_X8_sortHot 4 0 0 (pS (some (zv r)) σ') 19 [some (vr 193), some (vi i_6)] [] σ_7 0 0) ?_
    rintro ⟨i_6, σ_7⟩ o_12 H K_13 K_14
    refine z_iload_n (M := M_X8_sortHot) dX8_sortHot_19 rfl ?_
    refine z_aload_n (M := M_X8_sortHot) dX8_sortHot_20 rfl ?_
    refine z_getI (M := M_X8_sortHot) (ci := 11) (C := RX8) (T := TX8) (Nf := 13) (ty := tyX8) cl11 dX8_sortHot_21 ly_193 8 (by decide) t_338 rfl rfl ?_
    rcases if_e H with ⟨h_15, H⟩ | ⟨h_15, H⟩
    · refine z_icmp_ge_f (M := M_X8_sortHot) (tgt := 63) dX8_sortHot_24 (by decide) rfl rfl h_15 ?_
      refine z_aload_n (M := M_X8_sortHot) dX8_sortHot_27 rfl ?_
      refine z_getR (M := M_X8_sortHot) (ci := 11) (C := RX8) (T := TX8) (Nf := 13) (ty := tyX8) cl11 dX8_sortHot_28 ly_193 6 (by decide) t_333 rfl ?_
      refine z_iload_n (M := M_X8_sortHot) dX8_sortHot_31 rfl ?_
      refine z_aload_n (M := M_X8_sortHot) dX8_sortHot_32 rfl ?_
      refine z_getR (M := M_X8_sortHot) (ci := 11) (C := RX8) (T := TX8) (Nf := 13) (ty := tyX8) cl11 dX8_sortHot_33 ly_193 2 (by decide) t_329 rfl ?_
      refine z_iload_n (M := M_X8_sortHot) dX8_sortHot_36 rfl ?_
      obtain ⟨x_16, x_16_e, hi_17, H⟩ := rd_e H
      refine z_lald (M := M_X8_sortHot) dX8_sortHot_37 ly_200 rfl rfl rfl hi_17 x_16_e ?_
      refine z_callSN (M := M_X8_sortHot) (M' := M_X11_keyX) (as := [vl x_16]) (rest := [vi i_6, vr 203]) rfl rfl dX8_sortHot_38 m_X11_keyX n_1453 t_1454 (c_X11_keyX hl  rfl) rfl rfl (Nat.le_of_ble_eq_true rfl) (Nat.le_of_ble_eq_true rfl) (Nat.le_of_ble_eq_true rfl) (Nat.le_of_ble_eq_true rfl) ?_
      refine z_st (st' := [vi (fQ_keyX x_16), vi i_6, vr 203]) rfl ?_
      obtain ⟨σ_18, σ_18_e, hi_19, H⟩ := wa_e H
      refine z_iast (M := M_X8_sortHot) dX8_sortHot_41 ly_203 rfl rfl rfl hi_19 σ_18_e ?_
      refine z_aload_n (M := M_X8_sortHot) dX8_sortHot_42 rfl ?_
      refine z_getR (M := M_X8_sortHot) (ci := 11) (C := RX8) (T := TX8) (Nf := 13) (ty := tyX8) cl11 dX8_sortHot_43 ly_193 7 (by decide) t_335 rfl ?_
      refine z_iload_n (M := M_X8_sortHot) dX8_sortHot_46 rfl ?_
      refine z_aload_n (M := M_X8_sortHot) dX8_sortHot_47 rfl ?_
      refine z_getR (M := M_X8_sortHot) (ci := 11) (C := RX8) (T := TX8) (Nf := 13) (ty := tyX8) cl11 dX8_sortHot_48 ly_193 2 (by decide) t_329 rfl ?_
      refine z_iload_n (M := M_X8_sortHot) dX8_sortHot_51 rfl ?_
      obtain ⟨x_20, x_20_e, hi_21, H⟩ := rd_e H
      refine z_lald (M := M_X8_sortHot) dX8_sortHot_52 ly_200 rfl rfl rfl hi_21 x_20_e ?_
      refine z_callSN (M := M_X8_sortHot) (M' := M_X11_keyY) (as := [vl x_20]) (rest := [vi i_6, vr 204]) rfl rfl dX8_sortHot_53 m_X11_keyY n_1456 t_1457 (c_X11_keyY hl  rfl) rfl rfl (Nat.le_of_ble_eq_true rfl) (Nat.le_of_ble_eq_true rfl) (Nat.le_of_ble_eq_true rfl) (Nat.le_of_ble_eq_true rfl) ?_
      refine z_st (st' := [vi (fQ_keyY x_20), vi i_6, vr 204]) rfl ?_
      obtain ⟨σ_22, σ_22_e, hi_23, H⟩ := wa_e H
      refine z_iast (M := M_X8_sortHot) dX8_sortHot_56 ly_204 rfl rfl rfl hi_23 σ_22_e ?_
      refine z_iinc (M := M_X8_sortHot) (lv' := [some (vr 193), some (vi (i_6 + 1))]) dX8_sortHot_57 rfl (Nat.le_of_ble_eq_true rfl) rfl rfl ?_
      refine z_goto (M := M_X8_sortHot) (tgt := 19) dX8_sortHot_60 (by decide) ?_
      exact K_13 _ (Option.some.inj H).symm
    · refine z_icmp_ge_t (M := M_X8_sortHot) (tgt := 63) dX8_sortHot_24 (by decide) rfl rfl (Int.not_lt.mp h_15) ?_
      exact J_28 _ _ (K_14 _ (Option.some.inj H).symm).symm
  · refine z_zne_f (M := M_X8_sortHot) (tgt := 9) dX8_sortHot_4 (by decide) h_4 ?_
    refine z_zconst (M := M_X8_sortHot) (b := false) dX8_sortHot_7 rfl ?_
    cases H
    exact z_zret (M := M_X8_sortHot) dX8_sortHot_8 rfl (Nat.le_of_ble_eq_true rfl) (Nat.le_of_ble_eq_true rfl) ⟨rfl, rfl⟩
theorem c_X8_snap (hl : l.stackTraces = false) {σ : SG} {one_0 : Nat} {two_0 : Nat} {r : Bool} {σ' : SG} (h_one : isS one_0) (h_two : isS two_0) (H : fN_snap σ one_0 two_0 = some (r, σ')) : en_S l E M_X8_snap 7 0 0 [vr 193, vr one_0, vr two_0] σ (pS (some (zv r)) σ') := by
  unfold fN_snap at H
  refine z_mk (lv := [some (vr 193), some (vr one_0), some (vr two_0)]) m_X8_snap rfl hl (Nat.le_of_ble_eq_true rfl) rfl ?_
  refine z_aload_n (M := M_X8_snap) dX8_snap_0 rfl ?_
  refine z_getR (M := M_X8_snap) (ci := 11) (C := RX8) (T := TX8) (Nf := 13) (ty := tyX8) cl11 dX8_snap_1 ly_193 0 (by decide) t_327 rfl ?_
  refine z_iconst (M := M_X8_snap) dX8_snap_4 ?_
  obtain ⟨σ_1, σ_1_e, H⟩ := wf_e H
  refine z_putI (M := M_X8_snap) (ci := 8) (C := RX5) (T := TX5) (Nf := 8) (ty := tyX5) cl8 dX8_snap_5 (ly_G (by decide)) 5 (by decide) t_255 rfl rfl rfl rfl σ_1_e ?_
  refine z_aload_n (M := M_X8_snap) dX8_snap_8 rfl ?_
  refine z_iconst (M := M_X8_snap) dX8_snap_9 ?_
  obtain ⟨σ_2, σ_2_e, H⟩ := wf_e H
  refine z_putI (M := M_X8_snap) (ci := 11) (C := RX8) (T := TX8) (Nf := 13) (ty := tyX8) cl11 dX8_snap_10 ly_193 1 (by decide) t_328 rfl rfl rfl rfl σ_2_e ?_
  refine z_aload_n (M := M_X8_snap) dX8_snap_13 rfl ?_
  refine z_iconst (M := M_X8_snap) dX8_snap_14 ?_
  obtain ⟨σ_3, σ_3_e, H⟩ := wf_e H
  refine z_putI (M := M_X8_snap) (ci := 11) (C := RX8) (T := TX8) (Nf := 13) (ty := tyX8) cl11 dX8_snap_15 ly_193 3 (by decide) t_330 rfl rfl rfl rfl σ_3_e ?_
  obtain ⟨v_32, he_33, hk_34⟩ := bd_e H
  have J_35 : ∀ x_30 σ_31, v_32 = (x_30, σ_31) → YY l E M_X8_snap 7 0 0 (pS (some (zv r)) σ') 62 [some (vr 193), some (vr one_0), some (vr two_0)] [zv x_30] σ_31 0 0 := by
    intro x_30 σ_31 e
    have H := hk_34
    rw [e] at H
    cases H
    exact z_zret (M := M_X8_snap) dX8_snap_62 rfl (Nat.le_of_ble_eq_true rfl) (Nat.le_of_ble_eq_true rfl) ⟨rfl, rfl⟩
  have H := he_33
  refine z_aload_n (M := M_X8_snap) dX8_snap_18 rfl ?_
  refine z_aload_n (M := M_X8_snap) dX8_snap_19 rfl ?_
  refine z_iconst (M := M_X8_snap) dX8_snap_20 ?_
  obtain ⟨⟨x_6, σ_5⟩, hc_4, H⟩ := bd_e H
  refine z_callV (M := M_X8_snap) (M' := M_X8_collect) (as := [vr one_0, vi 1]) (rest := []) rfl rfl dX8_snap_21 m_X8_collect t_1396 t_1398 s_68 (c_X8_collect hl h_one hc_4) rfl rfl ly_193 rfl (Nat.le_of_ble_eq_true rfl) (Nat.le_of_ble_eq_true rfl) (Nat.le_of_ble_eq_true rfl) (Nat.le_of_ble_eq_true rfl) ?_
  refine z_st (st' := [zv x_6]) rfl ?_
  rcases if_e H with ⟨h_7, H⟩ | ⟨h_7, H⟩
  · refine z_zeq_f (M := M_X8_snap) (tgt := 61) dX8_snap_24 (by decide) h_7 ?_
    refine z_aload_n (M := M_X8_snap) dX8_snap_27 rfl ?_
    refine z_aload_n (M := M_X8_snap) dX8_snap_28 rfl ?_
    refine z_iconst (M := M_X8_snap) dX8_snap_29 ?_
    obtain ⟨⟨x_10, σ_9⟩, hc_8, H⟩ := bd_e H
    refine z_callV (M := M_X8_snap) (M' := M_X8_collect) (as := [vr two_0, vi 2]) (rest := []) rfl rfl dX8_snap_30 m_X8_collect t_1396 t_1398 s_68 (c_X8_collect hl h_two hc_8) rfl rfl ly_193 rfl (Nat.le_of_ble_eq_true rfl) (Nat.le_of_ble_eq_true rfl) (Nat.le_of_ble_eq_true rfl) (Nat.le_of_ble_eq_true rfl) ?_
    refine z_st (st' := [zv x_10]) rfl ?_
    rcases if_e H with ⟨h_11, H⟩ | ⟨h_11, H⟩
    · refine z_zeq_f (M := M_X8_snap) (tgt := 61) dX8_snap_33 (by decide) h_11 ?_
      refine z_aload_n (M := M_X8_snap) dX8_snap_36 rfl ?_
      obtain ⟨⟨x_14, σ_13⟩, hc_12, H⟩ := bd_e H
      refine z_callV (M := M_X8_snap) (M' := M_X8_addCrossings) (as := []) (rest := []) rfl rfl dX8_snap_37 m_X8_addCrossings t_1431 t_1433 s_72 (c_X8_addCrossings hl  hc_12) rfl rfl ly_193 rfl (Nat.le_of_ble_eq_true rfl) (Nat.le_of_ble_eq_true rfl) (Nat.le_of_ble_eq_true rfl) (Nat.le_of_ble_eq_true rfl) ?_
      refine z_st (st' := [zv x_14]) rfl ?_
      rcases if_e H with ⟨h_15, H⟩ | ⟨h_15, H⟩
      · refine z_zeq_f (M := M_X8_snap) (tgt := 61) dX8_snap_40 (by decide) h_15 ?_
        refine z_aload_n (M := M_X8_snap) dX8_snap_43 rfl ?_
        obtain ⟨⟨x_18, σ_17⟩, hc_16, H⟩ := bd_e H
        refine z_callV (M := M_X8_snap) (M' := M_X8_sortHot) (as := []) (rest := []) rfl rfl dX8_snap_44 m_X8_sortHot t_1449 t_1451 s_74 (c_X8_sortHot hl  hc_16) rfl rfl ly_193 rfl (Nat.le_of_ble_eq_true rfl) (Nat.le_of_ble_eq_true rfl) (Nat.le_of_ble_eq_true rfl) (Nat.le_of_ble_eq_true rfl) ?_
        refine z_st (st' := [zv x_18]) rfl ?_
        rcases if_e H with ⟨h_19, H⟩ | ⟨h_19, H⟩
        · refine z_zeq_f (M := M_X8_snap) (tgt := 61) dX8_snap_47 (by decide) h_19 ?_
          refine z_aload_n (M := M_X8_snap) dX8_snap_50 rfl ?_
          obtain ⟨⟨x_22, σ_21⟩, hc_20, H⟩ := bd_e H
          refine z_callV (M := M_X8_snap) (M' := M_X8_layChains) (as := []) (rest := []) rfl rfl dX8_snap_51 m_X8_layChains t_1459 t_1461 s_75 (c_X8_layChains hl  hc_20) rfl rfl ly_193 rfl (Nat.le_of_ble_eq_true rfl) (Nat.le_of_ble_eq_true rfl) (Nat.le_of_ble_eq_true rfl) (Nat.le_of_ble_eq_true rfl) ?_
          refine z_st (st' := [zv x_22]) rfl ?_
          rcases if_e H with ⟨h_23, H⟩ | ⟨h_23, H⟩
          · refine z_zeq_f (M := M_X8_snap) (tgt := 61) dX8_snap_54 (by decide) h_23 ?_
            refine z_zconst (M := M_X8_snap) (b := true) dX8_snap_57 rfl ?_
            refine z_goto (M := M_X8_snap) (tgt := 62) dX8_snap_58 (by decide) ?_
            exact J_35 _ _ (Option.some.inj H).symm
          · refine z_zeq_t (M := M_X8_snap) (tgt := 61) dX8_snap_54 (by decide) h_23 ?_
            refine z_zconst (M := M_X8_snap) (b := false) dX8_snap_61 rfl ?_
            exact J_35 _ _ (Option.some.inj H).symm
        · refine z_zeq_t (M := M_X8_snap) (tgt := 61) dX8_snap_47 (by decide) h_19 ?_
          refine z_zconst (M := M_X8_snap) (b := false) dX8_snap_61 rfl ?_
          exact J_35 _ _ (Option.some.inj H).symm
      · refine z_zeq_t (M := M_X8_snap) (tgt := 61) dX8_snap_40 (by decide) h_15 ?_
        refine z_zconst (M := M_X8_snap) (b := false) dX8_snap_61 rfl ?_
        exact J_35 _ _ (Option.some.inj H).symm
    · refine z_zeq_t (M := M_X8_snap) (tgt := 61) dX8_snap_33 (by decide) h_11 ?_
      refine z_zconst (M := M_X8_snap) (b := false) dX8_snap_61 rfl ?_
      exact J_35 _ _ (Option.some.inj H).symm
  · refine z_zeq_t (M := M_X8_snap) (tgt := 61) dX8_snap_24 (by decide) h_7 ?_
    refine z_zconst (M := M_X8_snap) (b := false) dX8_snap_61 rfl ?_
    exact J_35 _ _ (Option.some.inj H).symm
theorem c_X11_isBeyond (hl : l.stackTraces = false) {σ : SG} {value_0 : Int} {limit_0 : Int} {r : Bool}  (H : fQ_isBeyond value_0 limit_0 = r) : en_S l E M_X11_isBeyond 1 0 0 [vi value_0, vi limit_0] σ (pS (some (zv r)) σ) := by
  unfold fQ_isBeyond at H
  refine z_mk (lv := [some (vi value_0), some (vi limit_0)]) m_X11_isBeyond rfl hl (Nat.le_of_ble_eq_true rfl) rfl ?_
  have J_1 : YY l E M_X11_isBeyond 1 0 0 (pS (some (zv r)) σ) 16 [some (vi value_0), some (vi limit_0)] [zv (decide (((w32 value_0) < (w32 (-limit_0))) ∨ ((w32 limit_0) < (w32 value_0))))] σ 0 0 := by
    cases H
    exact z_zret (M := M_X11_isBeyond) dX11_isBeyond_16 rfl (Nat.le_of_ble_eq_true rfl) (Nat.le_of_ble_eq_true rfl) ⟨rfl, rfl⟩
  refine z_iload_n (M := M_X11_isBeyond) dX11_isBeyond_0 rfl ?_
  refine z_iload_n (M := M_X11_isBeyond) dX11_isBeyond_1 rfl ?_
  refine z_ineg (M := M_X11_isBeyond) dX11_isBeyond_2 ?_
  by_cases h_2 : (w32 value_0) < (w32 (-limit_0))
  · refine z_icmp_lt_t (M := M_X11_isBeyond) (tgt := 11) dX11_isBeyond_3 (by decide) rfl rfl h_2 ?_
    refine z_iconst (M := M_X11_isBeyond) dX11_isBeyond_11 ?_
    refine z_goto (M := M_X11_isBeyond) (tgt := 16) dX11_isBeyond_12 (by decide) ?_
    exact z_st (by rw [zv_t (p := ((w32 value_0) < (w32 (-limit_0))) ∨ ((w32 limit_0) < (w32 value_0))) (Or.inl h_2)]) J_1
  · refine z_icmp_lt_f (M := M_X11_isBeyond) (tgt := 11) dX11_isBeyond_3 (by decide) rfl rfl (Int.not_lt.mp h_2) ?_
    refine z_iload_n (M := M_X11_isBeyond) dX11_isBeyond_6 rfl ?_
    refine z_iload_n (M := M_X11_isBeyond) dX11_isBeyond_7 rfl ?_
    by_cases h_3 : (w32 limit_0) < (w32 value_0)
    · refine z_icmp_le_f (M := M_X11_isBeyond) (tgt := 15) dX11_isBeyond_8 (by decide) rfl rfl h_3 ?_
      refine z_iconst (M := M_X11_isBeyond) dX11_isBeyond_11 ?_
      refine z_goto (M := M_X11_isBeyond) (tgt := 16) dX11_isBeyond_12 (by decide) ?_
      exact z_st (by rw [zv_t (p := ((w32 value_0) < (w32 (-limit_0))) ∨ ((w32 limit_0) < (w32 value_0))) (Or.inr h_3)]) J_1
    · refine z_icmp_le_t (M := M_X11_isBeyond) (tgt := 15) dX11_isBeyond_8 (by decide) rfl rfl (Int.not_lt.mp h_3) ?_
      refine z_iconst (M := M_X11_isBeyond) dX11_isBeyond_15 ?_
      exact z_st (by rw [zv_f (p := ((w32 value_0) < (w32 (-limit_0))) ∨ ((w32 limit_0) < (w32 value_0))) (fun q => q.elim h_2 h_3)]) J_1
end LFAF
