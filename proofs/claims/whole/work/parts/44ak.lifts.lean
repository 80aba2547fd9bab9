section LFAK
variable {l : Launch} {E : EE}
theorem c_X9_exponentFrom (hl : l.stackTraces = false) {σ : SG} {from_0 : Int} {size_0 : Int} {r : Int}  (H : fW_exponentFrom σ from_0 size_0 = some r) : en_S l E M_X9_exponentFrom 2 0 0 [vr 167, vi from_0, vi size_0] σ (pS (some (vi r)) σ) := by
  unfold fW_exponentFrom at H
  refine z_mk (lv := [some (vr 167), some (vi from_0), some (vi size_0), none, none]) m_X9_exponentFrom rfl hl (Nat.le_of_ble_eq_true rfl) rfl ?_
  refine z_iconst (M := M_X9_exponentFrom) dX9_exponentFrom_0 ?_
  refine z_istore_n (M := M_X9_exponentFrom) (lv' := [some (vr 167), some (vi from_0), some (vi size_0), some (vi 0), none]) dX9_exponentFrom_1 (Nat.le_of_ble_eq_true rfl) rfl rfl ?_
  refine z_iconst (M := M_X9_exponentFrom) dX9_exponentFrom_2 ?_
  refine z_istore (M := M_X9_exponentFrom) (lv' := [some (vr 167), some (vi from_0), some (vi size_0), some (vi 0), some (vi 0)]) dX9_exponentFrom_3 (Nat.le_of_ble_eq_true rfl) rfl rfl ?_
  obtain ⟨rl_6, hw_3, hk_4⟩ := bd_e H
  have J_17 : ∀ value_15 i_16, rl_6 = (value_15, i_16) → YY l E M_X9_exponentFrom 2 0 0 (pS (some (vi r)) σ) 39 [some (vr 167), some (vi from_0), some (vi size_0), some (vi value_15), some (vi i_16)] [] σ 0 0 := by
    intro value_15 i_16 e
    have H := hk_4
    rw [e] at H
    refine z_iload_n (M := M_X9_exponentFrom) dX9_exponentFrom_39 rfl ?_
    cases H
    exact z_iret (M := M_X9_exponentFrom) dX9_exponentFrom_40 rfl (Nat.le_of_ble_eq_true rfl) (Nat.le_of_ble_eq_true rfl) ⟨rfl, rfl⟩
  refine whl_go hw_3 (fun (value_1, i_2) => YY l E M_X9_exponentFrom 2 0 0 (pS (some (vi r)) σ) 5 [some (vr 167), some (vi from_0), some (vi size_0), some (vi value_1), some (vi i_2)] [] σ 0 0) ?_
  rintro ⟨value_1, i_2⟩ o_7 H K_8 K_9
  refine z_iload (M := M_X9_exponentFrom) dX9_exponentFrom_5 rfl ?_
  refine z_iload_n (M := M_X9_exponentFrom) dX9_exponentFrom_7 rfl ?_
  rcases if_e H with ⟨h_10, H⟩ | ⟨h_10, H⟩
  · refine z_icmp_ge_f (M := M_X9_exponentFrom) (tgt := 39) dX9_exponentFrom_8 (by decide) rfl rfl h_10 ?_
    refine z_iload_n (M := M_X9_exponentFrom) dX9_exponentFrom_11 rfl ?_
    refine z_bipush (M := M_X9_exponentFrom) dX9_exponentFrom_12 (by decide +kernel) ?_
    refine z_imul (M := M_X9_exponentFrom) dX9_exponentFrom_14 ?_
    refine z_aload_n (M := M_X9_exponentFrom) dX9_exponentFrom_15 rfl ?_
    refine z_iload_n (M := M_X9_exponentFrom) dX9_exponentFrom_16 rfl ?_
    refine z_iload (M := M_X9_exponentFrom) dX9_exponentFrom_17 rfl ?_
    refine z_iadd (M := M_X9_exponentFrom) dX9_exponentFrom_19 ?_
    obtain ⟨x_12, hc_11, H⟩ := bd_e H
    refine z_callV (M := M_X9_exponentFrom) (M' := M_X9_signAt) (as := [vi (from_0 + i_2)]) (rest := [vi (value_1 * 10)]) rfl rfl dX9_exponentFrom_20 m_X9_signAt t_783 t_785 s_5 (c_X9_signAt hl  hc_11) rfl rfl ly_167 rfl (Nat.le_of_ble_eq_true rfl) (Nat.le_of_ble_eq_true rfl) (Nat.le_of_ble_eq_true rfl) (Nat.le_of_ble_eq_true rfl) ?_
    refine z_st (st' := [vi x_12, vi (value_1 * 10)]) rfl ?_
    refine z_iadd (M := M_X9_exponentFrom) dX9_exponentFrom_23 ?_
    refine z_bipush (M := M_X9_exponentFrom) dX9_exponentFrom_24 (by decide +kernel) ?_
    refine z_isub (M := M_X9_exponentFrom) dX9_exponentFrom_26 ?_
    refine z_ldc (M := M_X9_exponentFrom) (n := 1000000) dX9_exponentFrom_27 t_926 (by decide +kernel) ?_
    refine z_mmin (M := M_X9_exponentFrom) dX9_exponentFrom_29 t_771 t_626 t_20 t_627 (Nat.le_of_ble_eq_true rfl) (Nat.le_of_ble_eq_true rfl) (Nat.le_of_ble_eq_true rfl) (Nat.le_of_ble_eq_true rfl) ?_
    refine z_istore_n (M := M_X9_exponentFrom) (lv' := [some (vr 167), some (vi from_0), some (vi size_0), some (vi (q_mni (((value_1 * 10) + x_12) - 48) 1000000)), some (vi i_2)]) dX9_exponentFrom_32 (Nat.le_of_ble_eq_true rfl) rfl rfl ?_
    refine z_iinc (M := M_X9_exponentFrom) (lv' := [some (vr 167), some (vi from_0), some (vi size_0), some (vi (q_mni (((value_1 * 10) + x_12) - 48) 1000000)), some (vi (i_2 + 1))]) dX9_exponentFrom_33 rfl (Nat.le_of_ble_eq_true rfl) rfl rfl ?_
    refine z_goto (M := M_X9_exponentFrom) (tgt := 5) dX9_exponentFrom_36 (by decide) ?_
    exact K_8 _ (Option.some.inj H).symm
  · refine z_icmp_ge_t (M := M_X9_exponentFrom) (tgt := 39) dX9_exponentFrom_8 (by decide) rfl rfl (Int.not_lt.mp h_10) ?_
    exact J_17 _ _ (K_9 _ (Option.some.inj H).symm).symm
theorem c_X9_isSign (hl : l.stackTraces = false) {σ : SG} {c_0 : Int} {r : Bool}  (H : fW_isSign c_0 = r) : en_S l E M_X9_isSign 1 0 0 [vi c_0] σ (pS (some (zv r)) σ) := by
  unfold fW_isSign at H
  refine z_mk (lv := [some (vi c_0)]) m_X9_isSign rfl hl (Nat.le_of_ble_eq_true rfl) rfl ?_
  have J_1 : YY l E M_X9_isSign 1 0 0 (pS (some (zv r)) σ) 17 [some (vi c_0)] [zv (decide (((w32 c_0) = 43) ∨ ((w32 c_0) = 45)))] σ 0 0 := by
    cases H
    exact z_zret (M := M_X9_isSign) dX9_isSign_17 rfl (Nat.le_of_ble_eq_true rfl) (Nat.le_of_ble_eq_true rfl) ⟨rfl, rfl⟩
  refine z_iload_n (M := M_X9_isSign) dX9_isSign_0 rfl ?_
  refine z_bipush (M := M_X9_isSign) dX9_isSign_1 (by decide +kernel) ?_
  by_cases h_2 : (w32 c_0) = 43
  · refine z_icmp_eq_t (M := M_X9_isSign) (tgt := 12) dX9_isSign_3 (by decide) rfl (by decide +kernel) h_2 ?_
    refine z_iconst (M := M_X9_isSign) dX9_isSign_12 ?_
    refine z_goto (M := M_X9_isSign) (tgt := 17) dX9_isSign_13 (by decide) ?_
    exact z_st (by rw [zv_t (p := ((w32 c_0) = 43) ∨ ((w32 c_0) = 45)) (Or.inl h_2)]) J_1
  · refine z_icmp_eq_f (M := M_X9_isSign) (tgt := 12) dX9_isSign_3 (by decide) rfl (by decide +kernel) h_2 ?_
    refine z_iload_n (M := M_X9_isSign) dX9_isSign_6 rfl ?_
    refine z_bipush (M := M_X9_isSign) dX9_isSign_7 (by decide +kernel) ?_
    by_cases h_3 : (w32 c_0) = 45
    · refine z_icmp_ne_f (M := M_X9_isSign) (tgt := 16) dX9_isSign_9 (by decide) rfl (by decide +kernel) h_3 ?_
      refine z_iconst (M := M_X9_isSign) dX9_isSign_12 ?_
      refine z_goto (M := M_X9_isSign) (tgt := 17) dX9_isSign_13 (by decide) ?_
      exact z_st (by rw [zv_t (p := ((w32 c_0) = 43) ∨ ((w32 c_0) = 45)) (Or.inr h_3)]) J_1
    · refine z_icmp_ne_t (M := M_X9_isSign) (tgt := 16) dX9_isSign_9 (by decide) rfl (by decide +kernel) h_3 ?_
      refine z_iconst (M := M_X9_isSign) dX9_isSign_16 ?_
      exact z_st (by rw [zv_f (p := ((w32 c_0) = 43) ∨ ((w32 c_0) = 45)) (fun q => q.elim h_2 h_3)]) J_1
theorem c_X9_roundedFrom (hl : l.stackTraces = false) {σ : SG} {from_0 : Int} {whole_0 : Int} {fraction_0 : Int} {power_0 : Int} {r : Int}  (H : fW_roundedFrom σ from_0 whole_0 fraction_0 power_0 = some r) : en_S l E M_X9_roundedFrom 2 0 0 [vr 167, vi from_0, vi whole_0, vi fraction_0, vi power_0] σ (pS (some (vl r)) σ) := by
  unfold fW_roundedFrom at H
  refine z_mk (lv := [some (vr 167), some (vi from_0), some (vi whole_0), some (vi fraction_0), some (vi power_0), none, none, none, none, none, none, none]) m_X9_roundedFrom rfl hl (Nat.le_of_ble_eq_true rfl) rfl ?_
  refine z_iload_n (M := M_X9_roundedFrom) dX9_roundedFrom_0 rfl ?_
  refine z_iload (M := M_X9_roundedFrom) dX9_roundedFrom_1 rfl ?_
  refine z_iadd (M := M_X9_roundedFrom) dX9_roundedFrom_3 ?_
  refine z_istore (M := M_X9_roundedFrom) (lv' := [some (vr 167), some (vi from_0), some (vi whole_0), some (vi fraction_0), some (vi power_0), some (vi (whole_0 + power_0)), none, none, none, none, none, none]) dX9_roundedFrom_4 (Nat.le_of_ble_eq_true rfl) rfl rfl ?_
  refine z_lconst (M := M_X9_roundedFrom) (m := 0) dX9_roundedFrom_6 (by decide +kernel) ?_
  refine z_lstore (M := M_X9_roundedFrom) (lv' := [some (vr 167), some (vi from_0), some (vi whole_0), some (vi fraction_0), some (vi power_0), some (vi (whole_0 + power_0)), some (vl 0), none, none, none, none, none]) dX9_roundedFrom_7 (Nat.le_of_ble_eq_true rfl) rfl rfl ?_
  refine z_iconst (M := M_X9_roundedFrom) dX9_roundedFrom_9 ?_
  refine z_istore (M := M_X9_roundedFrom) (lv' := [some (vr 167), some (vi from_0), some (vi whole_0), some (vi fraction_0), some (vi power_0), some (vi (whole_0 + power_0)), some (vl 0), none, some (vi 0), none, none, none]) dX9_roundedFrom_10 (Nat.le_of_ble_eq_true rfl) rfl rfl ?_
  refine z_zconst (M := M_X9_roundedFrom) (b := false) dX9_roundedFrom_12 rfl ?_
  refine z_zstore (M := M_X9_roundedFrom) (lv' := [some (vr 167), some (vi from_0), some (vi whole_0), some (vi fraction_0), some (vi power_0), some (vi (whole_0 + power_0)), some (vl 0), none, some (vi 0), some (zv false), none, none]) dX9_roundedFrom_13 (Nat.le_of_ble_eq_true rfl) rfl rfl ?_
  refine z_iconst (M := M_X9_roundedFrom) dX9_roundedFrom_15 ?_
  refine z_istore (M := M_X9_roundedFrom) (lv' := [some (vr 167), some (vi from_0), some (vi whole_0), some (vi fraction_0), some (vi power_0), some (vi (whole_0 + power_0)), some (vl 0), none, some (vi 0), some (zv false), some (vi 0), none]) dX9_roundedFrom_16 (Nat.le_of_ble_eq_true rfl) rfl rfl ?_
  obtain ⟨rl_8, hw_5, hk_6⟩ := bd_e H
  have J_84 : ∀ value_49 next_50 more_51 i_52, rl_8 = (value_49, next_50, more_51, i_52) → YY l E M_X9_roundedFrom 2 0 0 (pS (some (vl r)) σ) 110 [some (vr 167), some (vi from_0), some (vi whole_0), some (vi fraction_0), some (vi power_0), some (vi (whole_0 + power_0)), some (vl value_49), none, some (vi next_50), some (zv more_51), some (vi i_52), none] [] σ 0 0 := by
    intro value_49 next_50 more_51 i_52 e
    have H := hk_6
    rw [e] at H
    refine z_iload_n (M := M_X9_roundedFrom) dX9_roundedFrom_110 rfl ?_
    refine z_iload_n (M := M_X9_roundedFrom) dX9_roundedFrom_111 rfl ?_
    refine z_iadd (M := M_X9_roundedFrom) dX9_roundedFrom_112 ?_
    refine z_istore (M := M_X9_roundedFrom) (lv' := [some (vr 167), some (vi from_0), some (vi whole_0), some (vi fraction_0), some (vi power_0), some (vi (whole_0 + power_0)), some (vl value_49), none, some (vi next_50), some (zv more_51), some (vi (whole_0 + fraction_0)), none]) dX9_roundedFrom_113 (Nat.le_of_ble_eq_true rfl) rfl rfl ?_
    obtain ⟨rl_58, hw_55, hk_56⟩ := bd_e H
    have J_83 : ∀ value_73 i_74, rl_58 = (value_73, i_74) → YY l E M_X9_roundedFrom 2 0 0 (pS (some (vl r)) σ) 158 [some (vr 167), some (vi from_0), some (vi whole_0), some (vi fraction_0), some (vi power_0), some (vi (whole_0 + power_0)), some (vl value_73), none, some (vi next_50), some (zv more_51), some (vi i_74), none] [] σ 0 0 := by
      intro value_73 i_74 e
      have H := hk_56
      rw [e] at H
      have J_75 : YY l E M_X9_roundedFrom 2 0 0 (pS (some (vl r)) σ) 189 [some (vr 167), some (vi from_0), some (vi whole_0), some (vi fraction_0), some (vi power_0), some (vi (whole_0 + power_0)), some (vl value_73), none, some (vi next_50), some (zv more_51), some (vi i_74), none] [zv (decide ((5 < (w32 next_50)) ∨ (((w32 next_50) = 5) ∧ ((more_51 = true) ∨ ((w64 (q_lan value_73 1)) = 1)))))] σ 0 0 := by
        obtain ⟨x_76, x_76_e, H⟩ := lt_e H
        refine z_st (congrArg (fun z => zv z :: []) x_76_e) ?_
        refine z_zstore (M := M_X9_roundedFrom) (lv' := [some (vr 167), some (vi from_0), some (vi whole_0), some (vi fraction_0), some (vi power_0), some (vi (whole_0 + power_0)), some (vl value_73), none, some (vi next_50), some (zv more_51), some (zv x_76), none]) dX9_roundedFrom_189 (Nat.le_of_ble_eq_true rfl) rfl rfl ?_
        have J_77 : YY l E M_X9_roundedFrom 2 0 0 (pS (some (vl r)) σ) 205 [some (vr 167), some (vi from_0), some (vi whole_0), some (vi fraction_0), some (vi power_0), some (vi (whole_0 + power_0)), some (vl value_73), none, some (vi next_50), some (zv more_51), some (zv x_76), none] [vl (if x_76 = true then (value_73 + 1) else value_73)] σ 0 0 := by
          cases H
          exact z_lret (M := M_X9_roundedFrom) dX9_roundedFrom_205 rfl (Nat.le_of_ble_eq_true rfl) (Nat.le_of_ble_eq_true rfl) ⟨rfl, rfl⟩
        refine z_zload (M := M_X9_roundedFrom) dX9_roundedFrom_191 rfl ?_
        by_cases h_78 : x_76 = true
        · refine z_zeq_f (M := M_X9_roundedFrom) (tgt := 203) dX9_roundedFrom_193 (by decide) h_78 ?_
          refine z_lload (M := M_X9_roundedFrom) dX9_roundedFrom_196 rfl ?_
          refine z_lconst (M := M_X9_roundedFrom) (m := 1) dX9_roundedFrom_198 (by decide +kernel) ?_
          refine z_ladd (M := M_X9_roundedFrom) dX9_roundedFrom_199 ?_
          refine z_goto (M := M_X9_roundedFrom) (tgt := 205) dX9_roundedFrom_200 (by decide) ?_
          exact z_st (by rw [if_pos (c := x_76 = true) h_78]) J_77
        · refine z_zeq_t (M := M_X9_roundedFrom) (tgt := 203) dX9_roundedFrom_193 (by decide) h_78 ?_
          refine z_lload (M := M_X9_roundedFrom) dX9_roundedFrom_203 rfl ?_
          exact z_st (by rw [if_neg (c := x_76 = true) h_78]) J_77
      refine z_iload (M := M_X9_roundedFrom) dX9_roundedFrom_158 rfl ?_
      refine z_iconst (M := M_X9_roundedFrom) dX9_roundedFrom_160 ?_
      by_cases h_79 : 5 < (w32 next_50)
      · refine z_icmp_gt_t (M := M_X9_roundedFrom) (tgt := 184) dX9_roundedFrom_161 (by decide) rfl (by decide +kernel) h_79 ?_
        refine z_iconst (M := M_X9_roundedFrom) dX9_roundedFrom_184 ?_
        refine z_goto (M := M_X9_roundedFrom) (tgt := 189) dX9_roundedFrom_185 (by decide) ?_
        exact z_st (by rw [zv_t (p := (5 < (w32 next_50)) ∨ (((w32 next_50) = 5) ∧ ((more_51 = true) ∨ ((w64 (q_lan value_73 1)) = 1)))) (Or.inl h_79)]) J_75
      · refine z_icmp_gt_f (M := M_X9_roundedFrom) (tgt := 184) dX9_roundedFrom_161 (by decide) rfl (by decide +kernel) (Int.not_lt.mp h_79) ?_
        refine z_iload (M := M_X9_roundedFrom) dX9_roundedFrom_164 rfl ?_
        refine z_iconst (M := M_X9_roundedFrom) dX9_roundedFrom_166 ?_
        by_cases h_80 : (w32 next_50) = 5
        · refine z_icmp_ne_f (M := M_X9_roundedFrom) (tgt := 188) dX9_roundedFrom_167 (by decide) rfl (by decide +kernel) h_80 ?_
          refine z_zload (M := M_X9_roundedFrom) dX9_roundedFrom_170 rfl ?_
          by_cases h_81 : more_51 = true
          · refine z_zne_t (M := M_X9_roundedFrom) (tgt := 184) dX9_roundedFrom_172 (by decide) h_81 ?_
            refine z_iconst (M := M_X9_roundedFrom) dX9_roundedFrom_184 ?_
            refine z_goto (M := M_X9_roundedFrom) (tgt := 189) dX9_roundedFrom_185 (by decide) ?_
            exact z_st (by rw [zv_t (p := (5 < (w32 next_50)) ∨ (((w32 next_50) = 5) ∧ ((more_51 = true) ∨ ((w64 (q_lan value_73 1)) = 1)))) (Or.inr ⟨h_80, (Or.inl h_81)⟩)]) J_75
          · refine z_zne_f (M := M_X9_roundedFrom) (tgt := 184) dX9_roundedFrom_172 (by decide) h_81 ?_
            refine z_lload (M := M_X9_roundedFrom) dX9_roundedFrom_175 rfl ?_
            refine z_lconst (M := M_X9_roundedFrom) (m := 1) dX9_roundedFrom_177 (by decide +kernel) ?_
            refine z_land (M := M_X9_roundedFrom) dX9_roundedFrom_178 ?_
            refine z_lconst (M := M_X9_roundedFrom) (m := 1) dX9_roundedFrom_179 (by decide +kernel) ?_
            refine z_lcmp (M := M_X9_roundedFrom) dX9_roundedFrom_180 ?_
            by_cases h_82 : (w64 (q_lan value_73 1)) = 1
            · refine z_lif_ne_f (M := M_X9_roundedFrom) (tgt := 188) dX9_roundedFrom_181 (by decide) rfl (by decide +kernel) h_82 ?_
              refine z_iconst (M := M_X9_roundedFrom) dX9_roundedFrom_184 ?_
              refine z_goto (M := M_X9_roundedFrom) (tgt := 189) dX9_roundedFrom_185 (by decide) ?_
              exact z_st (by rw [zv_t (p := (5 < (w32 next_50)) ∨ (((w32 next_50) = 5) ∧ ((more_51 = true) ∨ ((w64 (q_lan value_73 1)) = 1)))) (Or.inr ⟨h_80, (Or.inr h_82)⟩)]) J_75
            · refine z_lif_ne_t (M := M_X9_roundedFrom) (tgt := 188) dX9_roundedFrom_181 (by decide) rfl (by decide +kernel) h_82 ?_
              refine z_iconst (M := M_X9_roundedFrom) dX9_roundedFrom_188 ?_
              exact z_st (by rw [zv_f (p := (5 < (w32 next_50)) ∨ (((w32 next_50) = 5) ∧ ((more_51 = true) ∨ ((w64 (q_lan value_73 1)) = 1)))) (fun q => q.elim h_79 (fun q => (fun q => q.elim h_81 h_82) q.2))]) J_75
        · refine z_icmp_ne_t (M := M_X9_roundedFrom) (tgt := 188) dX9_roundedFrom_167 (by decide) rfl (by decide +kernel) h_80 ?_
          refine z_iconst (M := M_X9_roundedFrom) dX9_roundedFrom_188 ?_
          exact z_st (by rw [zv_f (p := (5 < (w32 next_50)) ∨ (((w32 next_50) = 5) ∧ ((more_51 = true) ∨ ((w64 (q_lan value_73 1)) = 1)))) (fun q => q.elim h_79 (fun q => h_80 q.1))]) J_75
    refine whl_go hw_55 (fun (value_53, i_54) => YY l E M_X9_roundedFrom 2 0 0 (pS (some (vl r)) σ) 115 [some (vr 167), some (vi from_0), some (vi whole_0), some (vi fraction_0), some (vi power_0), some (vi (whole_0 + power_0)), some (vl value_53), none, some (vi next_50), some (zv more_51), some (vi i_54), none] [] σ 0 0) ?_
    rintro ⟨value_53, i_54⟩ o_59 H K_60 K_61
    rcases if_e H with ⟨h_64, H⟩ | ⟨h_64, H⟩
    · have J_65 : YY l E M_X9_roundedFrom 2 0 0 (pS (some (vl r)) σ) 138 [some (vr 167), some (vi from_0), some (vi whole_0), some (vi fraction_0), some (vi power_0), some (vi (whole_0 + power_0)), some (vl value_53), none, some (vi next_50), some (zv more_51), some (vi i_54), none] [] σ 0 0 := by
        refine z_lload (M := M_X9_roundedFrom) dX9_roundedFrom_138 rfl ?_
        refine z_ldc2 (M := M_X9_roundedFrom) (n := 10) dX9_roundedFrom_140 t_931 (by decide +kernel) ?_
        refine z_lmul (M := M_X9_roundedFrom) dX9_roundedFrom_143 ?_
        refine z_ldc2 (M := M_X9_roundedFrom) (n := 10000000000) dX9_roundedFrom_144 t_932 (by decide +kernel) ?_
        refine z_lmin (M := M_X9_roundedFrom) dX9_roundedFrom_147 t_933 t_934 t_20 t_935 (Nat.le_of_ble_eq_true rfl) (Nat.le_of_ble_eq_true rfl) (Nat.le_of_ble_eq_true rfl) (Nat.le_of_ble_eq_true rfl) ?_
        refine z_lstore (M := M_X9_roundedFrom) (lv' := [some (vr 167), some (vi from_0), some (vi whole_0), some (vi fraction_0), some (vi power_0), some (vi (whole_0 + power_0)), some (vl (q_mnl (value_53 * 10) 10000000000)), none, some (vi next_50), some (zv more_51), some (vi i_54), none]) dX9_roundedFrom_150 (Nat.le_of_ble_eq_true rfl) rfl rfl ?_
        refine z_iinc (M := M_X9_roundedFrom) (lv' := [some (vr 167), some (vi from_0), some (vi whole_0), some (vi fraction_0), some (vi power_0), some (vi (whole_0 + power_0)), some (vl (q_mnl (value_53 * 10) 10000000000)), none, some (vi next_50), some (zv more_51), some (vi (i_54 + 1)), none]) dX9_roundedFrom_152 rfl (Nat.le_of_ble_eq_true rfl) rfl rfl ?_
        refine z_goto (M := M_X9_roundedFrom) (tgt := 115) dX9_roundedFrom_155 (by decide) ?_
        exact K_60 _ (Option.some.inj H).symm
      refine z_iload (M := M_X9_roundedFrom) dX9_roundedFrom_115 rfl ?_
      refine z_iload (M := M_X9_roundedFrom) dX9_roundedFrom_117 rfl ?_
      by_cases h_67 : (w32 i_54) < (w32 (whole_0 + power_0))
      · refine z_icmp_ge_f (M := M_X9_roundedFrom) (tgt := 158) dX9_roundedFrom_119 (by decide) rfl rfl h_67 ?_
        refine z_lload (M := M_X9_roundedFrom) dX9_roundedFrom_122 rfl ?_
        refine z_lconst (M := M_X9_roundedFrom) (m := 0) dX9_roundedFrom_124 (by decide +kernel) ?_
        refine z_lcmp (M := M_X9_roundedFrom) dX9_roundedFrom_125 ?_
        by_cases h_68 : 0 < (w64 value_53)
        · refine z_lif_le_f (M := M_X9_roundedFrom) (tgt := 158) dX9_roundedFrom_126 (by decide) rfl (by decide +kernel) h_68 ?_
          refine z_lload (M := M_X9_roundedFrom) dX9_roundedFrom_129 rfl ?_
          refine z_ldc2 (M := M_X9_roundedFrom) (n := 10000000000) dX9_roundedFrom_131 t_932 (by decide +kernel) ?_
          refine z_lcmp (M := M_X9_roundedFrom) dX9_roundedFrom_134 ?_
          by_cases h_69 : (w64 value_53) < 10000000000
          · refine z_lif_ge_f (M := M_X9_roundedFrom) (tgt := 158) dX9_roundedFrom_135 (by decide) rfl (by decide +kernel) h_69 ?_
            exact J_65
          · refine z_lif_ge_t (M := M_X9_roundedFrom) (tgt := 158) dX9_roundedFrom_135 (by decide) rfl (by decide +kernel) (Int.not_lt.mp h_69) ?_
            exact absurd h_64 (fun q => h_69 q.2)
        · refine z_lif_le_t (M := M_X9_roundedFrom) (tgt := 158) dX9_roundedFrom_126 (by decide) rfl (by decide +kernel) (Int.not_lt.mp h_68) ?_
          exact absurd h_64 (fun q => (fun q => h_68 q.2) q.1)
      · refine z_icmp_ge_t (M := M_X9_roundedFrom) (tgt := 158) dX9_roundedFrom_119 (by decide) rfl rfl (Int.not_lt.mp h_67) ?_
        exact absurd h_64 (fun q => (fun q => h_67 q.1) q.1)
    · have J_66 : YY l E M_X9_roundedFrom 2 0 0 (pS (some (vl r)) σ) 158 [some (vr 167), some (vi from_0), some (vi whole_0), some (vi fraction_0), some (vi power_0), some (vi (whole_0 + power_0)), some (vl value_53), none, some (vi next_50), some (zv more_51), some (vi i_54), none] [] σ 0 0 := by
        exact J_83 _ _ (K_61 _ (Option.some.inj H).symm).symm
      refine z_iload (M := M_X9_roundedFrom) dX9_roundedFrom_115 rfl ?_
      refine z_iload (M := M_X9_roundedFrom) dX9_roundedFrom_117 rfl ?_
      by_cases h_70 : (w32 i_54) < (w32 (whole_0 + power_0))
      · refine z_icmp_ge_f (M := M_X9_roundedFrom) (tgt := 158) dX9_roundedFrom_119 (by decide) rfl rfl h_70 ?_
        refine z_lload (M := M_X9_roundedFrom) dX9_roundedFrom_122 rfl ?_
        refine z_lconst (M := M_X9_roundedFrom) (m := 0) dX9_roundedFrom_124 (by decide +kernel) ?_
        refine z_lcmp (M := M_X9_roundedFrom) dX9_roundedFrom_125 ?_
        by_cases h_71 : 0 < (w64 value_53)
        · refine z_lif_le_f (M := M_X9_roundedFrom) (tgt := 158) dX9_roundedFrom_126 (by decide) rfl (by decide +kernel) h_71 ?_
          refine z_lload (M := M_X9_roundedFrom) dX9_roundedFrom_129 rfl ?_
          refine z_ldc2 (M := M_X9_roundedFrom) (n := 10000000000) dX9_roundedFrom_131 t_932 (by decide +kernel) ?_
          refine z_lcmp (M := M_X9_roundedFrom) dX9_roundedFrom_134 ?_
          by_cases h_72 : (w64 value_53) < 10000000000
          · refine z_lif_ge_f (M := M_X9_roundedFrom) (tgt := 158) dX9_roundedFrom_135 (by decide) rfl (by decide +kernel) h_72 ?_
            exact absurd ⟨⟨h_70, h_71⟩, h_72⟩ h_64
          · refine z_lif_ge_t (M := M_X9_roundedFrom) (tgt := 158) dX9_roundedFrom_135 (by decide) rfl (by decide +kernel) (Int.not_lt.mp h_72) ?_
            exact J_66
        · refine z_lif_le_t (M := M_X9_roundedFrom) (tgt := 158) dX9_roundedFrom_126 (by decide) rfl (by decide +kernel) (Int.not_lt.mp h_71) ?_
          exact J_66
      · refine z_icmp_ge_t (M := M_X9_roundedFrom) (tgt := 158) dX9_roundedFrom_119 (by decide) rfl rfl (Int.not_lt.mp h_70) ?_
        exact J_66
  refine whl_go hw_5 (fun (value_1, next_2, more_3, i_4) => YY l E M_X9_roundedFrom 2 0 0 (pS (some (vl r)) σ) 18 [some (vr 167), some (vi from_0), some (vi whole_0), some (vi fraction_0), some (vi power_0), some (vi (whole_0 + power_0)), some (vl value_1), none, some (vi next_2), some (zv more_3), some (vi i_4), none] [] σ 0 0) ?_
  rintro ⟨value_1, next_2, more_3, i_4⟩ o_9 H K_10 K_11
  refine z_iload (M := M_X9_roundedFrom) dX9_roundedFrom_18 rfl ?_
  refine z_iload_n (M := M_X9_roundedFrom) dX9_roundedFrom_20 rfl ?_
  refine z_iload_n (M := M_X9_roundedFrom) dX9_roundedFrom_21 rfl ?_
  refine z_iadd (M := M_X9_roundedFrom) dX9_roundedFrom_22 ?_
  rcases if_e H with ⟨h_12, H⟩ | ⟨h_12, H⟩
  · refine z_icmp_ge_f (M := M_X9_roundedFrom) (tgt := 110) dX9_roundedFrom_23 (by decide) rfl rfl h_12 ?_
    refine z_aload_n (M := M_X9_roundedFrom) dX9_roundedFrom_26 rfl ?_
    have J_13 : YY l E M_X9_roundedFrom 2 0 0 (pS (some (vl r)) σ) 46 [some (vr 167), some (vi from_0), some (vi whole_0), some (vi fraction_0), some (vi power_0), some (vi (whole_0 + power_0)), some (vl value_1), none, some (vi next_2), some (zv more_3), some (vi i_4), none] [vi (if (w32 i_4) < (w32 whole_0) then (from_0 + i_4) else ((from_0 + i_4) + 1)), vr 167] σ 0 0 := by
      obtain ⟨x_15, hc_14, H⟩ := bd_e H
      refine z_callV (M := M_X9_roundedFrom) (M' := M_X9_signAt) (as := [vi (if (w32 i_4) < (w32 whole_0) then (from_0 + i_4) else ((from_0 + i_4) + 1))]) (rest := []) rfl rfl dX9_roundedFrom_46 m_X9_signAt t_783 t_785 s_5 (c_X9_signAt hl  hc_14) rfl rfl ly_167 rfl (Nat.le_of_ble_eq_true rfl) (Nat.le_of_ble_eq_true rfl) (Nat.le_of_ble_eq_true rfl) (Nat.le_of_ble_eq_true rfl) ?_
      refine z_st (st' := [vi x_15]) rfl ?_
      refine z_bipush (M := M_X9_roundedFrom) dX9_roundedFrom_49 (by decide +kernel) ?_
      refine z_isub (M := M_X9_roundedFrom) dX9_roundedFrom_51 ?_
      refine z_istore (M := M_X9_roundedFrom) (lv' := [some (vr 167), some (vi from_0), some (vi whole_0), some (vi fraction_0), some (vi power_0), some (vi (whole_0 + power_0)), some (vl value_1), none, some (vi next_2), some (zv more_3), some (vi i_4), some (vi (x_15 - 48))]) dX9_roundedFrom_52 (Nat.le_of_ble_eq_true rfl) rfl rfl ?_
      obtain ⟨v_19, he_16, hk_17⟩ := bd_e H
      have J_46 : ∀ value_42 next_43 more_44, v_19 = (value_42, next_43, more_44) → YY l E M_X9_roundedFrom 2 0 0 (pS (some (vl r)) σ) 104 [some (vr 167), some (vi from_0), some (vi whole_0), some (vi fraction_0), some (vi power_0), some (vi (whole_0 + power_0)), some (vl value_42), none, some (vi next_43), some (zv more_44), some (vi i_4), some (vi (x_15 - 48))] [] σ 0 0 := by
        intro value_42 next_43 more_44 e
        have H := hk_17
        rw [e] at H
        refine z_iinc (M := M_X9_roundedFrom) (lv' := [some (vr 167), some (vi from_0), some (vi whole_0), some (vi fraction_0), some (vi power_0), some (vi (whole_0 + power_0)), some (vl value_42), none, some (vi next_43), some (zv more_44), some (vi (i_4 + 1)), some (vi (x_15 - 48))]) dX9_roundedFrom_104 rfl (Nat.le_of_ble_eq_true rfl) rfl rfl ?_
        refine z_goto (M := M_X9_roundedFrom) (tgt := 18) dX9_roundedFrom_107 (by decide) ?_
        refine z_le (lv' := [some (vr 167), some (vi from_0), some (vi whole_0), some (vi fraction_0), some (vi power_0), some (vi (whole_0 + power_0)), some (vl value_42), none, some (vi next_43), some (zv more_44), some (vi (i_4 + 1)), none]) ⟨Or.inr rfl, Or.inr rfl, Or.inr rfl, Or.inr rfl, Or.inr rfl, Or.inr rfl, Or.inr rfl, Or.inl rfl, Or.inr rfl, Or.inr rfl, Or.inr rfl, Or.inl rfl, trivial⟩ ?_
        exact K_10 _ (Option.some.inj H).symm
      have H := he_16
      refine z_iload (M := M_X9_roundedFrom) dX9_roundedFrom_54 rfl ?_
      refine z_iload (M := M_X9_roundedFrom) dX9_roundedFrom_56 rfl ?_
      rcases if_e H with ⟨h_20, H⟩ | ⟨h_20, H⟩
      · refine z_icmp_ge_f (M := M_X9_roundedFrom) (tgt := 82) dX9_roundedFrom_58 (by decide) rfl rfl h_20 ?_
        refine z_lload (M := M_X9_roundedFrom) dX9_roundedFrom_61 rfl ?_
        refine z_ldc2 (M := M_X9_roundedFrom) (n := 10) dX9_roundedFrom_63 t_931 (by decide +kernel) ?_
        refine z_lmul (M := M_X9_roundedFrom) dX9_roundedFrom_66 ?_
        refine z_iload (M := M_X9_roundedFrom) dX9_roundedFrom_67 rfl ?_
        refine z_i2l (M := M_X9_roundedFrom) dX9_roundedFrom_69 ?_
        refine z_ladd (M := M_X9_roundedFrom) dX9_roundedFrom_70 ?_
        refine z_ldc2 (M := M_X9_roundedFrom) (n := 10000000000) dX9_roundedFrom_71 t_932 (by decide +kernel) ?_
        refine z_lmin (M := M_X9_roundedFrom) dX9_roundedFrom_74 t_933 t_934 t_20 t_935 (Nat.le_of_ble_eq_true rfl) (Nat.le_of_ble_eq_true rfl) (Nat.le_of_ble_eq_true rfl) (Nat.le_of_ble_eq_true rfl) ?_
        refine z_lstore (M := M_X9_roundedFrom) (lv' := [some (vr 167), some (vi from_0), some (vi whole_0), some (vi fraction_0), some (vi power_0), some (vi (whole_0 + power_0)), some (vl (q_mnl ((value_1 * 10) + (w32 (x_15 - 48))) 10000000000)), none, some (vi next_2), some (zv more_3), some (vi i_4), some (vi (x_15 - 48))]) dX9_roundedFrom_77 (Nat.le_of_ble_eq_true rfl) rfl rfl ?_
        refine z_goto (M := M_X9_roundedFrom) (tgt := 104) dX9_roundedFrom_79 (by decide) ?_
        exact J_46 _ _ _ (Option.some.inj H).symm
      · refine z_icmp_ge_t (M := M_X9_roundedFrom) (tgt := 82) dX9_roundedFrom_58 (by decide) rfl rfl (Int.not_lt.mp h_20) ?_
        obtain ⟨v_25, he_22, hk_23⟩ := bd_e H
        have J_41 : ∀ next_38 more_39, v_25 = (next_38, more_39) → YY l E M_X9_roundedFrom 2 0 0 (pS (some (vl r)) σ) 104 [some (vr 167), some (vi from_0), some (vi whole_0), some (vi fraction_0), some (vi power_0), some (vi (whole_0 + power_0)), some (vl value_1), none, some (vi next_38), some (zv more_39), some (vi i_4), some (vi (x_15 - 48))] [] σ 0 0 := by
          intro next_38 more_39 e
          have H := hk_23
          rw [e] at H
          exact J_46 _ _ _ (Option.some.inj H).symm
        have H := he_22
        refine z_iload (M := M_X9_roundedFrom) dX9_roundedFrom_82 rfl ?_
        refine z_iload (M := M_X9_roundedFrom) dX9_roundedFrom_84 rfl ?_
        rcases if_e H with ⟨h_26, H⟩ | ⟨h_26, H⟩
        · refine z_icmp_ne_f (M := M_X9_roundedFrom) (tgt := 96) dX9_roundedFrom_86 (by decide) rfl rfl h_26 ?_
          refine z_iload (M := M_X9_roundedFrom) dX9_roundedFrom_89 rfl ?_
          refine z_istore (M := M_X9_roundedFrom) (lv' := [some (vr 167), some (vi from_0), some (vi whole_0), some (vi fraction_0), some (vi power_0), some (vi (whole_0 + power_0)), some (vl value_1), none, some (vi (x_15 - 48)), some (zv more_3), some (vi i_4), some (vi (x_15 - 48))]) dX9_roundedFrom_91 (Nat.le_of_ble_eq_true rfl) rfl rfl ?_
          refine z_goto (M := M_X9_roundedFrom) (tgt := 104) dX9_roundedFrom_93 (by decide) ?_
          exact J_41 _ _ (Option.some.inj H).symm
        · refine z_icmp_ne_t (M := M_X9_roundedFrom) (tgt := 96) dX9_roundedFrom_86 (by decide) rfl rfl h_26 ?_
          obtain ⟨v_31, he_28, hk_29⟩ := bd_e H
          have J_37 : ∀ more_35, v_31 = more_35 → YY l E M_X9_roundedFrom 2 0 0 (pS (some (vl r)) σ) 104 [some (vr 167), some (vi from_0), some (vi whole_0), some (vi fraction_0), some (vi power_0), some (vi (whole_0 + power_0)), some (vl value_1), none, some (vi next_2), some (zv more_35), some (vi i_4), some (vi (x_15 - 48))] [] σ 0 0 := by
            intro more_35 e
            have H := hk_29
            rw [e] at H
            exact J_41 _ _ (Option.some.inj H).symm
          have H := he_28
          refine z_iload (M := M_X9_roundedFrom) dX9_roundedFrom_96 rfl ?_
          rcases if_e H with ⟨h_32, H⟩ | ⟨h_32, H⟩
          · refine z_if_eq_f (M := M_X9_roundedFrom) (tgt := 104) dX9_roundedFrom_98 (by decide) rfl h_32 ?_
            refine z_zconst (M := M_X9_roundedFrom) (b := true) dX9_roundedFrom_101 rfl ?_
            refine z_zstore (M := M_X9_roundedFrom) (lv' := [some (vr 167), some (vi from_0), some (vi whole_0), some (vi fraction_0), some (vi power_0), some (vi (whole_0 + power_0)), some (vl value_1), none, some (vi next_2), some (zv true), some (vi i_4), some (vi (x_15 - 48))]) dX9_roundedFrom_102 (Nat.le_of_ble_eq_true rfl) rfl rfl ?_
            exact J_37 _ (Option.some.inj H).symm
          · refine z_if_eq_t (M := M_X9_roundedFrom) (tgt := 104) dX9_roundedFrom_98 (by decide) rfl (Decidable.not_not.mp h_32) ?_
            exact J_37 _ (Option.some.inj H).symm
    refine z_iload (M := M_X9_roundedFrom) dX9_roundedFrom_27 rfl ?_
    refine z_iload_n (M := M_X9_roundedFrom) dX9_roundedFrom_29 rfl ?_
    by_cases h_47 : (w32 i_4) < (w32 whole_0)
    · refine z_icmp_ge_f (M := M_X9_roundedFrom) (tgt := 40) dX9_roundedFrom_30 (by decide) rfl rfl h_47 ?_
      refine z_iload_n (M := M_X9_roundedFrom) dX9_roundedFrom_33 rfl ?_
      refine z_iload (M := M_X9_roundedFrom) dX9_roundedFrom_34 rfl ?_
      refine z_iadd (M := M_X9_roundedFrom) dX9_roundedFrom_36 ?_
      refine z_goto (M := M_X9_roundedFrom) (tgt := 46) dX9_roundedFrom_37 (by decide) ?_
      exact z_st (by rw [if_pos (c := (w32 i_4) < (w32 whole_0)) h_47]) J_13
    · refine z_icmp_ge_t (M := M_X9_roundedFrom) (tgt := 40) dX9_roundedFrom_30 (by decide) rfl rfl (Int.not_lt.mp h_47) ?_
      refine z_iload_n (M := M_X9_roundedFrom) dX9_roundedFrom_40 rfl ?_
      refine z_iload (M := M_X9_roundedFrom) dX9_roundedFrom_41 rfl ?_
      refine z_iadd (M := M_X9_roundedFrom) dX9_roundedFrom_43 ?_
      refine z_iconst (M := M_X9_roundedFrom) dX9_roundedFrom_44 ?_
      refine z_iadd (M := M_X9_roundedFrom) dX9_roundedFrom_45 ?_
      exact z_st (by rw [if_neg (c := (w32 i_4) < (w32 whole_0)) h_47]) J_13
  · refine z_icmp_ge_t (M := M_X9_roundedFrom) (tgt := 110) dX9_roundedFrom_23 (by decide) rfl rfl (Int.not_lt.mp h_12) ?_
    exact J_84 _ _ _ _ (K_11 _ (Option.some.inj H).symm).symm
theorem c_X9_readNumber (hl : l.stackTraces = false) {σ : SG} {r : Bool} {σ' : SG}  (H : fW_readNumber σ = some (r, σ')) : en_S l E M_X9_readNumber 3 0 0 [vr 167] σ (pS (some (zv r)) σ') := by
  unfold fW_readNumber at H
  refine z_mk (lv := [some (vr 167), none, none, none, none, none, none, none, none, none, none]) m_X9_readNumber rfl hl (Nat.le_of_ble_eq_true rfl) rfl ?_
  refine z_aload_n (M := M_X9_readNumber) dX9_readNumber_0 rfl ?_
  obtain ⟨σ_2, hc_1, H⟩ := bd_e H
  refine z_callV (M := M_X9_readNumber) (M' := M_X9_skipBlanks) (as := []) (rest := []) rfl rfl dX9_readNumber_1 m_X9_skipBlanks t_776 t_778 s_4 (c_X9_skipBlanks hl  hc_1) rfl rfl ly_167 rfl (Nat.le_of_ble_eq_true rfl) (Nat.le_of_ble_eq_true rfl) (Nat.le_of_ble_eq_true rfl) (Nat.le_of_ble_eq_true rfl) ?_
  refine z_st (st' := []) rfl ?_
  refine z_aload_n (M := M_X9_readNumber) dX9_readNumber_4 rfl ?_
  refine z_aload_n (M := M_X9_readNumber) dX9_readNumber_5 rfl ?_
  refine z_getI (M := M_X9_readNumber) (ci := 12) (C := RX9) (T := TX9) (Nf := 12) (ty := tyX9) cl12 dX9_readNumber_6 ly_167 6 (by decide) t_111 rfl rfl ?_
  obtain ⟨x_4, hc_3, H⟩ := bd_e H
  refine z_callV (M := M_X9_readNumber) (M' := M_X9_signAt) (as := [vi (σ_2 kW_at 0)]) (rest := []) rfl rfl dX9_readNumber_9 m_X9_signAt t_783 t_785 s_5 (c_X9_signAt hl  hc_3) rfl rfl ly_167 rfl (Nat.le_of_ble_eq_true rfl) (Nat.le_of_ble_eq_true rfl) (Nat.le_of_ble_eq_true rfl) (Nat.le_of_ble_eq_true rfl) ?_
  refine z_st (st' := [vi x_4]) rfl ?_
  refine z_istore_n (M := M_X9_readNumber) (lv' := [some (vr 167), some (vi x_4), none, none, none, none, none, none, none, none, none]) dX9_readNumber_12 (Nat.le_of_ble_eq_true rfl) rfl rfl ?_
  refine z_iload_n (M := M_X9_readNumber) dX9_readNumber_13 rfl ?_
  refine z_callS (M := M_X9_readNumber) (M' := M_X9_beginsNumber) (as := [vi x_4]) (rest := []) rfl rfl dX9_readNumber_14 m_X9_beginsNumber t_794 t_795 (c_X9_beginsNumber hl  rfl) rfl rfl (Nat.le_of_ble_eq_true rfl) (Nat.le_of_ble_eq_true rfl) (Nat.le_of_ble_eq_true rfl) (Nat.le_of_ble_eq_true rfl) ?_
  refine z_st (st' := [zv (fW_beginsNumber x_4)]) rfl ?_
  rcases if_e H with ⟨h_5, H⟩ | ⟨h_5, H⟩
  · refine z_zne_t (M := M_X9_readNumber) (tgt := 25) dX9_readNumber_17 (by decide) h_5 ?_
    have J_6 : YY l E M_X9_readNumber 3 0 0 (pS (some (zv r)) σ') 45 [some (vr 167), some (vi x_4), none, none, none, none, none, none, none, none, none] [vi (if (fW_isSign x_4) = true then ((σ_2 kW_at 0) + 1) else (σ_2 kW_at 0))] σ_2 0 0 := by
      obtain ⟨x_7, x_7_e, H⟩ := lt_e H
      refine z_st (congrArg (fun z => vi z :: []) x_7_e) ?_
      refine z_istore_n (M := M_X9_readNumber) (lv' := [some (vr 167), some (vi x_4), some (vi x_7), none, none, none, none, none, none, none, none]) dX9_readNumber_45 (Nat.le_of_ble_eq_true rfl) rfl rfl ?_
      refine z_aload_n (M := M_X9_readNumber) dX9_readNumber_46 rfl ?_
      refine z_iload_n (M := M_X9_readNumber) dX9_readNumber_47 rfl ?_
      obtain ⟨x_9, hc_8, H⟩ := bd_e H
      refine z_callV (M := M_X9_readNumber) (M' := M_X9_digitsFrom) (as := [vi x_7]) (rest := []) rfl rfl dX9_readNumber_48 m_X9_digitsFrom t_915 t_917 s_18 (c_X9_digitsFrom hl  hc_8) rfl rfl ly_167 rfl (Nat.le_of_ble_eq_true rfl) (Nat.le_of_ble_eq_true rfl) (Nat.le_of_ble_eq_true rfl) (Nat.le_of_ble_eq_true rfl) ?_
      refine z_st (st' := [vi x_9]) rfl ?_
      refine z_istore_n (M := M_X9_readNumber) (lv' := [some (vr 167), some (vi x_4), some (vi x_7), some (vi x_9), none, none, none, none, none, none, none]) dX9_readNumber_51 (Nat.le_of_ble_eq_true rfl) rfl rfl ?_
      refine z_iload_n (M := M_X9_readNumber) dX9_readNumber_52 rfl ?_
      refine z_iload_n (M := M_X9_readNumber) dX9_readNumber_53 rfl ?_
      refine z_iadd (M := M_X9_readNumber) dX9_readNumber_54 ?_
      refine z_istore (M := M_X9_readNumber) (lv' := [some (vr 167), some (vi x_4), some (vi x_7), some (vi x_9), some (vi (x_7 + x_9)), none, none, none, none, none, none]) dX9_readNumber_55 (Nat.le_of_ble_eq_true rfl) rfl rfl ?_
      refine z_iconst (M := M_X9_readNumber) dX9_readNumber_57 ?_
      refine z_istore (M := M_X9_readNumber) (lv' := [some (vr 167), some (vi x_4), some (vi x_7), some (vi x_9), some (vi (x_7 + x_9)), some (vi 0), none, none, none, none, none]) dX9_readNumber_58 (Nat.le_of_ble_eq_true rfl) rfl rfl ?_
      obtain ⟨v_13, he_10, hk_11⟩ := bd_e H
      have J_145 : ∀ i_21 fraction_22, v_13 = (i_21, fraction_22) → YY l E M_X9_readNumber 3 0 0 (pS (some (zv r)) σ') 90 [some (vr 167), some (vi x_4), some (vi x_7), some (vi x_9), some (vi i_21), some (vi fraction_22), none, none, none, none, none] [] σ_2 0 0 := by
        intro i_21 fraction_22 e
        have H := hk_11
        rw [e] at H
        have J_23 : YY l E M_X9_readNumber 3 0 0 (pS (some (zv r)) σ') 102 [some (vr 167), some (vi x_4), some (vi x_7), some (vi x_9), some (vi i_21), some (vi fraction_22), none, none, none, none, none] [zv (decide (0 < (w32 (x_9 + fraction_22))))] σ_2 0 0 := by
          refine z_zstore (M := M_X9_readNumber) (lv' := [some (vr 167), some (vi x_4), some (vi x_7), some (vi x_9), some (vi i_21), some (vi fraction_22), some (zv (decide (0 < (w32 (x_9 + fraction_22))))), none, none, none, none]) dX9_readNumber_102 (Nat.le_of_ble_eq_true rfl) rfl rfl ?_
          refine z_iconst (M := M_X9_readNumber) dX9_readNumber_104 ?_
          refine z_istore (M := M_X9_readNumber) (lv' := [some (vr 167), some (vi x_4), some (vi x_7), some (vi x_9), some (vi i_21), some (vi fraction_22), some (zv (decide (0 < (w32 (x_9 + fraction_22))))), some (vi 0), none, none, none]) dX9_readNumber_105 (Nat.le_of_ble_eq_true rfl) rfl rfl ?_
          obtain ⟨v_27, he_24, hk_25⟩ := bd_e H
          have J_143 : ∀ i_116 good_117 exponent_118, v_27 = (i_116, good_117, exponent_118) → YY l E M_X9_readNumber 3 0 0 (pS (some (zv r)) σ') 223 [some (vr 167), some (vi x_4), some (vi x_7), some (vi x_9), some (vi i_116), some (vi fraction_22), some (zv good_117), some (vi exponent_118), none, none, none] [] σ_2 0 0 := by
            intro i_116 good_117 exponent_118 e
            have H := hk_25
            rw [e] at H
            refine z_aload_n (M := M_X9_readNumber) dX9_readNumber_223 rfl ?_
            refine z_iload (M := M_X9_readNumber) dX9_readNumber_224 rfl ?_
            obtain ⟨x_120, hc_119, H⟩ := bd_e H
            refine z_callV (M := M_X9_readNumber) (M' := M_X9_signAt) (as := [vi i_116]) (rest := []) rfl rfl dX9_readNumber_226 m_X9_signAt t_783 t_785 s_5 (c_X9_signAt hl  hc_119) rfl rfl ly_167 rfl (Nat.le_of_ble_eq_true rfl) (Nat.le_of_ble_eq_true rfl) (Nat.le_of_ble_eq_true rfl) (Nat.le_of_ble_eq_true rfl) ?_
            refine z_st (st' := [vi x_120]) rfl ?_
            refine z_istore (M := M_X9_readNumber) (lv' := [some (vr 167), some (vi x_4), some (vi x_7), some (vi x_9), some (vi i_116), some (vi fraction_22), some (zv good_117), some (vi exponent_118), some (vi x_120), none, none]) dX9_readNumber_229 (Nat.le_of_ble_eq_true rfl) rfl rfl ?_
            rcases if_e H with ⟨h_134, H⟩ | ⟨h_134, H⟩
            · have J_135 : YY l E M_X9_readNumber 3 0 0 (pS (some (zv r)) σ') 252 [some (vr 167), some (vi x_4), some (vi x_7), some (vi x_9), some (vi i_116), some (vi fraction_22), some (zv good_117), some (vi exponent_118), some (vi x_120), none, none] [] σ_2 0 0 := by
                refine z_aload_n (M := M_X9_readNumber) dX9_readNumber_252 rfl ?_
                refine z_iconst (M := M_X9_readNumber) dX9_readNumber_253 ?_
                obtain ⟨⟨x_123, σ_122⟩, hc_121, H⟩ := bd_e H
                refine z_callV (M := M_X9_readNumber) (M' := M_X9_fail) (as := [vi 4]) (rest := []) rfl rfl dX9_readNumber_254 m_X9_fail t_797 t_799 s_7 (c_X9_fail hl  hc_121) rfl rfl ly_167 rfl (Nat.le_of_ble_eq_true rfl) (Nat.le_of_ble_eq_true rfl) (Nat.le_of_ble_eq_true rfl) (Nat.le_of_ble_eq_true rfl) ?_
                refine z_st (st' := [zv x_123]) rfl ?_
                cases H
                exact z_zret (M := M_X9_readNumber) dX9_readNumber_257 rfl (Nat.le_of_ble_eq_true rfl) (Nat.le_of_ble_eq_true rfl) ⟨rfl, rfl⟩
              refine z_zload (M := M_X9_readNumber) dX9_readNumber_231 rfl ?_
              by_cases h_137 : good_117 = true
              · refine z_zeq_f (M := M_X9_readNumber) (tgt := 252) dX9_readNumber_233 (by decide) h_137 ?_
                refine z_iload (M := M_X9_readNumber) dX9_readNumber_236 rfl ?_
                refine z_callS (M := M_X9_readNumber) (M' := M_X9_beginsNumber) (as := [vi x_120]) (rest := []) rfl rfl dX9_readNumber_238 m_X9_beginsNumber t_794 t_795 (c_X9_beginsNumber hl  rfl) rfl rfl (Nat.le_of_ble_eq_true rfl) (Nat.le_of_ble_eq_true rfl) (Nat.le_of_ble_eq_true rfl) (Nat.le_of_ble_eq_true rfl) ?_
                refine z_st (st' := [zv (fW_beginsNumber x_120)]) rfl ?_
                by_cases h_138 : (fW_beginsNumber x_120) = true
                · refine z_zne_t (M := M_X9_readNumber) (tgt := 252) dX9_readNumber_241 (by decide) h_138 ?_
                  exact J_135
                · refine z_zne_f (M := M_X9_readNumber) (tgt := 252) dX9_readNumber_241 (by decide) h_138 ?_
                  refine z_iload (M := M_X9_readNumber) dX9_readNumber_244 rfl ?_
                  refine z_callS (M := M_X9_readNumber) (M' := M_X9_isLetter) (as := [vi x_120]) (rest := []) rfl rfl dX9_readNumber_246 m_X9_isLetter t_787 t_788 (c_X9_isLetter hl  rfl) rfl rfl (Nat.le_of_ble_eq_true rfl) (Nat.le_of_ble_eq_true rfl) (Nat.le_of_ble_eq_true rfl) (Nat.le_of_ble_eq_true rfl) ?_
                  refine z_st (st' := [zv (fW_isLetter x_120)]) rfl ?_
                  by_cases h_139 : (fW_isLetter x_120) = true
                  · refine z_zeq_f (M := M_X9_readNumber) (tgt := 258) dX9_readNumber_249 (by decide) h_139 ?_
                    exact J_135
                  · refine z_zeq_t (M := M_X9_readNumber) (tgt := 258) dX9_readNumber_249 (by decide) h_139 ?_
                    exact absurd h_134 (fun q => q.elim (fun q => q.elim (not_not_intro h_137) h_138) h_139)
              · refine z_zeq_t (M := M_X9_readNumber) (tgt := 252) dX9_readNumber_233 (by decide) h_137 ?_
                exact J_135
            · have J_136 : YY l E M_X9_readNumber 3 0 0 (pS (some (zv r)) σ') 258 [some (vr 167), some (vi x_4), some (vi x_7), some (vi x_9), some (vi i_116), some (vi fraction_22), some (zv good_117), some (vi exponent_118), some (vi x_120), none, none] [] σ_2 0 0 := by
                refine z_aload_n (M := M_X9_readNumber) dX9_readNumber_258 rfl ?_
                refine z_iload_n (M := M_X9_readNumber) dX9_readNumber_259 rfl ?_
                refine z_iload_n (M := M_X9_readNumber) dX9_readNumber_260 rfl ?_
                refine z_iload (M := M_X9_readNumber) dX9_readNumber_261 rfl ?_
                refine z_iload (M := M_X9_readNumber) dX9_readNumber_263 rfl ?_
                refine z_aload_n (M := M_X9_readNumber) dX9_readNumber_265 rfl ?_
                refine z_getI (M := M_X9_readNumber) (ci := 12) (C := RX9) (T := TX9) (Nf := 12) (ty := tyX9) cl12 dX9_readNumber_266 ly_167 0 (by decide) t_105 rfl rfl ?_
                refine z_iadd (M := M_X9_readNumber) dX9_readNumber_269 ?_
                obtain ⟨x_125, hc_124, H⟩ := bd_e H
                refine z_callV (M := M_X9_readNumber) (M' := M_X9_roundedFrom) (as := [vi x_7, vi x_9, vi fraction_22, vi (exponent_118 + (σ_2 kW_digits 0))]) (rest := []) rfl rfl dX9_readNumber_270 m_X9_roundedFrom t_927 t_929 s_20 (c_X9_roundedFrom hl  hc_124) rfl rfl ly_167 rfl (Nat.le_of_ble_eq_true rfl) (Nat.le_of_ble_eq_true rfl) (Nat.le_of_ble_eq_true rfl) (Nat.le_of_ble_eq_true rfl) ?_
                refine z_st (st' := [vl x_125]) rfl ?_
                refine z_lstore (M := M_X9_readNumber) (lv' := [some (vr 167), some (vi x_4), some (vi x_7), some (vi x_9), some (vi i_116), some (vi fraction_22), some (zv good_117), some (vi exponent_118), some (vi x_120), some (vl x_125), none]) dX9_readNumber_273 (Nat.le_of_ble_eq_true rfl) rfl rfl ?_
                refine z_lload (M := M_X9_readNumber) dX9_readNumber_275 rfl ?_
                refine z_ldc2 (M := M_X9_readNumber) (n := 1000000000) dX9_readNumber_277 t_936 (by decide +kernel) ?_
                refine z_lcmp (M := M_X9_readNumber) dX9_readNumber_280 ?_
                rcases if_e H with ⟨h_126, H⟩ | ⟨h_126, H⟩
                · refine z_lif_le_f (M := M_X9_readNumber) (tgt := 290) dX9_readNumber_281 (by decide) rfl (by decide +kernel) h_126 ?_
                  refine z_aload_n (M := M_X9_readNumber) dX9_readNumber_284 rfl ?_
                  refine z_iconst (M := M_X9_readNumber) dX9_readNumber_285 ?_
                  obtain ⟨⟨x_129, σ_128⟩, hc_127, H⟩ := bd_e H
                  refine z_callV (M := M_X9_readNumber) (M' := M_X9_fail) (as := [vi 5]) (rest := []) rfl rfl dX9_readNumber_286 m_X9_fail t_797 t_799 s_7 (c_X9_fail hl  hc_127) rfl rfl ly_167 rfl (Nat.le_of_ble_eq_true rfl) (Nat.le_of_ble_eq_true rfl) (Nat.le_of_ble_eq_true rfl) (Nat.le_of_ble_eq_true rfl) ?_
                  refine z_st (st' := [zv x_129]) rfl ?_
                  cases H
                  exact z_zret (M := M_X9_readNumber) dX9_readNumber_289 rfl (Nat.le_of_ble_eq_true rfl) (Nat.le_of_ble_eq_true rfl) ⟨rfl, rfl⟩
                · refine z_lif_le_t (M := M_X9_readNumber) (tgt := 290) dX9_readNumber_281 (by decide) rfl (by decide +kernel) (Int.not_lt.mp h_126) ?_
                  refine z_aload_n (M := M_X9_readNumber) dX9_readNumber_290 rfl ?_
                  have J_130 : YY l E M_X9_readNumber 3 0 0 (pS (some (zv r)) σ') 305 [some (vr 167), some (vi x_4), some (vi x_7), some (vi x_9), some (vi i_116), some (vi fraction_22), some (zv good_117), some (vi exponent_118), some (vi x_120), some (vl x_125), none] [vl (if (w32 x_4) = 45 then (-x_125) else x_125), vr 167] σ_2 0 0 := by
                    refine z_l2i (M := M_X9_readNumber) dX9_readNumber_305 ?_
                    obtain ⟨σ_131, σ_131_e, H⟩ := wf_e H
                    refine z_putI (M := M_X9_readNumber) (ci := 12) (C := RX9) (T := TX9) (Nf := 12) (ty := tyX9) cl12 dX9_readNumber_306 ly_167 9 (by decide) t_114 rfl rfl rfl rfl σ_131_e ?_
                    refine z_aload_n (M := M_X9_readNumber) dX9_readNumber_309 rfl ?_
                    refine z_iload (M := M_X9_readNumber) dX9_readNumber_310 rfl ?_
                    obtain ⟨σ_132, σ_132_e, H⟩ := wf_e H
                    refine z_putI (M := M_X9_readNumber) (ci := 12) (C := RX9) (T := TX9) (Nf := 12) (ty := tyX9) cl12 dX9_readNumber_312 ly_167 6 (by decide) t_111 rfl rfl rfl rfl σ_132_e ?_
                    refine z_zconst (M := M_X9_readNumber) (b := true) dX9_readNumber_315 rfl ?_
                    cases H
                    exact z_zret (M := M_X9_readNumber) dX9_readNumber_316 rfl (Nat.le_of_ble_eq_true rfl) (Nat.le_of_ble_eq_true rfl) ⟨rfl, rfl⟩
                  refine z_iload_n (M := M_X9_readNumber) dX9_readNumber_291 rfl ?_
                  refine z_bipush (M := M_X9_readNumber) dX9_readNumber_292 (by decide +kernel) ?_
                  by_cases h_133 : (w32 x_4) = 45
                  · refine z_icmp_ne_f (M := M_X9_readNumber) (tgt := 303) dX9_readNumber_294 (by decide) rfl (by decide +kernel) h_133 ?_
                    refine z_lload (M := M_X9_readNumber) dX9_readNumber_297 rfl ?_
                    refine z_lneg (M := M_X9_readNumber) dX9_readNumber_299 ?_
                    refine z_goto (M := M_X9_readNumber) (tgt := 305) dX9_readNumber_300 (by decide) ?_
                    exact z_st (by rw [if_pos (c := (w32 x_4) = 45) h_133]) J_130
                  · refine z_icmp_ne_t (M := M_X9_readNumber) (tgt := 303) dX9_readNumber_294 (by decide) rfl (by decide +kernel) h_133 ?_
                    refine z_lload (M := M_X9_readNumber) dX9_readNumber_303 rfl ?_
                    exact z_st (by rw [if_neg (c := (w32 x_4) = 45) h_133]) J_130
              refine z_zload (M := M_X9_readNumber) dX9_readNumber_231 rfl ?_
              by_cases h_140 : good_117 = true
              · refine z_zeq_f (M := M_X9_readNumber) (tgt := 252) dX9_readNumber_233 (by decide) h_140 ?_
                refine z_iload (M := M_X9_readNumber) dX9_readNumber_236 rfl ?_
                refine z_callS (M := M_X9_readNumber) (M' := M_X9_beginsNumber) (as := [vi x_120]) (rest := []) rfl rfl dX9_readNumber_238 m_X9_beginsNumber t_794 t_795 (c_X9_beginsNumber hl  rfl) rfl rfl (Nat.le_of_ble_eq_true rfl) (Nat.le_of_ble_eq_true rfl) (Nat.le_of_ble_eq_true rfl) (Nat.le_of_ble_eq_true rfl) ?_
                refine z_st (st' := [zv (fW_beginsNumber x_120)]) rfl ?_
                by_cases h_141 : (fW_beginsNumber x_120) = true
                · refine z_zne_t (M := M_X9_readNumber) (tgt := 252) dX9_readNumber_241 (by decide) h_141 ?_
                  exact absurd (Or.inl (Or.inr h_141)) h_134
                · refine z_zne_f (M := M_X9_readNumber) (tgt := 252) dX9_readNumber_241 (by decide) h_141 ?_
                  refine z_iload (M := M_X9_readNumber) dX9_readNumber_244 rfl ?_
                  refine z_callS (M := M_X9_readNumber) (M' := M_X9_isLetter) (as := [vi x_120]) (rest := []) rfl rfl dX9_readNumber_246 m_X9_isLetter t_787 t_788 (c_X9_isLetter hl  rfl) rfl rfl (Nat.le_of_ble_eq_true rfl) (Nat.le_of_ble_eq_true rfl) (Nat.le_of_ble_eq_true rfl) (Nat.le_of_ble_eq_true rfl) ?_
                  refine z_st (st' := [zv (fW_isLetter x_120)]) rfl ?_
                  by_cases h_142 : (fW_isLetter x_120) = true
                  · refine z_zeq_f (M := M_X9_readNumber) (tgt := 258) dX9_readNumber_249 (by decide) h_142 ?_
                    exact absurd (Or.inr h_142) h_134
                  · refine z_zeq_t (M := M_X9_readNumber) (tgt := 258) dX9_readNumber_249 (by decide) h_142 ?_
                    exact J_136
              · refine z_zeq_t (M := M_X9_readNumber) (tgt := 252) dX9_readNumber_233 (by decide) h_140 ?_
                exact absurd (Or.inl (Or.inl h_140)) h_134
          have H := he_24
          obtain ⟨v_111, he_112, hk_113⟩ := bd_e H
          have J_114 : v_111 = true → YY l E M_X9_readNumber 3 0 0 (pS (some (zv r)) σ') 134 [some (vr 167), some (vi x_4), some (vi x_7), some (vi x_9), some (vi i_21), some (vi fraction_22), some (zv (decide (0 < (w32 (x_9 + fraction_22))))), some (vi 0), none, none, none] [] σ_2 0 0 := by
            intro e
            have H := hk_113
            rw [e] at H
            rcases if_e H with ⟨_, H⟩ | ⟨q, H⟩
            · obtain ⟨v_106, he_107, hk_108⟩ := bd_e H
              have J_109 : ∀ x_86, v_106 = x_86 → YY l E M_X9_readNumber 3 0 0 (pS (some (zv r)) σ') 159 [some (vr 167), some (vi x_4), some (vi x_7), some (vi x_9), some (vi i_21), some (vi fraction_22), some (zv (decide (0 < (w32 (x_9 + fraction_22))))), some (vi 0), none, none, none] [vi x_86] σ_2 0 0 := by
                intro x_86 e
                have H := hk_108
                rw [e] at H
                refine z_istore (M := M_X9_readNumber) (lv' := [some (vr 167), some (vi x_4), some (vi x_7), some (vi x_9), some (vi i_21), some (vi fraction_22), some (zv (decide (0 < (w32 (x_9 + fraction_22))))), some (vi 0), some (vi x_86), none, none]) dX9_readNumber_159 (Nat.le_of_ble_eq_true rfl) rfl rfl ?_
                refine z_aload_n (M := M_X9_readNumber) dX9_readNumber_161 rfl ?_
                refine z_iload (M := M_X9_readNumber) dX9_readNumber_162 rfl ?_
                obtain ⟨x_88, hc_87, H⟩ := bd_e H
                refine z_callV (M := M_X9_readNumber) (M' := M_X9_digitsFrom) (as := [vi x_86]) (rest := []) rfl rfl dX9_readNumber_164 m_X9_digitsFrom t_915 t_917 s_18 (c_X9_digitsFrom hl  hc_87) rfl rfl ly_167 rfl (Nat.le_of_ble_eq_true rfl) (Nat.le_of_ble_eq_true rfl) (Nat.le_of_ble_eq_true rfl) (Nat.le_of_ble_eq_true rfl) ?_
                refine z_st (st' := [vi x_88]) rfl ?_
                refine z_istore (M := M_X9_readNumber) (lv' := [some (vr 167), some (vi x_4), some (vi x_7), some (vi x_9), some (vi i_21), some (vi fraction_22), some (zv (decide (0 < (w32 (x_9 + fraction_22))))), some (vi 0), some (vi x_86), some (vi x_88), none]) dX9_readNumber_167 (Nat.le_of_ble_eq_true rfl) rfl rfl ?_
                have J_89 : YY l E M_X9_readNumber 3 0 0 (pS (some (zv r)) σ') 179 [some (vr 167), some (vi x_4), some (vi x_7), some (vi x_9), some (vi i_21), some (vi fraction_22), some (zv (decide (0 < (w32 (x_9 + fraction_22))))), some (vi 0), some (vi x_86), some (vi x_88), none] [zv (decide (0 < (w32 x_88)))] σ_2 0 0 := by
                  refine z_zstore (M := M_X9_readNumber) (lv' := [some (vr 167), some (vi x_4), some (vi x_7), some (vi x_9), some (vi i_21), some (vi fraction_22), some (zv (decide (0 < (w32 x_88)))), some (vi 0), some (vi x_86), some (vi x_88), none]) dX9_readNumber_179 (Nat.le_of_ble_eq_true rfl) rfl rfl ?_
                  obtain ⟨v_101, he_102, hk_103⟩ := bd_e H
                  have J_104 : ∀ x_99, v_101 = x_99 → YY l E M_X9_readNumber 3 0 0 (pS (some (zv r)) σ') 214 [some (vr 167), some (vi x_4), some (vi x_7), some (vi x_9), some (vi i_21), some (vi fraction_22), some (zv (decide (0 < (w32 x_88)))), some (vi 0), some (vi x_86), some (vi x_88), none] [vi x_99] σ_2 0 0 := by
                    intro x_99 e
                    have H := hk_103
                    rw [e] at H
                    refine z_istore (M := M_X9_readNumber) (lv' := [some (vr 167), some (vi x_4), some (vi x_7), some (vi x_9), some (vi i_21), some (vi fraction_22), some (zv (decide (0 < (w32 x_88)))), some (vi x_99), some (vi x_86), some (vi x_88), none]) dX9_readNumber_214 (Nat.le_of_ble_eq_true rfl) rfl rfl ?_
                    refine z_iload (M := M_X9_readNumber) dX9_readNumber_216 rfl ?_
                    refine z_iload (M := M_X9_readNumber) dX9_readNumber_218 rfl ?_
                    refine z_iadd (M := M_X9_readNumber) dX9_readNumber_220 ?_
                    refine z_istore (M := M_X9_readNumber) (lv' := [some (vr 167), some (vi x_4), some (vi x_7), some (vi x_9), some (vi (x_86 + x_88)), some (vi fraction_22), some (zv (decide (0 < (w32 x_88)))), some (vi x_99), some (vi x_86), some (vi x_88), none]) dX9_readNumber_221 (Nat.le_of_ble_eq_true rfl) rfl rfl ?_
                    refine z_le (lv' := [some (vr 167), some (vi x_4), some (vi x_7), some (vi x_9), some (vi (x_86 + x_88)), some (vi fraction_22), some (zv (decide (0 < (w32 x_88)))), some (vi x_99), none, none, none]) ⟨Or.inr rfl, Or.inr rfl, Or.inr rfl, Or.inr rfl, Or.inr rfl, Or.inr rfl, Or.inr rfl, Or.inr rfl, Or.inl rfl, Or.inl rfl, Or.inl rfl, trivial⟩ ?_
                    exact J_143 _ _ _ (Option.some.inj H).symm
                  have H := he_102
                  refine z_aload_n (M := M_X9_readNumber) dX9_readNumber_181 rfl ?_
                  refine z_iload (M := M_X9_readNumber) dX9_readNumber_182 rfl ?_
                  refine z_iconst (M := M_X9_readNumber) dX9_readNumber_184 ?_
                  refine z_iadd (M := M_X9_readNumber) dX9_readNumber_185 ?_
                  obtain ⟨x_91, hc_90, H⟩ := bd_e H
                  refine z_callV (M := M_X9_readNumber) (M' := M_X9_signAt) (as := [vi (i_21 + 1)]) (rest := []) rfl rfl dX9_readNumber_186 m_X9_signAt t_783 t_785 s_5 (c_X9_signAt hl  hc_90) rfl rfl ly_167 rfl (Nat.le_of_ble_eq_true rfl) (Nat.le_of_ble_eq_true rfl) (Nat.le_of_ble_eq_true rfl) (Nat.le_of_ble_eq_true rfl) ?_
                  refine z_st (st' := [vi x_91]) rfl ?_
                  refine z_bipush (M := M_X9_readNumber) dX9_readNumber_189 (by decide +kernel) ?_
                  rcases if_e H with ⟨h_92, H⟩ | ⟨h_92, H⟩
                  · refine z_icmp_ne_f (M := M_X9_readNumber) (tgt := 206) dX9_readNumber_191 (by decide) rfl (by decide +kernel) h_92 ?_
                    refine z_aload_n (M := M_X9_readNumber) dX9_readNumber_194 rfl ?_
                    refine z_iload (M := M_X9_readNumber) dX9_readNumber_195 rfl ?_
                    refine z_iload (M := M_X9_readNumber) dX9_readNumber_197 rfl ?_
                    obtain ⟨x_94, hc_93, H⟩ := bd_e H
                    refine z_callV (M := M_X9_readNumber) (M' := M_X9_exponentFrom) (as := [vi x_86, vi x_88]) (rest := []) rfl rfl dX9_readNumber_199 m_X9_exponentFrom t_922 t_924 s_19 (c_X9_exponentFrom hl  hc_93) rfl rfl ly_167 rfl (Nat.le_of_ble_eq_true rfl) (Nat.le_of_ble_eq_true rfl) (Nat.le_of_ble_eq_true rfl) (Nat.le_of_ble_eq_true rfl) ?_
                    refine z_st (st' := [vi x_94]) rfl ?_
                    refine z_ineg (M := M_X9_readNumber) dX9_readNumber_202 ?_
                    refine z_goto (M := M_X9_readNumber) (tgt := 214) dX9_readNumber_203 (by decide) ?_
                    exact J_104 _ (Option.some.inj H).symm
                  · refine z_icmp_ne_t (M := M_X9_readNumber) (tgt := 206) dX9_readNumber_191 (by decide) rfl (by decide +kernel) h_92 ?_
                    refine z_aload_n (M := M_X9_readNumber) dX9_readNumber_206 rfl ?_
                    refine z_iload (M := M_X9_readNumber) dX9_readNumber_207 rfl ?_
                    refine z_iload (M := M_X9_readNumber) dX9_readNumber_209 rfl ?_
                    obtain ⟨x_97, hc_96, H⟩ := bd_e H
                    refine z_callV (M := M_X9_readNumber) (M' := M_X9_exponentFrom) (as := [vi x_86, vi x_88]) (rest := []) rfl rfl dX9_readNumber_211 m_X9_exponentFrom t_922 t_924 s_19 (c_X9_exponentFrom hl  hc_96) rfl rfl ly_167 rfl (Nat.le_of_ble_eq_true rfl) (Nat.le_of_ble_eq_true rfl) (Nat.le_of_ble_eq_true rfl) (Nat.le_of_ble_eq_true rfl) ?_
                    refine z_st (st' := [vi x_97]) rfl ?_
                    exact J_104 _ (Option.some.inj H).symm
                refine z_iload (M := M_X9_readNumber) dX9_readNumber_169 rfl ?_
                by_cases h_105 : 0 < (w32 x_88)
                · refine z_if_le_f (M := M_X9_readNumber) (tgt := 178) dX9_readNumber_171 (by decide) rfl h_105 ?_
                  refine z_iconst (M := M_X9_readNumber) dX9_readNumber_174 ?_
                  refine z_goto (M := M_X9_readNumber) (tgt := 179) dX9_readNumber_175 (by decide) ?_
                  exact z_st (by rw [zv_t (p := 0 < (w32 x_88)) h_105]) J_89
                · refine z_if_le_t (M := M_X9_readNumber) (tgt := 178) dX9_readNumber_171 (by decide) rfl (Int.not_lt.mp h_105) ?_
                  refine z_iconst (M := M_X9_readNumber) dX9_readNumber_178 ?_
                  exact z_st (by rw [zv_f (p := 0 < (w32 x_88)) h_105]) J_89
              have H := he_107
              refine z_aload_n (M := M_X9_readNumber) dX9_readNumber_134 rfl ?_
              refine z_iload (M := M_X9_readNumber) dX9_readNumber_135 rfl ?_
              refine z_iconst (M := M_X9_readNumber) dX9_readNumber_137 ?_
              refine z_iadd (M := M_X9_readNumber) dX9_readNumber_138 ?_
              obtain ⟨x_82, hc_81, H⟩ := bd_e H
              refine z_callV (M := M_X9_readNumber) (M' := M_X9_signAt) (as := [vi (i_21 + 1)]) (rest := []) rfl rfl dX9_readNumber_139 m_X9_signAt t_783 t_785 s_5 (c_X9_signAt hl  hc_81) rfl rfl ly_167 rfl (Nat.le_of_ble_eq_true rfl) (Nat.le_of_ble_eq_true rfl) (Nat.le_of_ble_eq_true rfl) (Nat.le_of_ble_eq_true rfl) ?_
              refine z_st (st' := [vi x_82]) rfl ?_
              refine z_callS (M := M_X9_readNumber) (M' := M_X9_isSign) (as := [vi x_82]) (rest := []) rfl rfl dX9_readNumber_142 m_X9_isSign t_912 t_913 (c_X9_isSign hl  rfl) rfl rfl (Nat.le_of_ble_eq_true rfl) (Nat.le_of_ble_eq_true rfl) (Nat.le_of_ble_eq_true rfl) (Nat.le_of_ble_eq_true rfl) ?_
              refine z_st (st' := [zv (fW_isSign x_82)]) rfl ?_
              rcases if_e H with ⟨h_83, H⟩ | ⟨h_83, H⟩
              · refine z_zeq_f (M := M_X9_readNumber) (tgt := 155) dX9_readNumber_145 (by decide) h_83 ?_
                refine z_iload (M := M_X9_readNumber) dX9_readNumber_148 rfl ?_
                refine z_iconst (M := M_X9_readNumber) dX9_readNumber_150 ?_
                refine z_iadd (M := M_X9_readNumber) dX9_readNumber_151 ?_
                refine z_goto (M := M_X9_readNumber) (tgt := 159) dX9_readNumber_152 (by decide) ?_
                exact J_109 _ (Option.some.inj H).symm
              · refine z_zeq_t (M := M_X9_readNumber) (tgt := 155) dX9_readNumber_145 (by decide) h_83 ?_
                refine z_iload (M := M_X9_readNumber) dX9_readNumber_155 rfl ?_
                refine z_iconst (M := M_X9_readNumber) dX9_readNumber_157 ?_
                refine z_iadd (M := M_X9_readNumber) dX9_readNumber_158 ?_
                exact J_109 _ (Option.some.inj H).symm
            · exact absurd rfl q
          have J_115 : v_111 = false → YY l E M_X9_readNumber 3 0 0 (pS (some (zv r)) σ') 223 [some (vr 167), some (vi x_4), some (vi x_7), some (vi x_9), some (vi i_21), some (vi fraction_22), some (zv (decide (0 < (w32 (x_9 + fraction_22))))), some (vi 0), none, none, none] [] σ_2 0 0 := by
            intro e
            have H := hk_113
            rw [e] at H
            rcases if_e H with ⟨q, H⟩ | ⟨_, H⟩
            · exact nomatch q
            · exact J_143 _ _ _ (Option.some.inj H).symm
          have H := he_112
          refine z_zload (M := M_X9_readNumber) dX9_readNumber_107 rfl ?_
          rcases if_e H with ⟨h_69, H⟩ | ⟨h_69, H⟩
          · refine z_zeq_f (M := M_X9_readNumber) (tgt := 223) dX9_readNumber_109 (by decide) h_69 ?_
            refine z_aload_n (M := M_X9_readNumber) dX9_readNumber_112 rfl ?_
            refine z_iload (M := M_X9_readNumber) dX9_readNumber_113 rfl ?_
            obtain ⟨x_71, hc_70, H⟩ := bd_e H
            refine z_callV (M := M_X9_readNumber) (M' := M_X9_signAt) (as := [vi i_21]) (rest := []) rfl rfl dX9_readNumber_115 m_X9_signAt t_783 t_785 s_5 (c_X9_signAt hl  hc_70) rfl rfl ly_167 rfl (Nat.le_of_ble_eq_true rfl) (Nat.le_of_ble_eq_true rfl) (Nat.le_of_ble_eq_true rfl) (Nat.le_of_ble_eq_true rfl) ?_
            refine z_st (st' := [vi x_71]) rfl ?_
            refine z_bipush (M := M_X9_readNumber) dX9_readNumber_118 (by decide +kernel) ?_
            rcases if_e H with ⟨h_72, H⟩ | ⟨h_72, H⟩
            · refine z_icmp_eq_t (M := M_X9_readNumber) (tgt := 134) dX9_readNumber_120 (by decide) rfl (by decide +kernel) h_72 ?_
              exact J_114 (Option.some.inj H).symm
            · refine z_icmp_eq_f (M := M_X9_readNumber) (tgt := 134) dX9_readNumber_120 (by decide) rfl (by decide +kernel) h_72 ?_
              refine z_aload_n (M := M_X9_readNumber) dX9_readNumber_123 rfl ?_
              refine z_iload (M := M_X9_readNumber) dX9_readNumber_124 rfl ?_
              obtain ⟨x_75, hc_74, H⟩ := bd_e H
              refine z_callV (M := M_X9_readNumber) (M' := M_X9_signAt) (as := [vi i_21]) (rest := []) rfl rfl dX9_readNumber_126 m_X9_signAt t_783 t_785 s_5 (c_X9_signAt hl  hc_74) rfl rfl ly_167 rfl (Nat.le_of_ble_eq_true rfl) (Nat.le_of_ble_eq_true rfl) (Nat.le_of_ble_eq_true rfl) (Nat.le_of_ble_eq_true rfl) ?_
              refine z_st (st' := [vi x_75]) rfl ?_
              refine z_bipush (M := M_X9_readNumber) dX9_readNumber_129 (by decide +kernel) ?_
              rcases if_e H with ⟨h_76, H⟩ | ⟨h_76, H⟩
              · refine z_icmp_ne_f (M := M_X9_readNumber) (tgt := 223) dX9_readNumber_131 (by decide) rfl (by decide +kernel) h_76 ?_
                exact J_114 (Option.some.inj H).symm
              · refine z_icmp_ne_t (M := M_X9_readNumber) (tgt := 223) dX9_readNumber_131 (by decide) rfl (by decide +kernel) h_76 ?_
                exact J_115 (Option.some.inj H).symm
          · refine z_zeq_t (M := M_X9_readNumber) (tgt := 223) dX9_readNumber_109 (by decide) h_69 ?_
            exact J_115 (Option.some.inj H).symm
        refine z_iload_n (M := M_X9_readNumber) dX9_readNumber_90 rfl ?_
        refine z_iload (M := M_X9_readNumber) dX9_readNumber_91 rfl ?_
        refine z_iadd (M := M_X9_readNumber) dX9_readNumber_93 ?_
        by_cases h_144 : 0 < (w32 (x_9 + fraction_22))
        · refine z_if_le_f (M := M_X9_readNumber) (tgt := 101) dX9_readNumber_94 (by decide) rfl h_144 ?_
          refine z_iconst (M := M_X9_readNumber) dX9_readNumber_97 ?_
          refine z_goto (M := M_X9_readNumber) (tgt := 102) dX9_readNumber_98 (by decide) ?_
          exact z_st (by rw [zv_t (p := 0 < (w32 (x_9 + fraction_22))) h_144]) J_23
        · refine z_if_le_t (M := M_X9_readNumber) (tgt := 101) dX9_readNumber_94 (by decide) rfl (Int.not_lt.mp h_144) ?_
          refine z_iconst (M := M_X9_readNumber) dX9_readNumber_101 ?_
          exact z_st (by rw [zv_f (p := 0 < (w32 (x_9 + fraction_22))) h_144]) J_23
      have H := he_10
      refine z_aload_n (M := M_X9_readNumber) dX9_readNumber_60 rfl ?_
      refine z_iload (M := M_X9_readNumber) dX9_readNumber_61 rfl ?_
      obtain ⟨x_15, hc_14, H⟩ := bd_e H
      refine z_callV (M := M_X9_readNumber) (M' := M_X9_signAt) (as := [vi (x_7 + x_9)]) (rest := []) rfl rfl dX9_readNumber_63 m_X9_signAt t_783 t_785 s_5 (c_X9_signAt hl  hc_14) rfl rfl ly_167 rfl (Nat.le_of_ble_eq_true rfl) (Nat.le_of_ble_eq_true rfl) (Nat.le_of_ble_eq_true rfl) (Nat.le_of_ble_eq_true rfl) ?_
      refine z_st (st' := [vi x_15]) rfl ?_
      refine z_bipush (M := M_X9_readNumber) dX9_readNumber_66 (by decide +kernel) ?_
      rcases if_e H with ⟨h_16, H⟩ | ⟨h_16, H⟩
      · refine z_icmp_ne_f (M := M_X9_readNumber) (tgt := 90) dX9_readNumber_68 (by decide) rfl (by decide +kernel) h_16 ?_
        refine z_aload_n (M := M_X9_readNumber) dX9_readNumber_71 rfl ?_
        refine z_iload (M := M_X9_readNumber) dX9_readNumber_72 rfl ?_
        refine z_iconst (M := M_X9_readNumber) dX9_readNumber_74 ?_
        refine z_iadd (M := M_X9_readNumber) dX9_readNumber_75 ?_
        obtain ⟨x_18, hc_17, H⟩ := bd_e H
        refine z_callV (M := M_X9_readNumber) (M' := M_X9_digitsFrom) (as := [vi ((x_7 + x_9) + 1)]) (rest := []) rfl rfl dX9_readNumber_76 m_X9_digitsFrom t_915 t_917 s_18 (c_X9_digitsFrom hl  hc_17) rfl rfl ly_167 rfl (Nat.le_of_ble_eq_true rfl) (Nat.le_of_ble_eq_true rfl) (Nat.le_of_ble_eq_true rfl) (Nat.le_of_ble_eq_true rfl) ?_
        refine z_st (st' := [vi x_18]) rfl ?_
        refine z_istore (M := M_X9_readNumber) (lv' := [some (vr 167), some (vi x_4), some (vi x_7), some (vi x_9), some (vi (x_7 + x_9)), some (vi x_18), none, none, none, none, none]) dX9_readNumber_79 (Nat.le_of_ble_eq_true rfl) rfl rfl ?_
        refine z_iload (M := M_X9_readNumber) dX9_readNumber_81 rfl ?_
        refine z_iconst (M := M_X9_readNumber) dX9_readNumber_83 ?_
        refine z_iload (M := M_X9_readNumber) dX9_readNumber_84 rfl ?_
        refine z_iadd (M := M_X9_readNumber) dX9_readNumber_86 ?_
        refine z_iadd (M := M_X9_readNumber) dX9_readNumber_87 ?_
        refine z_istore (M := M_X9_readNumber) (lv' := [some (vr 167), some (vi x_4), some (vi x_7), some (vi x_9), some (vi ((x_7 + x_9) + (1 + x_18))), some (vi x_18), none, none, none, none, none]) dX9_readNumber_88 (Nat.le_of_ble_eq_true rfl) rfl rfl ?_
        exact J_145 _ _ (Option.some.inj H).symm
      · refine z_icmp_ne_t (M := M_X9_readNumber) (tgt := 90) dX9_readNumber_68 (by decide) rfl (by decide +kernel) h_16 ?_
        exact J_145 _ _ (Option.some.inj H).symm
    refine z_iload_n (M := M_X9_readNumber) dX9_readNumber_25 rfl ?_
    refine z_callS (M := M_X9_readNumber) (M' := M_X9_isSign) (as := [vi x_4]) (rest := []) rfl rfl dX9_readNumber_26 m_X9_isSign t_912 t_913 (c_X9_isSign hl  rfl) rfl rfl (Nat.le_of_ble_eq_true rfl) (Nat.le_of_ble_eq_true rfl) (Nat.le_of_ble_eq_true rfl) (Nat.le_of_ble_eq_true rfl) ?_
    refine z_st (st' := [zv (fW_isSign x_4)]) rfl ?_
    by_cases h_146 : (fW_isSign x_4) = true
    · refine z_zeq_f (M := M_X9_readNumber) (tgt := 41) dX9_readNumber_29 (by decide) h_146 ?_
      refine z_aload_n (M := M_X9_readNumber) dX9_readNumber_32 rfl ?_
      refine z_getI (M := M_X9_readNumber) (ci := 12) (C := RX9) (T := TX9) (Nf := 12) (ty := tyX9) cl12 dX9_readNumber_33 ly_167 6 (by decide) t_111 rfl rfl ?_
      refine z_iconst (M := M_X9_readNumber) dX9_readNumber_36 ?_
      refine z_iadd (M := M_X9_readNumber) dX9_readNumber_37 ?_
      refine z_goto (M := M_X9_readNumber) (tgt := 45) dX9_readNumber_38 (by decide) ?_
      exact z_st (by rw [if_pos (c := (fW_isSign x_4) = true) h_146]) J_6
    · refine z_zeq_t (M := M_X9_readNumber) (tgt := 41) dX9_readNumber_29 (by decide) h_146 ?_
      refine z_aload_n (M := M_X9_readNumber) dX9_readNumber_41 rfl ?_
      refine z_getI (M := M_X9_readNumber) (ci := 12) (C := RX9) (T := TX9) (Nf := 12) (ty := tyX9) cl12 dX9_readNumber_42 ly_167 6 (by decide) t_111 rfl rfl ?_
      exact z_st (by rw [if_neg (c := (fW_isSign x_4) = true) h_146]) J_6
  · refine z_zne_f (M := M_X9_readNumber) (tgt := 25) dX9_readNumber_17 (by decide) h_5 ?_
    refine z_aload_n (M := M_X9_readNumber) dX9_readNumber_20 rfl ?_
    obtain ⟨⟨x_149, σ_148⟩, hc_147, H⟩ := bd_e H
    refine z_callV (M := M_X9_readNumber) (M' := M_X9_unexpected) (as := []) (rest := []) rfl rfl dX9_readNumber_21 m_X9_unexpected t_790 t_792 s_6 (c_X9_unexpected hl  hc_147) rfl rfl ly_167 rfl (Nat.le_of_ble_eq_true rfl) (Nat.le_of_ble_eq_true rfl) (Nat.le_of_ble_eq_true rfl) (Nat.le_of_ble_eq_true rfl) ?_
    refine z_st (st' := [zv x_149]) rfl ?_
    cases H
    exact z_zret (M := M_X9_readNumber) dX9_readNumber_24 rfl (Nat.le_of_ble_eq_true rfl) (Nat.le_of_ble_eq_true rfl) ⟨rfl, rfl⟩
theorem c_X9_readCoordinate (hl : l.stackTraces = false) {σ : SG} {r : Bool} {σ' : SG}  (H : fW_readCoordinate σ = some (r, σ')) : en_S l E M_X9_readCoordinate 4 0 0 [vr 167] σ (pS (some (zv r)) σ') := by
  unfold fW_readCoordinate at H
  refine z_mk (lv := [some (vr 167), none]) m_X9_readCoordinate rfl hl (Nat.le_of_ble_eq_true rfl) rfl ?_
  refine z_aload_n (M := M_X9_readCoordinate) dX9_readCoordinate_0 rfl ?_
  obtain ⟨σ_2, hc_1, H⟩ := bd_e H
  refine z_callV (M := M_X9_readCoordinate) (M' := M_X9_skipBlanks) (as := []) (rest := []) rfl rfl dX9_readCoordinate_1 m_X9_skipBlanks t_776 t_778 s_4 (c_X9_skipBlanks hl  hc_1) rfl rfl ly_167 rfl (Nat.le_of_ble_eq_true rfl) (Nat.le_of_ble_eq_true rfl) (Nat.le_of_ble_eq_true rfl) (Nat.le_of_ble_eq_true rfl) ?_
  refine z_st (st' := []) rfl ?_
  refine z_aload_n (M := M_X9_readCoordinate) dX9_readCoordinate_4 rfl ?_
  obtain ⟨hs_3, H⟩ := ck_e H
  refine z_getV (M := M_X9_readCoordinate) (ci := 12) (C := RX9) (T := TX9) (Nf := 12) (ty := tyX9) cl12 dX9_readCoordinate_5 ly_167 4 (by decide) t_109 rfl rfl ?_
  refine z_callV (M := M_X9_readCoordinate) (M' := M_X6_hasRoomForPoint) (as := []) (rest := []) rfl rfl dX9_readCoordinate_8 m_X6_hasRoomForPoint t_904 t_905 t_906 (c_X6_hasRoomForPoint hl hs_3 rfl) rfl rfl (ly_S hs_3) rfl (Nat.le_of_ble_eq_true rfl) (Nat.le_of_ble_eq_true rfl) (Nat.le_of_ble_eq_true rfl) (Nat.le_of_ble_eq_true rfl) ?_
  refine z_st (st' := [zv (fA_hasRoomForPoint σ_2 ((σ_2 kW_shape 0).toNat))]) rfl ?_
  rcases if_e H with ⟨h_4, H⟩ | ⟨h_4, H⟩
  · refine z_zne_t (M := M_X9_readCoordinate) (tgt := 21) dX9_readCoordinate_11 (by decide) h_4 ?_
    refine z_aload_n (M := M_X9_readCoordinate) dX9_readCoordinate_21 rfl ?_
    obtain ⟨⟨x_7, σ_6⟩, hc_5, H⟩ := bd_e H
    refine z_callV (M := M_X9_readCoordinate) (M' := M_X9_readNumber) (as := []) (rest := []) rfl rfl dX9_readCoordinate_22 m_X9_readNumber t_908 t_910 s_17 (c_X9_readNumber hl  hc_5) rfl rfl ly_167 rfl (Nat.le_of_ble_eq_true rfl) (Nat.le_of_ble_eq_true rfl) (Nat.le_of_ble_eq_true rfl) (Nat.le_of_ble_eq_true rfl) ?_
    refine z_st (st' := [zv x_7]) rfl ?_
    rcases if_e H with ⟨h_8, H⟩ | ⟨h_8, H⟩
    · refine z_zne_t (M := M_X9_readCoordinate) (tgt := 30) dX9_readCoordinate_25 (by decide) h_8 ?_
      refine z_aload_n (M := M_X9_readCoordinate) dX9_readCoordinate_30 rfl ?_
      refine z_getI (M := M_X9_readCoordinate) (ci := 12) (C := RX9) (T := TX9) (Nf := 12) (ty := tyX9) cl12 dX9_readCoordinate_31 ly_167 9 (by decide) t_114 rfl rfl ?_
      refine z_istore_n (M := M_X9_readCoordinate) (lv' := [some (vr 167), some (vi (σ_6 kW_number 0))]) dX9_readCoordinate_34 (Nat.le_of_ble_eq_true rfl) rfl rfl ?_
      obtain ⟨v_23, he_24, hk_25⟩ := bd_e H
      have J_26 : ∀ x_21 σ_22, v_23 = (x_21, σ_22) → YY l E M_X9_readCoordinate 4 0 0 (pS (some (zv r)) σ') 62 [some (vr 167), some (vi (σ_6 kW_number 0))] [zv x_21] σ_22 0 0 := by
        intro x_21 σ_22 e
        have H := hk_25
        rw [e] at H
        cases H
        exact z_zret (M := M_X9_readCoordinate) dX9_readCoordinate_62 rfl (Nat.le_of_ble_eq_true rfl) (Nat.le_of_ble_eq_true rfl) ⟨rfl, rfl⟩
      have H := he_24
      refine z_aload_n (M := M_X9_readCoordinate) dX9_readCoordinate_35 rfl ?_
      obtain ⟨⟨x_11, σ_10⟩, hc_9, H⟩ := bd_e H
      refine z_callV (M := M_X9_readCoordinate) (M' := M_X9_readNumber) (as := []) (rest := []) rfl rfl dX9_readCoordinate_36 m_X9_readNumber t_908 t_910 s_17 (c_X9_readNumber hl  hc_9) rfl rfl ly_167 rfl (Nat.le_of_ble_eq_true rfl) (Nat.le_of_ble_eq_true rfl) (Nat.le_of_ble_eq_true rfl) (Nat.le_of_ble_eq_true rfl) ?_
      refine z_st (st' := [zv x_11]) rfl ?_
      rcases if_e H with ⟨h_12, H⟩ | ⟨h_12, H⟩
      · refine z_zeq_f (M := M_X9_readCoordinate) (tgt := 61) dX9_readCoordinate_39 (by decide) h_12 ?_
        refine z_aload_n (M := M_X9_readCoordinate) dX9_readCoordinate_42 rfl ?_
        obtain ⟨hs_13, H⟩ := ck_e H
        refine z_getV (M := M_X9_readCoordinate) (ci := 12) (C := RX9) (T := TX9) (Nf := 12) (ty := tyX9) cl12 dX9_readCoordinate_43 ly_167 4 (by decide) t_109 rfl rfl ?_
        refine z_iload_n (M := M_X9_readCoordinate) dX9_readCoordinate_46 rfl ?_
        refine z_aload_n (M := M_X9_readCoordinate) dX9_readCoordinate_47 rfl ?_
        refine z_getI (M := M_X9_readCoordinate) (ci := 12) (C := RX9) (T := TX9) (Nf := 12) (ty := tyX9) cl12 dX9_readCoordinate_48 ly_167 9 (by decide) t_114 rfl rfl ?_
        obtain ⟨⟨x_16, σ_15⟩, hc_14, H⟩ := bd_e H
        refine z_callV (M := M_X9_readCoordinate) (M' := M_X6_addPoint) (as := [vi (σ_6 kW_number 0), vi (σ_10 kW_number 0)]) (rest := []) rfl rfl dX9_readCoordinate_51 m_X6_addPoint t_937 t_938 t_939 (c_X6_addPoint hl hs_13 hc_14) rfl rfl (ly_S hs_13) rfl (Nat.le_of_ble_eq_true rfl) (Nat.le_of_ble_eq_true rfl) (Nat.le_of_ble_eq_true rfl) (Nat.le_of_ble_eq_true rfl) ?_
        refine z_st (st' := [zv x_16]) rfl ?_
        rcases if_e H with ⟨h_17, H⟩ | ⟨h_17, H⟩
        · refine z_zeq_f (M := M_X9_readCoordinate) (tgt := 61) dX9_readCoordinate_54 (by decide) h_17 ?_
          refine z_zconst (M := M_X9_readCoordinate) (b := true) dX9_readCoordinate_57 rfl ?_
          refine z_goto (M := M_X9_readCoordinate) (tgt := 62) dX9_readCoordinate_58 (by decide) ?_
          exact J_26 _ _ (Option.some.inj H).symm
        · refine z_zeq_t (M := M_X9_readCoordinate) (tgt := 61) dX9_readCoordinate_54 (by decide) h_17 ?_
          refine z_zconst (M := M_X9_readCoordinate) (b := false) dX9_readCoordinate_61 rfl ?_
          exact J_26 _ _ (Option.some.inj H).symm
      · refine z_zeq_t (M := M_X9_readCoordinate) (tgt := 61) dX9_readCoordinate_39 (by decide) h_12 ?_
        refine z_zconst (M := M_X9_readCoordinate) (b := false) dX9_readCoordinate_61 rfl ?_
        exact J_26 _ _ (Option.some.inj H).symm
    · refine z_zne_f (M := M_X9_readCoordinate) (tgt := 30) dX9_readCoordinate_25 (by decide) h_8 ?_
      refine z_zconst (M := M_X9_readCoordinate) (b := false) dX9_readCoordinate_28 rfl ?_
      cases H
      exact z_zret (M := M_X9_readCoordinate) dX9_readCoordinate_29 rfl (Nat.le_of_ble_eq_true rfl) (Nat.le_of_ble_eq_true rfl) ⟨rfl, rfl⟩
  · refine z_zne_f (M := M_X9_readCoordinate) (tgt := 21) dX9_readCoordinate_11 (by decide) h_4 ?_
    refine z_aload_n (M := M_X9_readCoordinate) dX9_readCoordinate_14 rfl ?_
    refine z_bipush (M := M_X9_readCoordinate) dX9_readCoordinate_15 (by decide +kernel) ?_
    obtain ⟨⟨x_29, σ_28⟩, hc_27, H⟩ := bd_e H
    refine z_callV (M := M_X9_readCoordinate) (M' := M_X9_fail) (as := [vi 7]) (rest := []) rfl rfl dX9_readCoordinate_17 m_X9_fail t_797 t_799 s_7 (c_X9_fail hl  hc_27) rfl rfl ly_167 rfl (Nat.le_of_ble_eq_true rfl) (Nat.le_of_ble_eq_true rfl) (Nat.le_of_ble_eq_true rfl) (Nat.le_of_ble_eq_true rfl) ?_
    refine z_st (st' := [zv x_29]) rfl ?_
    cases H
    exact z_zret (M := M_X9_readCoordinate) dX9_readCoordinate_20 rfl (Nat.le_of_ble_eq_true rfl) (Nat.le_of_ble_eq_true rfl) ⟨rfl, rfl⟩
theorem c_X0_isPartLeft (hl : l.stackTraces = false) {σ : SG} {r : Bool} {σ' : SG}  (H : fB_isPartLeft σ = some (r, σ')) : en_S l E M_X0_isPartLeft 1 0 0 [vr 170] σ (pS (some (zv r)) σ') := by
  unfold fB_isPartLeft at H
  refine z_mk (lv := [some (vr 170)]) m_X0_isPartLeft rfl hl (Nat.le_of_ble_eq_true rfl) rfl ?_
  obtain ⟨rl_5, hw_2, hk_3⟩ := bd_e H
  have J_40 : ∀ σ_37, rl_5 = σ_37 → YY l E M_X0_isPartLeft 1 0 0 (pS (some (zv r)) σ') 60 [some (vr 170)] [] σ_37 0 0 := by
    intro σ_37 e
    have H := hk_3
    rw [e] at H
    have J_38 : YY l E M_X0_isPartLeft 1 0 0 (pS (some (zv r)) σ') 72 [some (vr 170)] [zv (decide (0 < (w32 (σ_37 kB_depth 0))))] σ_37 0 0 := by
      cases H
      exact z_zret (M := M_X0_isPartLeft) dX0_isPartLeft_72 rfl (Nat.le_of_ble_eq_true rfl) (Nat.le_of_ble_eq_true rfl) ⟨rfl, rfl⟩
    refine z_aload_n (M := M_X0_isPartLeft) dX0_isPartLeft_60 rfl ?_
    refine z_getI (M := M_X0_isPartLeft) (ci := 3) (C := RX0) (T := TX0) (Nf := 13) (ty := tyX0) cl3 dX0_isPartLeft_61 ly_170 7 (by decide) t_158 rfl rfl ?_
    by_cases h_39 : 0 < (w32 (σ_37 kB_depth 0))
    · refine z_if_le_f (M := M_X0_isPartLeft) (tgt := 71) dX0_isPartLeft_64 (by decide) rfl h_39 ?_
      refine z_iconst (M := M_X0_isPartLeft) dX0_isPartLeft_67 ?_
      refine z_goto (M := M_X0_isPartLeft) (tgt := 72) dX0_isPartLeft_68 (by decide) ?_
      exact z_st (by rw [zv_t (p := 0 < (w32 (σ_37 kB_depth 0))) h_39]) J_38
    · refine z_if_le_t (M := M_X0_isPartLeft) (tgt := 71) dX0_isPartLeft_64 (by decide) rfl (Int.not_lt.mp h_39) ?_
      refine z_iconst (M := M_X0_isPartLeft) dX0_isPartLeft_71 ?_
      exact z_st (by rw [zv_f (p := 0 < (w32 (σ_37 kB_depth 0))) h_39]) J_38
  refine whl_go hw_2 (fun σ_1 => YY l E M_X0_isPartLeft 1 0 0 (pS (some (zv r)) σ') 0 [some (vr 170)] [] σ_1 0 0) ?_
  rintro σ_1 o_6 H K_7 K_8
  refine z_aload_n (M := M_X0_isPartLeft) dX0_isPartLeft_0 rfl ?_
  refine z_getI (M := M_X0_isPartLeft) (ci := 3) (C := RX0) (T := TX0) (Nf := 13) (ty := tyX0) cl3 dX0_isPartLeft_1 ly_170 7 (by decide) t_158 rfl rfl ?_
  rcases if_e H with ⟨h_17, H⟩ | ⟨h_17, H⟩
  · refine z_if_le_f (M := M_X0_isPartLeft) (tgt := 60) dX0_isPartLeft_4 (by decide) rfl h_17 ?_
    refine z_aload_n (M := M_X0_isPartLeft) dX0_isPartLeft_7 rfl ?_
    refine z_getR (M := M_X0_isPartLeft) (ci := 3) (C := RX0) (T := TX0) (Nf := 13) (ty := tyX0) cl3 dX0_isPartLeft_8 ly_170 2 (by decide) t_153 rfl ?_
    refine z_aload_n (M := M_X0_isPartLeft) dX0_isPartLeft_11 rfl ?_
    refine z_getI (M := M_X0_isPartLeft) (ci := 3) (C := RX0) (T := TX0) (Nf := 13) (ty := tyX0) cl3 dX0_isPartLeft_12 ly_170 7 (by decide) t_158 rfl rfl ?_
    refine z_iconst (M := M_X0_isPartLeft) dX0_isPartLeft_15 ?_
    refine z_isub (M := M_X0_isPartLeft) dX0_isPartLeft_16 ?_
    obtain ⟨x_18, x_18_e, hi_19, H⟩ := rd_e H
    refine z_lald (M := M_X0_isPartLeft) dX0_isPartLeft_17 ly_171 rfl rfl rfl hi_19 x_18_e ?_
    refine z_lconst (M := M_X0_isPartLeft) (m := 0) dX0_isPartLeft_18 (by decide +kernel) ?_
    refine z_lcmp (M := M_X0_isPartLeft) dX0_isPartLeft_19 ?_
    rcases if_e H with ⟨h_20, H⟩ | ⟨h_20, H⟩
    · refine z_lif_gt_f (M := M_X0_isPartLeft) (tgt := 60) dX0_isPartLeft_20 (by decide) rfl (by decide +kernel) h_20 ?_
      refine z_aload_n (M := M_X0_isPartLeft) dX0_isPartLeft_23 rfl ?_
      refine z_dup (M := M_X0_isPartLeft) dX0_isPartLeft_24 rfl ?_
      refine z_getI (M := M_X0_isPartLeft) (ci := 3) (C := RX0) (T := TX0) (Nf := 13) (ty := tyX0) cl3 dX0_isPartLeft_25 ly_170 7 (by decide) t_158 rfl rfl ?_
      refine z_iconst (M := M_X0_isPartLeft) dX0_isPartLeft_28 ?_
      refine z_isub (M := M_X0_isPartLeft) dX0_isPartLeft_29 ?_
      obtain ⟨σ_21, σ_21_e, H⟩ := wf_e H
      refine z_putI (M := M_X0_isPartLeft) (ci := 3) (C := RX0) (T := TX0) (Nf := 13) (ty := tyX0) cl3 dX0_isPartLeft_30 ly_170 7 (by decide) t_158 rfl rfl rfl rfl σ_21_e ?_
      obtain ⟨v_25, he_22, hk_23⟩ := bd_e H
      have J_34 : ∀ σ_32, v_25 = σ_32 → YY l E M_X0_isPartLeft 1 0 0 (pS (some (zv r)) σ') 0 [some (vr 170)] [] σ_32 0 0 := by
        intro σ_32 e
        have H := hk_23
        rw [e] at H
        exact K_7 _ (Option.some.inj H).symm
      have H := he_22
      refine z_aload_n (M := M_X0_isPartLeft) dX0_isPartLeft_33 rfl ?_
      refine z_getR (M := M_X0_isPartLeft) (ci := 3) (C := RX0) (T := TX0) (Nf := 13) (ty := tyX0) cl3 dX0_isPartLeft_34 ly_170 3 (by decide) t_154 rfl ?_
      refine z_aload_n (M := M_X0_isPartLeft) dX0_isPartLeft_37 rfl ?_
      refine z_getI (M := M_X0_isPartLeft) (ci := 3) (C := RX0) (T := TX0) (Nf := 13) (ty := tyX0) cl3 dX0_isPartLeft_38 ly_170 7 (by decide) t_158 rfl rfl ?_
      obtain ⟨x_26, x_26_e, hi_27, H⟩ := rd_e H
      refine z_iald (M := M_X0_isPartLeft) dX0_isPartLeft_41 ly_172 rfl rfl rfl hi_27 x_26_e ?_
      refine z_bipush (M := M_X0_isPartLeft) dX0_isPartLeft_42 (by decide +kernel) ?_
      rcases if_e H with ⟨h_28, H⟩ | ⟨h_28, H⟩
      · refine z_icmp_ne_f (M := M_X0_isPartLeft) (tgt := 0) dX0_isPartLeft_44 (by decide) rfl (by decide +kernel) h_28 ?_
        refine z_aload_n (M := M_X0_isPartLeft) dX0_isPartLeft_47 rfl ?_
        refine z_dup (M := M_X0_isPartLeft) dX0_isPartLeft_48 rfl ?_
        refine z_getI (M := M_X0_isPartLeft) (ci := 3) (C := RX0) (T := TX0) (Nf := 13) (ty := tyX0) cl3 dX0_isPartLeft_49 ly_170 8 (by decide) t_159 rfl rfl ?_
        refine z_iconst (M := M_X0_isPartLeft) dX0_isPartLeft_52 ?_
        refine z_isub (M := M_X0_isPartLeft) dX0_isPartLeft_53 ?_
        obtain ⟨σ_29, σ_29_e, H⟩ := wf_e H
        refine z_putI (M := M_X0_isPartLeft) (ci := 3) (C := RX0) (T := TX0) (Nf := 13) (ty := tyX0) cl3 dX0_isPartLeft_54 ly_170 8 (by decide) t_159 rfl rfl rfl rfl σ_29_e ?_
        refine z_goto (M := M_X0_isPartLeft) (tgt := 0) dX0_isPartLeft_57 (by decide) ?_
        exact J_34 _ (Option.some.inj H).symm
      · refine z_icmp_ne_t (M := M_X0_isPartLeft) (tgt := 0) dX0_isPartLeft_44 (by decide) rfl (by decide +kernel) h_28 ?_
        exact J_34 _ (Option.some.inj H).symm
    · refine z_lif_gt_t (M := M_X0_isPartLeft) (tgt := 60) dX0_isPartLeft_20 (by decide) rfl (by decide +kernel) (Int.not_le.mp h_20) ?_
      exact J_40 _ (K_8 _ (Option.some.inj H).symm).symm
  · refine z_if_le_t (M := M_X0_isPartLeft) (tgt := 60) dX0_isPartLeft_4 (by decide) rfl (Int.not_lt.mp h_17) ?_
    exact J_40 _ (K_8 _ (Option.some.inj H).symm).symm
theorem c_X0_fail (hl : l.stackTraces = false) {σ : SG} {code_0 : Int} {r : Bool} {σ' : SG}  (H : fB_fail σ code_0 = some (r, σ')) : en_S l E M_X0_fail 1 0 0 [vr 170, vi code_0] σ (pS (some (zv r)) σ') := by
  unfold fB_fail at H
  refine z_mk (lv := [some (vr 170), some (vi code_0)]) m_X0_fail rfl hl (Nat.le_of_ble_eq_true rfl) rfl ?_
  refine z_aload_n (M := M_X0_fail) dX0_fail_0 rfl ?_
  refine z_iload_n (M := M_X0_fail) dX0_fail_1 rfl ?_
  obtain ⟨σ_1, σ_1_e, H⟩ := wf_e H
  refine z_putI (M := M_X0_fail) (ci := 3) (C := RX0) (T := TX0) (Nf := 13) (ty := tyX0) cl3 dX0_fail_2 ly_170 11 (by decide) t_162 rfl rfl rfl rfl σ_1_e ?_
  refine z_aload_n (M := M_X0_fail) dX0_fail_5 rfl ?_
  refine z_aload_n (M := M_X0_fail) dX0_fail_6 rfl ?_
  refine z_getI (M := M_X0_fail) (ci := 3) (C := RX0) (T := TX0) (Nf := 13) (ty := tyX0) cl3 dX0_fail_7 ly_170 6 (by decide) t_157 rfl rfl ?_
  obtain ⟨σ_2, σ_2_e, H⟩ := wf_e H
  refine z_putI (M := M_X0_fail) (ci := 3) (C := RX0) (T := TX0) (Nf := 13) (ty := tyX0) cl3 dX0_fail_10 ly_170 12 (by decide) t_164 rfl rfl rfl rfl σ_2_e ?_
  refine z_zconst (M := M_X0_fail) (b := false) dX0_fail_13 rfl ?_
  cases H
  exact z_zret (M := M_X0_fail) dX0_fail_14 rfl (Nat.le_of_ble_eq_true rfl) (Nat.le_of_ble_eq_true rfl) ⟨rfl, rfl⟩
theorem c_X0_has (hl : l.stackTraces = false) {σ : SG} {bytes_0 : Int} {r : Bool}  (H : fB_has σ bytes_0 = r) : en_S l E M_X0_has 1 0 0 [vr 170, vi bytes_0] σ (pS (some (zv r)) σ) := by
  unfold fB_has at H
  refine z_mk (lv := [some (vr 170), some (vi bytes_0)]) m_X0_has rfl hl (Nat.le_of_ble_eq_true rfl) rfl ?_
  have J_1 : YY l E M_X0_has 1 0 0 (pS (some (zv r)) σ) 18 [some (vr 170), some (vi bytes_0)] [zv (decide ((w32 bytes_0) ≤ (w32 ((σ kB_length 0) - (σ kB_at 0)))))] σ 0 0 := by
    cases H
    exact z_zret (M := M_X0_has) dX0_has_18 rfl (Nat.le_of_ble_eq_true rfl) (Nat.le_of_ble_eq_true rfl) ⟨rfl, rfl⟩
  refine z_aload_n (M := M_X0_has) dX0_has_0 rfl ?_
  refine z_getI (M := M_X0_has) (ci := 3) (C := RX0) (T := TX0) (Nf := 13) (ty := tyX0) cl3 dX0_has_1 ly_170 5 (by decide) t_156 rfl rfl ?_
  refine z_aload_n (M := M_X0_has) dX0_has_4 rfl ?_
  refine z_getI (M := M_X0_has) (ci := 3) (C := RX0) (T := TX0) (Nf := 13) (ty := tyX0) cl3 dX0_has_5 ly_170 6 (by decide) t_157 rfl rfl ?_
  refine z_isub (M := M_X0_has) dX0_has_8 ?_
  refine z_iload_n (M := M_X0_has) dX0_has_9 rfl ?_
  by_cases h_2 : (w32 bytes_0) ≤ (w32 ((σ kB_length 0) - (σ kB_at 0)))
  · refine z_icmp_lt_f (M := M_X0_has) (tgt := 17) dX0_has_10 (by decide) rfl rfl h_2 ?_
    refine z_iconst (M := M_X0_has) dX0_has_13 ?_
    refine z_goto (M := M_X0_has) (tgt := 18) dX0_has_14 (by decide) ?_
    exact z_st (by rw [zv_t (p := (w32 bytes_0) ≤ (w32 ((σ kB_length 0) - (σ kB_at 0)))) h_2]) J_1
  · refine z_icmp_lt_t (M := M_X0_has) (tgt := 17) dX0_has_10 (by decide) rfl rfl (Int.not_le.mp h_2) ?_
    refine z_iconst (M := M_X0_has) dX0_has_17 ?_
    exact z_st (by rw [zv_f (p := (w32 bytes_0) ≤ (w32 ((σ kB_length 0) - (σ kB_at 0)))) h_2]) J_1
theorem c_X0_numberAt (hl : l.stackTraces = false) {σ : SG} {from_0 : Int} {bytes_0 : Int} {r : Int}  (H : fB_numberAt σ from_0 bytes_0 = some r) : en_S l E M_X0_numberAt 1 0 0 [vr 170, vi from_0, vi bytes_0] σ (pS (some (vl r)) σ) := by
  unfold fB_numberAt at H
  refine z_mk (lv := [some (vr 170), some (vi from_0), some (vi bytes_0), none, none, none, none, none]) m_X0_numberAt rfl hl (Nat.le_of_ble_eq_true rfl) rfl ?_
  refine z_lconst (M := M_X0_numberAt) (m := 0) dX0_numberAt_0 (by decide +kernel) ?_
  refine z_lstore_n (M := M_X0_numberAt) (lv' := [some (vr 170), some (vi from_0), some (vi bytes_0), some (vl 0), none, none, none, none]) dX0_numberAt_1 (Nat.le_of_ble_eq_true rfl) rfl rfl ?_
  refine z_iconst (M := M_X0_numberAt) dX0_numberAt_2 ?_
  refine z_istore (M := M_X0_numberAt) (lv' := [some (vr 170), some (vi from_0), some (vi bytes_0), some (vl 0), none, some (vi 0), none, none]) dX0_numberAt_3 (Nat.le_of_ble_eq_true rfl) rfl rfl ?_
  obtain ⟨rl_6, hw_3, hk_4⟩ := bd_e H
  have J_36 : ∀ value_34 i_35, rl_6 = (value_34, i_35) → YY l E M_X0_numberAt 1 0 0 (pS (some (vl r)) σ) 81 [some (vr 170), some (vi from_0), some (vi bytes_0), some (vl value_34), none, some (vi i_35), none, none] [] σ 0 0 := by
    intro value_34 i_35 e
    have H := hk_4
    rw [e] at H
    refine z_lload_n (M := M_X0_numberAt) dX0_numberAt_81 rfl ?_
    cases H
    exact z_lret (M := M_X0_numberAt) dX0_numberAt_82 rfl (Nat.le_of_ble_eq_true rfl) (Nat.le_of_ble_eq_true rfl) ⟨rfl, rfl⟩
  refine whl_go hw_3 (fun (value_1, i_2) => YY l E M_X0_numberAt 1 0 0 (pS (some (vl r)) σ) 5 [some (vr 170), some (vi from_0), some (vi bytes_0), some (vl value_1), none, some (vi i_2), none, none] [] σ 0 0) ?_
  rintro ⟨value_1, i_2⟩ o_7 H K_8 K_9
  refine z_iload (M := M_X0_numberAt) dX0_numberAt_5 rfl ?_
  refine z_iload_n (M := M_X0_numberAt) dX0_numberAt_7 rfl ?_
  rcases if_e H with ⟨h_10, H⟩ | ⟨h_10, H⟩
  · refine z_icmp_ge_f (M := M_X0_numberAt) (tgt := 81) dX0_numberAt_8 (by decide) rfl rfl h_10 ?_
    have J_11 : YY l E M_X0_numberAt 1 0 0 (pS (some (vl r)) σ) 33 [some (vr 170), some (vi from_0), some (vi bytes_0), some (vl value_1), none, some (vi i_2), none, none] [vi (if (nz (σ kB_lowFirst 0)) = true then (((from_0 + bytes_0) - 1) - i_2) else (from_0 + i_2))] σ 0 0 := by
      obtain ⟨x_12, x_12_e, H⟩ := lt_e H
      refine z_st (congrArg (fun z => vi z :: []) x_12_e) ?_
      refine z_istore (M := M_X0_numberAt) (lv' := [some (vr 170), some (vi from_0), some (vi bytes_0), some (vl value_1), none, some (vi i_2), some (vi x_12), none]) dX0_numberAt_33 (Nat.le_of_ble_eq_true rfl) rfl rfl ?_
      obtain ⟨v_28, he_29, hk_30⟩ := bd_e H
      have J_31 : ∀ x_26, v_28 = x_26 → YY l E M_X0_numberAt 1 0 0 (pS (some (vl r)) σ) 64 [some (vr 170), some (vi from_0), some (vi bytes_0), some (vl value_1), none, some (vi i_2), some (vi x_12), none] [vi x_26] σ 0 0 := by
        intro x_26 e
        have H := hk_30
        rw [e] at H
        refine z_istore (M := M_X0_numberAt) (lv' := [some (vr 170), some (vi from_0), some (vi bytes_0), some (vl value_1), none, some (vi i_2), some (vi x_12), some (vi x_26)]) dX0_numberAt_64 (Nat.le_of_ble_eq_true rfl) rfl rfl ?_
        refine z_lload_n (M := M_X0_numberAt) dX0_numberAt_66 rfl ?_
        refine z_bipush (M := M_X0_numberAt) dX0_numberAt_67 (by decide +kernel) ?_
        refine z_lshl (M := M_X0_numberAt) dX0_numberAt_69 ?_
        refine z_iload (M := M_X0_numberAt) dX0_numberAt_70 rfl ?_
        refine z_i2l (M := M_X0_numberAt) dX0_numberAt_72 ?_
        refine z_lor (M := M_X0_numberAt) dX0_numberAt_73 ?_
        refine z_lstore_n (M := M_X0_numberAt) (lv' := [some (vr 170), some (vi from_0), some (vi bytes_0), some (vl (q_lor (q_lsl value_1 8) (w32 x_26))), none, some (vi i_2), some (vi x_12), some (vi x_26)]) dX0_numberAt_74 (Nat.le_of_ble_eq_true rfl) rfl rfl ?_
        refine z_iinc (M := M_X0_numberAt) (lv' := [some (vr 170), some (vi from_0), some (vi bytes_0), some (vl (q_lor (q_lsl value_1 8) (w32 x_26))), none, some (vi (i_2 + 1)), some (vi x_12), some (vi x_26)]) dX0_numberAt_75 rfl (Nat.le_of_ble_eq_true rfl) rfl rfl ?_
        refine z_goto (M := M_X0_numberAt) (tgt := 5) dX0_numberAt_78 (by decide) ?_
        refine z_le (lv' := [some (vr 170), some (vi from_0), some (vi bytes_0), some (vl (q_lor (q_lsl value_1 8) (w32 x_26))), none, some (vi (i_2 + 1)), none, none]) ⟨Or.inr rfl, Or.inr rfl, Or.inr rfl, Or.inr rfl, Or.inl rfl, Or.inr rfl, Or.inl rfl, Or.inl rfl, trivial⟩ ?_
        exact K_8 _ (Option.some.inj H).symm
      have H := he_29
      rcases if_e H with ⟨h_19, H⟩ | ⟨h_19, H⟩
      · have J_20 : YY l E M_X0_numberAt 1 0 0 (pS (some (vl r)) σ) 49 [some (vr 170), some (vi from_0), some (vi bytes_0), some (vl value_1), none, some (vi i_2), some (vi x_12), none] [] σ 0 0 := by
          refine z_aload_n (M := M_X0_numberAt) dX0_numberAt_49 rfl ?_
          refine z_getR (M := M_X0_numberAt) (ci := 3) (C := RX0) (T := TX0) (Nf := 13) (ty := tyX0) cl3 dX0_numberAt_50 ly_170 1 (by decide) t_152 rfl ?_
          refine z_iload (M := M_X0_numberAt) dX0_numberAt_53 rfl ?_
          obtain ⟨x_15, x_15_e, hi_16, H⟩ := rd_e H
          refine z_bald (M := M_X0_numberAt) dX0_numberAt_55 ly_166 rfl rfl rfl hi_16 x_15_e ?_
          refine z_sipush (M := M_X0_numberAt) dX0_numberAt_56 (by decide +kernel) ?_
          refine z_iand (M := M_X0_numberAt) dX0_numberAt_59 ?_
          refine z_goto (M := M_X0_numberAt) (tgt := 64) dX0_numberAt_60 (by decide) ?_
          exact J_31 _ (Option.some.inj H).symm
        refine z_iload (M := M_X0_numberAt) dX0_numberAt_35 rfl ?_
        by_cases h_22 : 0 ≤ (w32 x_12)
        · refine z_if_lt_f (M := M_X0_numberAt) (tgt := 63) dX0_numberAt_37 (by decide) rfl h_22 ?_
          refine z_iload (M := M_X0_numberAt) dX0_numberAt_40 rfl ?_
          refine z_aload_n (M := M_X0_numberAt) dX0_numberAt_42 rfl ?_
          refine z_getI (M := M_X0_numberAt) (ci := 3) (C := RX0) (T := TX0) (Nf := 13) (ty := tyX0) cl3 dX0_numberAt_43 ly_170 5 (by decide) t_156 rfl rfl ?_
          by_cases h_23 : (w32 x_12) < (w32 (σ kB_length 0))
          · refine z_icmp_ge_f (M := M_X0_numberAt) (tgt := 63) dX0_numberAt_46 (by decide) rfl rfl h_23 ?_
            exact J_20
          · refine z_icmp_ge_t (M := M_X0_numberAt) (tgt := 63) dX0_numberAt_46 (by decide) rfl rfl (Int.not_lt.mp h_23) ?_
            exact absurd h_19 (fun q => h_23 q.2)
        · refine z_if_lt_t (M := M_X0_numberAt) (tgt := 63) dX0_numberAt_37 (by decide) rfl (Int.not_le.mp h_22) ?_
          exact absurd h_19 (fun q => h_22 q.1)
      · have J_21 : YY l E M_X0_numberAt 1 0 0 (pS (some (vl r)) σ) 63 [some (vr 170), some (vi from_0), some (vi bytes_0), some (vl value_1), none, some (vi i_2), some (vi x_12), none] [] σ 0 0 := by
          refine z_iconst (M := M_X0_numberAt) dX0_numberAt_63 ?_
          exact J_31 _ (Option.some.inj H).symm
        refine z_iload (M := M_X0_numberAt) dX0_numberAt_35 rfl ?_
        by_cases h_24 : 0 ≤ (w32 x_12)
        · refine z_if_lt_f (M := M_X0_numberAt) (tgt := 63) dX0_numberAt_37 (by decide) rfl h_24 ?_
          refine z_iload (M := M_X0_numberAt) dX0_numberAt_40 rfl ?_
          refine z_aload_n (M := M_X0_numberAt) dX0_numberAt_42 rfl ?_
          refine z_getI (M := M_X0_numberAt) (ci := 3) (C := RX0) (T := TX0) (Nf := 13) (ty := tyX0) cl3 dX0_numberAt_43 ly_170 5 (by decide) t_156 rfl rfl ?_
          by_cases h_25 : (w32 x_12) < (w32 (σ kB_length 0))
          · refine z_icmp_ge_f (M := M_X0_numberAt) (tgt := 63) dX0_numberAt_46 (by decide) rfl rfl h_25 ?_
            exact absurd ⟨h_24, h_25⟩ h_19
          · refine z_icmp_ge_t (M := M_X0_numberAt) (tgt := 63) dX0_numberAt_46 (by decide) rfl rfl (Int.not_lt.mp h_25) ?_
            exact J_21
        · refine z_if_lt_t (M := M_X0_numberAt) (tgt := 63) dX0_numberAt_37 (by decide) rfl (Int.not_le.mp h_24) ?_
          exact J_21
    refine z_aload_n (M := M_X0_numberAt) dX0_numberAt_11 rfl ?_
    refine z_getZ (M := M_X0_numberAt) (ci := 3) (C := RX0) (T := TX0) (Nf := 13) (ty := tyX0) cl3 dX0_numberAt_12 ly_170 9 (by decide) t_160 rfl rfl ?_
    by_cases h_32 : (nz (σ kB_lowFirst 0)) = true
    · refine z_zeq_f (M := M_X0_numberAt) (tgt := 29) dX0_numberAt_15 (by decide) h_32 ?_
      refine z_iload_n (M := M_X0_numberAt) dX0_numberAt_18 rfl ?_
      refine z_iload_n (M := M_X0_numberAt) dX0_numberAt_19 rfl ?_
      refine z_iadd (M := M_X0_numberAt) dX0_numberAt_20 ?_
      refine z_iconst (M := M_X0_numberAt) dX0_numberAt_21 ?_
      refine z_isub (M := M_X0_numberAt) dX0_numberAt_22 ?_
      refine z_iload (M := M_X0_numberAt) dX0_numberAt_23 rfl ?_
      refine z_isub (M := M_X0_numberAt) dX0_numberAt_25 ?_
      refine z_goto (M := M_X0_numberAt) (tgt := 33) dX0_numberAt_26 (by decide) ?_
      exact z_st (by rw [if_pos (c := (nz (σ kB_lowFirst 0)) = true) h_32]) J_11
    · refine z_zeq_t (M := M_X0_numberAt) (tgt := 29) dX0_numberAt_15 (by decide) h_32 ?_
      refine z_iload_n (M := M_X0_numberAt) dX0_numberAt_29 rfl ?_
      refine z_iload (M := M_X0_numberAt) dX0_numberAt_30 rfl ?_
      refine z_iadd (M := M_X0_numberAt) dX0_numberAt_32 ?_
      exact z_st (by rw [if_neg (c := (nz (σ kB_lowFirst 0)) = true) h_32]) J_11
  · refine z_icmp_ge_t (M := M_X0_numberAt) (tgt := 81) dX0_numberAt_8 (by decide) rfl rfl (Int.not_lt.mp h_10) ?_
    exact J_36 _ _ (K_9 _ (Option.some.inj H).symm).symm
theorem c_X0_openLevel (hl : l.stackTraces = false) {σ : SG} {kind_0 : Int} {parts_0 : Int} {r : Bool} {σ' : SG}  (H : fB_openLevel σ kind_0 parts_0 = some (r, σ')) : en_S l E M_X0_openLevel 2 0 0 [vr 170, vi kind_0, vl parts_0] σ (pS (some (zv r)) σ') := by
  unfold fB_openLevel at H
  refine z_mk (lv := [some (vr 170), some (vi kind_0), some (vl parts_0), none]) m_X0_openLevel rfl hl (Nat.le_of_ble_eq_true rfl) rfl ?_
  refine z_aload_n (M := M_X0_openLevel) dX0_openLevel_0 rfl ?_
  refine z_getI (M := M_X0_openLevel) (ci := 3) (C := RX0) (T := TX0) (Nf := 13) (ty := tyX0) cl3 dX0_openLevel_1 ly_170 7 (by decide) t_158 rfl rfl ?_
  refine z_bipush (M := M_X0_openLevel) dX0_openLevel_4 (by decide +kernel) ?_
  rcases if_e H with ⟨h_1, H⟩ | ⟨h_1, H⟩
  · refine z_icmp_lt_f (M := M_X0_openLevel) (tgt := 16) dX0_openLevel_6 (by decide) rfl (by decide +kernel) h_1 ?_
    refine z_aload_n (M := M_X0_openLevel) dX0_openLevel_9 rfl ?_
    refine z_bipush (M := M_X0_openLevel) dX0_openLevel_10 (by decide +kernel) ?_
    obtain ⟨⟨x_4, σ_3⟩, hc_2, H⟩ := bd_e H
    refine z_callV (M := M_X0_openLevel) (M' := M_X0_fail) (as := [vi 6]) (rest := []) rfl rfl dX0_openLevel_12 m_X0_fail t_975 t_977 s_25 (c_X0_fail hl  hc_2) rfl rfl ly_170 rfl (Nat.le_of_ble_eq_true rfl) (Nat.le_of_ble_eq_true rfl) (Nat.le_of_ble_eq_true rfl) (Nat.le_of_ble_eq_true rfl) ?_
    refine z_st (st' := [zv x_4]) rfl ?_
    cases H
    exact z_zret (M := M_X0_openLevel) dX0_openLevel_15 rfl (Nat.le_of_ble_eq_true rfl) (Nat.le_of_ble_eq_true rfl) ⟨rfl, rfl⟩
  · refine z_icmp_lt_t (M := M_X0_openLevel) (tgt := 16) dX0_openLevel_6 (by decide) rfl (by decide +kernel) (Int.not_le.mp h_1) ?_
    refine z_aload_n (M := M_X0_openLevel) dX0_openLevel_16 rfl ?_
    refine z_getR (M := M_X0_openLevel) (ci := 3) (C := RX0) (T := TX0) (Nf := 13) (ty := tyX0) cl3 dX0_openLevel_17 ly_170 3 (by decide) t_154 rfl ?_
    refine z_aload_n (M := M_X0_openLevel) dX0_openLevel_20 rfl ?_
    refine z_getI (M := M_X0_openLevel) (ci := 3) (C := RX0) (T := TX0) (Nf := 13) (ty := tyX0) cl3 dX0_openLevel_21 ly_170 7 (by decide) t_158 rfl rfl ?_
    refine z_iload_n (M := M_X0_openLevel) dX0_openLevel_24 rfl ?_
    obtain ⟨σ_5, σ_5_e, hi_6, H⟩ := wa_e H
    refine z_iast (M := M_X0_openLevel) dX0_openLevel_25 ly_172 rfl rfl rfl hi_6 σ_5_e ?_
    refine z_aload_n (M := M_X0_openLevel) dX0_openLevel_26 rfl ?_
    refine z_getR (M := M_X0_openLevel) (ci := 3) (C := RX0) (T := TX0) (Nf := 13) (ty := tyX0) cl3 dX0_openLevel_27 ly_170 2 (by decide) t_153 rfl ?_
    refine z_aload_n (M := M_X0_openLevel) dX0_openLevel_30 rfl ?_
    refine z_getI (M := M_X0_openLevel) (ci := 3) (C := RX0) (T := TX0) (Nf := 13) (ty := tyX0) cl3 dX0_openLevel_31 ly_170 7 (by decide) t_158 rfl rfl ?_
    refine z_lload_n (M := M_X0_openLevel) dX0_openLevel_34 rfl ?_
    obtain ⟨σ_7, σ_7_e, hi_8, H⟩ := wa_e H
    refine z_last (M := M_X0_openLevel) dX0_openLevel_35 ly_171 rfl rfl rfl hi_8 σ_7_e ?_
    refine z_aload_n (M := M_X0_openLevel) dX0_openLevel_36 rfl ?_
    refine z_dup (M := M_X0_openLevel) dX0_openLevel_37 rfl ?_
    refine z_getI (M := M_X0_openLevel) (ci := 3) (C := RX0) (T := TX0) (Nf := 13) (ty := tyX0) cl3 dX0_openLevel_38 ly_170 7 (by decide) t_158 rfl rfl ?_
    refine z_iconst (M := M_X0_openLevel) dX0_openLevel_41 ?_
    refine z_iadd (M := M_X0_openLevel) dX0_openLevel_42 ?_
    obtain ⟨σ_9, σ_9_e, H⟩ := wf_e H
    refine z_putI (M := M_X0_openLevel) (ci := 3) (C := RX0) (T := TX0) (Nf := 13) (ty := tyX0) cl3 dX0_openLevel_43 ly_170 7 (by decide) t_158 rfl rfl rfl rfl σ_9_e ?_
    obtain ⟨v_13, he_10, hk_11⟩ := bd_e H
    have J_19 : ∀ σ_18, v_13 = σ_18 → YY l E M_X0_openLevel 2 0 0 (pS (some (zv r)) σ') 62 [some (vr 170), some (vi kind_0), some (vl parts_0), none] [] σ_18 0 0 := by
      intro σ_18 e
      have H := hk_11
      rw [e] at H
      refine z_zconst (M := M_X0_openLevel) (b := true) dX0_openLevel_62 rfl ?_
      cases H
      exact z_zret (M := M_X0_openLevel) dX0_openLevel_63 rfl (Nat.le_of_ble_eq_true rfl) (Nat.le_of_ble_eq_true rfl) ⟨rfl, rfl⟩
    have H := he_10
    refine z_iload_n (M := M_X0_openLevel) dX0_openLevel_46 rfl ?_
    refine z_bipush (M := M_X0_openLevel) dX0_openLevel_47 (by decide +kernel) ?_
    rcases if_e H with ⟨h_14, H⟩ | ⟨h_14, H⟩
    · refine z_icmp_ne_f (M := M_X0_openLevel) (tgt := 62) dX0_openLevel_49 (by decide) rfl (by decide +kernel) h_14 ?_
      refine z_aload_n (M := M_X0_openLevel) dX0_openLevel_52 rfl ?_
      refine z_dup (M := M_X0_openLevel) dX0_openLevel_53 rfl ?_
      refine z_getI (M := M_X0_openLevel) (ci := 3) (C := RX0) (T := TX0) (Nf := 13) (ty := tyX0) cl3 dX0_openLevel_54 ly_170 8 (by decide) t_159 rfl rfl ?_
      refine z_iconst (M := M_X0_openLevel) dX0_openLevel_57 ?_
      refine z_iadd (M := M_X0_openLevel) dX0_openLevel_58 ?_
      obtain ⟨σ_15, σ_15_e, H⟩ := wf_e H
      refine z_putI (M := M_X0_openLevel) (ci := 3) (C := RX0) (T := TX0) (Nf := 13) (ty := tyX0) cl3 dX0_openLevel_59 ly_170 8 (by decide) t_159 rfl rfl rfl rfl σ_15_e ?_
      exact J_19 _ (Option.some.inj H).symm
    · refine z_icmp_ne_t (M := M_X0_openLevel) (tgt := 62) dX0_openLevel_49 (by decide) rfl (by decide +kernel) h_14 ?_
      exact J_19 _ (Option.some.inj H).symm
theorem c_X0_isNoNumber (hl : l.stackTraces = false) {σ : SG} {bits_0 : Int} {r : Bool}  (H : fB_isNoNumber bits_0 = r) : en_S l E M_X0_isNoNumber 1 0 0 [vl bits_0] σ (pS (some (zv r)) σ) := by
  unfold fB_isNoNumber at H
  refine z_mk (lv := [some (vl bits_0), none]) m_X0_isNoNumber rfl hl (Nat.le_of_ble_eq_true rfl) rfl ?_
  have J_1 : YY l E M_X0_isNoNumber 1 0 0 (pS (some (zv r)) σ) 30 [some (vl bits_0), none] [zv (decide (((w64 (q_lan (q_lus bits_0 52) 2047)) = 2047) ∧ (¬ (w64 (q_lan bits_0 4503599627370495)) = 0)))] σ 0 0 := by
    cases H
    exact z_zret (M := M_X0_isNoNumber) dX0_isNoNumber_30 rfl (Nat.le_of_ble_eq_true rfl) (Nat.le_of_ble_eq_true rfl) ⟨rfl, rfl⟩
  refine z_lload_n (M := M_X0_isNoNumber) dX0_isNoNumber_0 rfl ?_
  refine z_bipush (M := M_X0_isNoNumber) dX0_isNoNumber_1 (by decide +kernel) ?_
  refine z_lushr (M := M_X0_isNoNumber) dX0_isNoNumber_3 ?_
  refine z_ldc2 (M := M_X0_isNoNumber) (n := 2047) dX0_isNoNumber_4 t_997 (by decide +kernel) ?_
  refine z_land (M := M_X0_isNoNumber) dX0_isNoNumber_7 ?_
  refine z_ldc2 (M := M_X0_isNoNumber) (n := 2047) dX0_isNoNumber_8 t_997 (by decide +kernel) ?_
  refine z_lcmp (M := M_X0_isNoNumber) dX0_isNoNumber_11 ?_
  by_cases h_2 : (w64 (q_lan (q_lus bits_0 52) 2047)) = 2047
  · refine z_lif_ne_f (M := M_X0_isNoNumber) (tgt := 29) dX0_isNoNumber_12 (by decide) rfl (by decide +kernel) h_2 ?_
    refine z_lload_n (M := M_X0_isNoNumber) dX0_isNoNumber_15 rfl ?_
    refine z_ldc2 (M := M_X0_isNoNumber) (n := 4503599627370495) dX0_isNoNumber_16 t_998 (by decide +kernel) ?_
    refine z_land (M := M_X0_isNoNumber) dX0_isNoNumber_19 ?_
    refine z_lconst (M := M_X0_isNoNumber) (m := 0) dX0_isNoNumber_20 (by decide +kernel) ?_
    refine z_lcmp (M := M_X0_isNoNumber) dX0_isNoNumber_21 ?_
    by_cases h_3 : ¬ (w64 (q_lan bits_0 4503599627370495)) = 0
    · refine z_lif_eq_f (M := M_X0_isNoNumber) (tgt := 29) dX0_isNoNumber_22 (by decide) rfl (by decide +kernel) h_3 ?_
      refine z_iconst (M := M_X0_isNoNumber) dX0_isNoNumber_25 ?_
      refine z_goto (M := M_X0_isNoNumber) (tgt := 30) dX0_isNoNumber_26 (by decide) ?_
      exact z_st (by rw [zv_t (p := ((w64 (q_lan (q_lus bits_0 52) 2047)) = 2047) ∧ (¬ (w64 (q_lan bits_0 4503599627370495)) = 0)) ⟨h_2, h_3⟩]) J_1
    · refine z_lif_eq_t (M := M_X0_isNoNumber) (tgt := 29) dX0_isNoNumber_22 (by decide) rfl (by decide +kernel) (Decidable.not_not.mp h_3) ?_
      refine z_iconst (M := M_X0_isNoNumber) dX0_isNoNumber_29 ?_
      exact z_st (by rw [zv_f (p := ((w64 (q_lan (q_lus bits_0 52) 2047)) = 2047) ∧ (¬ (w64 (q_lan bits_0 4503599627370495)) = 0)) (fun q => h_3 q.2)]) J_1
  · refine z_lif_ne_t (M := M_X0_isNoNumber) (tgt := 29) dX0_isNoNumber_12 (by decide) rfl (by decide +kernel) h_2 ?_
    refine z_iconst (M := M_X0_isNoNumber) dX0_isNoNumber_29 ?_
    exact z_st (by rw [zv_f (p := ((w64 (q_lan (q_lus bits_0 52) 2047)) = 2047) ∧ (¬ (w64 (q_lan bits_0 4503599627370495)) = 0)) (fun q => h_2 q.1)]) J_1
theorem c_X10_put (hl : l.stackTraces = false) {σ : SG} {value_0 : Int} {σ' : SG}  (H : fO_put σ value_0 = some σ') : en_S l E M_X10_put 1 0 0 [vr 173, vi value_0] σ (pS (none) σ') := by
  unfold fO_put at H
  refine z_mk (lv := [some (vr 173), some (vi value_0)]) m_X10_put rfl hl (Nat.le_of_ble_eq_true rfl) rfl ?_
  obtain ⟨v_4, he_1, hk_2⟩ := bd_e H
  have J_12 : ∀ σ_11, v_4 = σ_11 → YY l E M_X10_put 1 0 0 (pS (none) σ') 30 [some (vr 173), some (vi value_0)] [] σ_11 0 0 := by
    intro σ_11 e
    have H := hk_2
    rw [e] at H
    cases H
    exact z_vret (M := M_X10_put) dX10_put_30 rfl (Nat.le_of_ble_eq_true rfl) (Nat.le_of_ble_eq_true rfl) ⟨rfl, rfl⟩
  have H := he_1
  refine z_aload_n (M := M_X10_put) dX10_put_0 rfl ?_
  refine z_getI (M := M_X10_put) (ci := 13) (C := RX10) (T := TX10) (Nf := 6) (ty := tyX10) cl13 dX10_put_1 ly_173 5 (by decide) t_207 rfl rfl ?_
  refine z_ldc (M := M_X10_put) (n := 80000) dX10_put_4 t_200 (by decide +kernel) ?_
  rcases if_e H with ⟨h_5, H⟩ | ⟨h_5, H⟩
  · refine z_icmp_ge_f (M := M_X10_put) (tgt := 30) dX10_put_6 (by decide) rfl (by decide +kernel) h_5 ?_
    refine z_aload_n (M := M_X10_put) dX10_put_9 rfl ?_
    refine z_getR (M := M_X10_put) (ci := 13) (C := RX10) (T := TX10) (Nf := 6) (ty := tyX10) cl13 dX10_put_10 ly_173 4 (by decide) t_205 rfl ?_
    refine z_aload_n (M := M_X10_put) dX10_put_13 rfl ?_
    refine z_getI (M := M_X10_put) (ci := 13) (C := RX10) (T := TX10) (Nf := 6) (ty := tyX10) cl13 dX10_put_14 ly_173 5 (by decide) t_207 rfl rfl ?_
    refine z_iload_n (M := M_X10_put) dX10_put_17 rfl ?_
    refine z_i2b (M := M_X10_put) dX10_put_18 ?_
    obtain ⟨σ_6, σ_6_e, hi_7, H⟩ := wa_e H
    refine z_bast (M := M_X10_put) dX10_put_19 ly_176 rfl rfl rfl hi_7 σ_6_e ?_
    refine z_aload_n (M := M_X10_put) dX10_put_20 rfl ?_
    refine z_dup (M := M_X10_put) dX10_put_21 rfl ?_
    refine z_getI (M := M_X10_put) (ci := 13) (C := RX10) (T := TX10) (Nf := 6) (ty := tyX10) cl13 dX10_put_22 ly_173 5 (by decide) t_207 rfl rfl ?_
    refine z_iconst (M := M_X10_put) dX10_put_25 ?_
    refine z_iadd (M := M_X10_put) dX10_put_26 ?_
    obtain ⟨σ_8, σ_8_e, H⟩ := wf_e H
    refine z_putI (M := M_X10_put) (ci := 13) (C := RX10) (T := TX10) (Nf := 6) (ty := tyX10) cl13 dX10_put_27 ly_173 5 (by decide) t_207 rfl rfl rfl rfl σ_8_e ?_
    exact J_12 _ (Option.some.inj H).symm
  · refine z_icmp_ge_t (M := M_X10_put) (tgt := 30) dX10_put_6 (by decide) rfl (by decide +kernel) (Int.not_lt.mp h_5) ?_
    exact J_12 _ (Option.some.inj H).symm
theorem c_X10_putBytes (hl : l.stackTraces = false) {σ : SG} {value_0 : Int} {bytes_0 : Int} {σ' : SG}  (H : fO_putBytes σ value_0 bytes_0 = some σ') : en_S l E M_X10_putBytes 2 0 0 [vr 173, vl value_0, vi bytes_0] σ (pS (none) σ') := by
  unfold fO_putBytes at H
  refine z_mk (lv := [some (vr 173), some (vl value_0), none, some (vi bytes_0), none, none]) m_X10_putBytes rfl hl (Nat.le_of_ble_eq_true rfl) rfl ?_
  refine z_iconst (M := M_X10_putBytes) dX10_putBytes_0 ?_
  refine z_istore (M := M_X10_putBytes) (lv' := [some (vr 173), some (vl value_0), none, some (vi bytes_0), some (vi 0), none]) dX10_putBytes_1 (Nat.le_of_ble_eq_true rfl) rfl rfl ?_
  obtain ⟨rl_6, hw_3, hk_4⟩ := bd_e H
  have J_20 : ∀ i_18 σ_19, rl_6 = (i_18, σ_19) → YY l E M_X10_putBytes 2 0 0 (pS (none) σ') 50 [some (vr 173), some (vl value_0), none, some (vi bytes_0), some (vi i_18), none] [] σ_19 0 0 := by
    intro i_18 σ_19 e
    have H := hk_4
    rw [e] at H
    cases H
    exact z_vret (M := M_X10_putBytes) dX10_putBytes_50 rfl (Nat.le_of_ble_eq_true rfl) (Nat.le_of_ble_eq_true rfl) ⟨rfl, rfl⟩
  refine whl_go hw_3 (fun (i_1, σ_2) => YY l E M_X10_putBytes 2 0 0 (pS (none) σ') 3 [some (vr 173), some (vl value_0), none, some (vi bytes_0), some (vi i_1), none] [] σ_2 0 0) ?_
  rintro ⟨i_1, σ_2⟩ o_7 H K_8 K_9
  refine z_iload (M := M_X10_putBytes) dX10_putBytes_3 rfl ?_
  refine z_iload_n (M := M_X10_putBytes) dX10_putBytes_5 rfl ?_
  rcases if_e H with ⟨h_10, H⟩ | ⟨h_10, H⟩
  · refine z_icmp_ge_f (M := M_X10_putBytes) (tgt := 50) dX10_putBytes_6 (by decide) rfl rfl h_10 ?_
    have J_11 : YY l E M_X10_putBytes 2 0 0 (pS (none) σ') 33 [some (vr 173), some (vl value_0), none, some (vi bytes_0), some (vi i_1), none] [vi (if (nz (σ_2 kO_lowFirst 0)) = true then (8 * i_1) else (8 * ((bytes_0 - 1) - i_1)))] σ_2 0 0 := by
      obtain ⟨x_12, x_12_e, H⟩ := lt_e H
      refine z_st (congrArg (fun z => vi z :: []) x_12_e) ?_
      refine z_istore (M := M_X10_putBytes) (lv' := [some (vr 173), some (vl value_0), none, some (vi bytes_0), some (vi i_1), some (vi x_12)]) dX10_putBytes_33 (Nat.le_of_ble_eq_true rfl) rfl rfl ?_
      refine z_aload_n (M := M_X10_putBytes) dX10_putBytes_35 rfl ?_
      refine z_lload_n (M := M_X10_putBytes) dX10_putBytes_36 rfl ?_
      refine z_iload (M := M_X10_putBytes) dX10_putBytes_37 rfl ?_
      refine z_lushr (M := M_X10_putBytes) dX10_putBytes_39 ?_
      refine z_l2i (M := M_X10_putBytes) dX10_putBytes_40 ?_
      obtain ⟨σ_14, hc_13, H⟩ := bd_e H
      refine z_callV (M := M_X10_putBytes) (M' := M_X10_put) (as := [vi (q_lus value_0 x_12)]) (rest := []) rfl rfl dX10_putBytes_41 m_X10_put t_1065 t_1067 s_36 (c_X10_put hl  hc_13) rfl rfl ly_173 rfl (Nat.le_of_ble_eq_true rfl) (Nat.le_of_ble_eq_true rfl) (Nat.le_of_ble_eq_true rfl) (Nat.le_of_ble_eq_true rfl) ?_
      refine z_st (st' := []) rfl ?_
      refine z_iinc (M := M_X10_putBytes) (lv' := [some (vr 173), some (vl value_0), none, some (vi bytes_0), some (vi (i_1 + 1)), some (vi x_12)]) dX10_putBytes_44 rfl (Nat.le_of_ble_eq_true rfl) rfl rfl ?_
      refine z_goto (M := M_X10_putBytes) (tgt := 3) dX10_putBytes_47 (by decide) ?_
      refine z_le (lv' := [some (vr 173), some (vl value_0), none, some (vi bytes_0), some (vi (i_1 + 1)), none]) ⟨Or.inr rfl, Or.inr rfl, Or.inl rfl, Or.inr rfl, Or.inr rfl, Or.inl rfl, trivial⟩ ?_
      exact K_8 _ (Option.some.inj H).symm
    refine z_aload_n (M := M_X10_putBytes) dX10_putBytes_9 rfl ?_
    refine z_getZ (M := M_X10_putBytes) (ci := 13) (C := RX10) (T := TX10) (Nf := 6) (ty := tyX10) cl13 dX10_putBytes_10 ly_173 3 (by decide) t_204 rfl rfl ?_
    by_cases h_16 : (nz (σ_2 kO_lowFirst 0)) = true
    · refine z_zeq_f (M := M_X10_putBytes) (tgt := 24) dX10_putBytes_13 (by decide) h_16 ?_
      refine z_bipush (M := M_X10_putBytes) dX10_putBytes_16 (by decide +kernel) ?_
      refine z_iload (M := M_X10_putBytes) dX10_putBytes_18 rfl ?_
      refine z_imul (M := M_X10_putBytes) dX10_putBytes_20 ?_
      refine z_goto (M := M_X10_putBytes) (tgt := 33) dX10_putBytes_21 (by decide) ?_
      exact z_st (by rw [if_pos (c := (nz (σ_2 kO_lowFirst 0)) = true) h_16]) J_11
    · refine z_zeq_t (M := M_X10_putBytes) (tgt := 24) dX10_putBytes_13 (by decide) h_16 ?_
      refine z_bipush (M := M_X10_putBytes) dX10_putBytes_24 (by decide +kernel) ?_
      refine z_iload_n (M := M_X10_putBytes) dX10_putBytes_26 rfl ?_
      refine z_iconst (M := M_X10_putBytes) dX10_putBytes_27 ?_
      refine z_isub (M := M_X10_putBytes) dX10_putBytes_28 ?_
      refine z_iload (M := M_X10_putBytes) dX10_putBytes_29 rfl ?_
      refine z_isub (M := M_X10_putBytes) dX10_putBytes_31 ?_
      refine z_imul (M := M_X10_putBytes) dX10_putBytes_32 ?_
      exact z_st (by rw [if_neg (c := (nz (σ_2 kO_lowFirst 0)) = true) h_16]) J_11
  · refine z_icmp_ge_t (M := M_X10_putBytes) (tgt := 50) dX10_putBytes_6 (by decide) rfl rfl (Int.not_lt.mp h_10) ?_
    exact J_20 _ _ (K_9 _ (Option.some.inj H).symm).symm
theorem c_X5_holds (hl : l.stackTraces = false) {σ : SG} {this_0 : Nat} {i_0 : Int} {x_0 : Int} {y_0 : Int} {r : Bool} (h_this : isG this_0) (H : fE_holds σ this_0 i_0 x_0 y_0 = some r) : en_S l E M_X5_holds 4 0 0 [vr this_0, vi i_0, vi x_0, vi y_0] σ (pS (some (zv r)) σ) := by
  unfold fE_holds at H
  refine z_mk (lv := [some (vr this_0), some (vi i_0), some (vi x_0), some (vi y_0)]) m_X5_holds rfl hl (Nat.le_of_ble_eq_true rfl) rfl ?_
  refine z_aload_n (M := M_X5_holds) dX5_holds_0 rfl ?_
  refine z_getR (M := M_X5_holds) (ci := 8) (C := RX5) (T := TX5) (Nf := 8) (ty := tyX5) cl8 dX5_holds_1 (ly_G h_this) 0 (by decide) t_234 rfl ?_
  refine z_iload_n (M := M_X5_holds) dX5_holds_4 rfl ?_
  obtain ⟨x_1, x_1_e, hi_2, H⟩ := rd_e H
  refine z_iald (M := M_X5_holds) dX5_holds_5 (ly_Gi (k := 1) h_this (by decide) (by decide)) rfl rfl rfl hi_2 x_1_e ?_
  refine z_aload_n (M := M_X5_holds) dX5_holds_6 rfl ?_
  refine z_getR (M := M_X5_holds) (ci := 8) (C := RX5) (T := TX5) (Nf := 8) (ty := tyX5) cl8 dX5_holds_7 (ly_G h_this) 1 (by decide) t_238 rfl ?_
  refine z_iload_n (M := M_X5_holds) dX5_holds_10 rfl ?_
  obtain ⟨x_3, x_3_e, hi_4, H⟩ := rd_e H
  refine z_iald (M := M_X5_holds) dX5_holds_11 (ly_Gi (k := 2) h_this (by decide) (by decide)) rfl rfl rfl hi_4 x_3_e ?_
  refine z_aload_n (M := M_X5_holds) dX5_holds_12 rfl ?_
  refine z_getR (M := M_X5_holds) (ci := 8) (C := RX5) (T := TX5) (Nf := 8) (ty := tyX5) cl8 dX5_holds_13 (ly_G h_this) 2 (by decide) t_242 rfl ?_
  refine z_iload_n (M := M_X5_holds) dX5_holds_16 rfl ?_
  obtain ⟨x_5, x_5_e, hi_6, H⟩ := rd_e H
  refine z_iald (M := M_X5_holds) dX5_holds_17 (ly_Gi (k := 3) h_this (by decide) (by decide)) rfl rfl rfl hi_6 x_5_e ?_
  refine z_aload_n (M := M_X5_holds) dX5_holds_18 rfl ?_
  refine z_getR (M := M_X5_holds) (ci := 8) (C := RX5) (T := TX5) (Nf := 8) (ty := tyX5) cl8 dX5_holds_19 (ly_G h_this) 3 (by decide) t_246 rfl ?_
  refine z_iload_n (M := M_X5_holds) dX5_holds_22 rfl ?_
  obtain ⟨x_7, x_7_e, hi_8, H⟩ := rd_e H
  refine z_iald (M := M_X5_holds) dX5_holds_23 (ly_Gi (k := 4) h_this (by decide) (by decide)) rfl rfl rfl hi_8 x_7_e ?_
  refine z_iload_n (M := M_X5_holds) dX5_holds_24 rfl ?_
  refine z_iload_n (M := M_X5_holds) dX5_holds_25 rfl ?_
  refine z_callSN (M := M_X5_holds) (M' := M_X11_isOnSegment) (as := [vi x_1, vi x_3, vi x_5, vi x_7, vi x_0, vi y_0]) (rest := []) rfl rfl dX5_holds_26 m_X11_isOnSegment n_1959 t_1320 (c_X11_isOnSegment hl  rfl) rfl rfl (Nat.le_of_ble_eq_true rfl) (Nat.le_of_ble_eq_true rfl) (Nat.le_of_ble_eq_true rfl) (Nat.le_of_ble_eq_true rfl) ?_
  refine z_st (st' := [zv (fQ_isOnSegment x_1 x_3 x_5 x_7 x_0 y_0)]) rfl ?_
  cases H
  exact z_zret (M := M_X5_holds) dX5_holds_29 rfl (Nat.le_of_ble_eq_true rfl) (Nat.le_of_ble_eq_true rfl) ⟨rfl, rfl⟩
theorem c_X3_isOfLines (hl : l.stackTraces = false) {σ : SG} {shape_0 : Nat} {r : Bool} (h_shape : isS shape_0) (H : fT_isOfLines σ shape_0 = some r) : en_S l E M_X3_isOfLines 2 0 0 [vr shape_0] σ (pS (some (zv r)) σ) := by
  unfold fT_isOfLines at H
  refine z_mk (lv := [some (vr shape_0)]) m_X3_isOfLines rfl hl (Nat.le_of_ble_eq_true rfl) rfl ?_
  obtain ⟨v_11, he_12, hk_13⟩ := bd_e H
  have J_14 : ∀ x_10, v_11 = x_10 → YY l E M_X3_isOfLines 2 0 0 (pS (some (zv r)) σ) 21 [some (vr shape_0)] [zv x_10] σ 0 0 := by
    intro x_10 e
    have H := hk_13
    rw [e] at H
    cases H
    exact z_zret (M := M_X3_isOfLines) dX3_isOfLines_21 rfl (Nat.le_of_ble_eq_true rfl) (Nat.le_of_ble_eq_true rfl) ⟨rfl, rfl⟩
  have H := he_12
  refine z_aload_n (M := M_X3_isOfLines) dX3_isOfLines_0 rfl ?_
  obtain ⟨x_2, hc_1, H⟩ := bd_e H
  refine z_callV (M := M_X3_isOfLines) (M' := M_X6_kind) (as := []) (rest := []) rfl rfl dX3_isOfLines_1 m_X6_kind t_1896 t_951 t_952 (c_X6_kind hl h_shape hc_1) rfl rfl (ly_S h_shape) rfl (Nat.le_of_ble_eq_true rfl) (Nat.le_of_ble_eq_true rfl) (Nat.le_of_ble_eq_true rfl) (Nat.le_of_ble_eq_true rfl) ?_
  refine z_st (st' := [vi x_2]) rfl ?_
  refine z_iconst (M := M_X3_isOfLines) dX3_isOfLines_4 ?_
  rcases if_e H with ⟨h_3, H⟩ | ⟨h_3, H⟩
  · refine z_icmp_eq_t (M := M_X3_isOfLines) (tgt := 16) dX3_isOfLines_5 (by decide) rfl (by decide +kernel) h_3 ?_
    refine z_zconst (M := M_X3_isOfLines) (b := true) dX3_isOfLines_16 rfl ?_
    refine z_goto (M := M_X3_isOfLines) (tgt := 21) dX3_isOfLines_17 (by decide) ?_
    exact J_14 _ (Option.some.inj H).symm
  · refine z_icmp_eq_f (M := M_X3_isOfLines) (tgt := 16) dX3_isOfLines_5 (by decide) rfl (by decide +kernel) h_3 ?_
    refine z_aload_n (M := M_X3_isOfLines) dX3_isOfLines_8 rfl ?_
    obtain ⟨x_6, hc_5, H⟩ := bd_e H
    refine z_callV (M := M_X3_isOfLines) (M' := M_X6_kind) (as := []) (rest := []) rfl rfl dX3_isOfLines_9 m_X6_kind t_1896 t_951 t_952 (c_X6_kind hl h_shape hc_5) rfl rfl (ly_S h_shape) rfl (Nat.le_of_ble_eq_true rfl) (Nat.le_of_ble_eq_true rfl) (Nat.le_of_ble_eq_true rfl) (Nat.le_of_ble_eq_true rfl) ?_
    refine z_st (st' := [vi x_6]) rfl ?_
    refine z_iconst (M := M_X3_isOfLines) dX3_isOfLines_12 ?_
    rcases if_e H with ⟨h_7, H⟩ | ⟨h_7, H⟩
    · refine z_icmp_ne_f (M := M_X3_isOfLines) (tgt := 20) dX3_isOfLines_13 (by decide) rfl (by decide +kernel) h_7 ?_
      refine z_zconst (M := M_X3_isOfLines) (b := true) dX3_isOfLines_16 rfl ?_
      refine z_goto (M := M_X3_isOfLines) (tgt := 21) dX3_isOfLines_17 (by decide) ?_
      exact J_14 _ (Option.some.inj H).symm
    · refine z_icmp_ne_t (M := M_X3_isOfLines) (tgt := 20) dX3_isOfLines_13 (by decide) rfl (by decide +kernel) h_7 ?_
      refine z_zconst (M := M_X3_isOfLines) (b := false) dX3_isOfLines_20 rfl ?_
      exact J_14 _ (Option.some.inj H).symm
theorem c_X3_raise (hl : l.stackTraces = false) {σ : SG} {first_0 : Int} {second_0 : Int} {dimension_0 : Int} {σ' : SG}  (H : fT_raise σ first_0 second_0 dimension_0 = some σ') : en_S l E M_X3_raise 1 0 0 [vr 222, vi first_0, vi second_0, vi dimension_0] σ (pS (none) σ') := by
  unfold fT_raise at H
  refine z_mk (lv := [some (vr 222), some (vi first_0), some (vi second_0), some (vi dimension_0), none]) m_X3_raise rfl hl (Nat.le_of_ble_eq_true rfl) rfl ?_
  refine z_iconst (M := M_X3_raise) dX3_raise_0 ?_
  refine z_iload_n (M := M_X3_raise) dX3_raise_1 rfl ?_
  refine z_imul (M := M_X3_raise) dX3_raise_2 ?_
  refine z_iload_n (M := M_X3_raise) dX3_raise_3 rfl ?_
  refine z_iadd (M := M_X3_raise) dX3_raise_4 ?_
  refine z_istore (M := M_X3_raise) (lv' := [some (vr 222), some (vi first_0), some (vi second_0), some (vi dimension_0), some (vi ((3 * first_0) + second_0))]) dX3_raise_5 (Nat.le_of_ble_eq_true rfl) rfl rfl ?_
  refine z_aload_n (M := M_X3_raise) dX3_raise_7 rfl ?_
  refine z_getR (M := M_X3_raise) (ci := 6) (C := RX3) (T := TX3) (Nf := 12) (ty := tyX3) cl6 dX3_raise_8 ly_222 1 (by decide) t_443 rfl ?_
  refine z_iload (M := M_X3_raise) dX3_raise_11 rfl ?_
  refine z_aload_n (M := M_X3_raise) dX3_raise_13 rfl ?_
  refine z_getR (M := M_X3_raise) (ci := 6) (C := RX3) (T := TX3) (Nf := 12) (ty := tyX3) cl6 dX3_raise_14 ly_222 1 (by decide) t_443 rfl ?_
  refine z_iload (M := M_X3_raise) dX3_raise_17 rfl ?_
  obtain ⟨x_1, x_1_e, hi_2, H⟩ := rd_e H
  refine z_iald (M := M_X3_raise) dX3_raise_19 ly_229 rfl rfl rfl hi_2 x_1_e ?_
  refine z_iload_n (M := M_X3_raise) dX3_raise_20 rfl ?_
  refine z_mmax (M := M_X3_raise) dX3_raise_21 t_2002 t_1013 t_20 t_1014 (Nat.le_of_ble_eq_true rfl) (Nat.le_of_ble_eq_true rfl) (Nat.le_of_ble_eq_true rfl) (Nat.le_of_ble_eq_true rfl) ?_
  obtain ⟨σ_3, σ_3_e, hi_4, H⟩ := wa_e H
  refine z_iast (M := M_X3_raise) dX3_raise_24 ly_229 rfl rfl rfl hi_4 σ_3_e ?_
  cases H
  exact z_vret (M := M_X3_raise) dX3_raise_25 rfl (Nat.le_of_ble_eq_true rfl) (Nat.le_of_ble_eq_true rfl) ⟨rfl, rfl⟩
theorem c_X3_collect (hl : l.stackTraces = false) {σ : SG} {shape_0 : Nat} {owner_0 : Int} {r : Bool} {σ' : SG} (h_shape : isS shape_0) (H : fT_collect σ shape_0 owner_0 = some (r, σ')) : en_S l E M_X3_collect 3 0 0 [vr 222, vr shape_0, vi owner_0] σ (pS (some (zv r)) σ') := by
  unfold fT_collect at H
  refine z_mk (lv := [some (vr 222), some (vr shape_0), some (vi owner_0), none, none, none, none, none, none]) m_X3_collect rfl hl (Nat.le_of_ble_eq_true rfl) rfl ?_
  refine z_aload_n (M := M_X3_collect) dX3_collect_0 rfl ?_
  obtain ⟨x_2, hc_1, H⟩ := bd_e H
  refine z_callS (M := M_X3_collect) (M' := M_X3_isOfPoints) (as := [vr shape_0]) (rest := []) rfl rfl dX3_collect_1 m_X3_isOfPoints t_1893 t_1894 (c_X3_isOfPoints hl h_shape hc_1) rfl rfl (Nat.le_of_ble_eq_true rfl) (Nat.le_of_ble_eq_true rfl) (Nat.le_of_ble_eq_true rfl) (Nat.le_of_ble_eq_true rfl) ?_
  refine z_st (st' := [zv x_2]) rfl ?_
  rcases if_e H with ⟨h_3, H⟩ | ⟨h_3, H⟩
  · refine z_zeq_f (M := M_X3_collect) (tgt := 9) dX3_collect_4 (by decide) h_3 ?_
    refine z_zconst (M := M_X3_collect) (b := true) dX3_collect_7 rfl ?_
    cases H
    exact z_zret (M := M_X3_collect) dX3_collect_8 rfl (Nat.le_of_ble_eq_true rfl) (Nat.le_of_ble_eq_true rfl) ⟨rfl, rfl⟩
  · refine z_zeq_t (M := M_X3_collect) (tgt := 9) dX3_collect_4 (by decide) h_3 ?_
    refine z_iconst (M := M_X3_collect) dX3_collect_9 ?_
    refine z_istore_n (M := M_X3_collect) (lv' := [some (vr 222), some (vr shape_0), some (vi owner_0), some (vi 0), none, none, none, none, none]) dX3_collect_10 (Nat.le_of_ble_eq_true rfl) rfl rfl ?_
    refine z_iconst (M := M_X3_collect) dX3_collect_11 ?_
    refine z_istore (M := M_X3_collect) (lv' := [some (vr 222), some (vr shape_0), some (vi owner_0), some (vi 0), some (vi 0), none, none, none, none]) dX3_collect_12 (Nat.le_of_ble_eq_true rfl) rfl rfl ?_
    obtain ⟨rl_10, hw_7, hk_8, hk_9⟩ := bx_e H
    have J_96 : ∀ from_93 at_94 σ_95, rl_10 = (.inl (from_93, at_94, σ_95)) → YY l E M_X3_collect 3 0 0 (pS (some (zv r)) σ') 151 [some (vr 222), some (vr shape_0), some (vi owner_0), some (vi from_93), some (vi at_94), none, none, none, none] [] σ_95 0 0 := by
      intro from_93 at_94 σ_95 e
      have H := hk_8 _ e
      refine z_zconst (M := M_X3_collect) (b := true) dX3_collect_151 rfl ?_
      cases H
      exact z_zret (M := M_X3_collect) dX3_collect_152 rfl (Nat.le_of_ble_eq_true rfl) (Nat.le_of_ble_eq_true rfl) ⟨rfl, rfl⟩
    refine whl_go hw_7 (fun (from_4, at_5, σ_6) => YY l E M_X3_collect 3 0 0 (pS (some (zv r)) σ') 14 [some (vr 222), some (vr shape_0), some (vi owner_0), some (vi from_4), some (vi at_5), none, none, none, none] [] σ_6 0 0) ?_
    rintro ⟨from_4, at_5, σ_6⟩ o_11 H K_12 K_13
    refine z_iload (M := M_X3_collect) dX3_collect_14 rfl ?_
    refine z_iconst (M := M_X3_collect) dX3_collect_16 ?_
    refine z_iadd (M := M_X3_collect) dX3_collect_17 ?_
    refine z_aload_n (M := M_X3_collect) dX3_collect_18 rfl ?_
    refine z_getI (M := M_X3_collect) (ci := 9) (C := RX6) (T := TX6) (Nf := 5) (ty := tyX6) cl9 dX3_collect_19 (ly_S h_shape) 3 (by decide) t_76 rfl rfl ?_
    rcases if_e H with ⟨h_14, H⟩ | ⟨h_14, H⟩
    · refine z_icmp_ge_f (M := M_X3_collect) (tgt := 151) dX3_collect_22 (by decide) rfl rfl h_14 ?_
      refine z_iconst (M := M_X3_collect) dX3_collect_25 ?_
      refine z_istore (M := M_X3_collect) (lv' := [some (vr 222), some (vr shape_0), some (vi owner_0), some (vi from_4), some (vi at_5), some (vi 0), none, none, none]) dX3_collect_26 (Nat.le_of_ble_eq_true rfl) rfl rfl ?_
      obtain ⟨rl_21, hw_18, hk_19, hk_20⟩ := bx_e H
      have J_91 : ∀ from_85 row_86 σ_87, rl_21 = (.inl (from_85, row_86, σ_87)) → YY l E M_X3_collect 3 0 0 (pS (some (zv r)) σ') 140 [some (vr 222), some (vr shape_0), some (vi owner_0), some (vi from_85), some (vi at_5), some (vi row_86), none, none, none] [] σ_87 0 0 := by
        intro from_85 row_86 σ_87 e
        have H := hk_19 _ e
        refine z_aload_n (M := M_X3_collect) dX3_collect_140 rfl ?_
        refine z_iload (M := M_X3_collect) dX3_collect_141 rfl ?_
        obtain ⟨x_89, hc_88, H⟩ := bd_e H
        refine z_callV (M := M_X3_collect) (M' := M_X6_behind) (as := [vi at_5]) (rest := []) rfl rfl dX3_collect_143 m_X6_behind t_1898 t_1107 t_1108 (c_X6_behind hl h_shape hc_88) rfl rfl (ly_S h_shape) rfl (Nat.le_of_ble_eq_true rfl) (Nat.le_of_ble_eq_true rfl) (Nat.le_of_ble_eq_true rfl) (Nat.le_of_ble_eq_true rfl) ?_
        refine z_st (st' := [vi x_89]) rfl ?_
        refine z_istore (M := M_X3_collect) (lv' := [some (vr 222), some (vr shape_0), some (vi owner_0), some (vi from_85), some (vi x_89), some (vi row_86), none, none, none]) dX3_collect_146 (Nat.le_of_ble_eq_true rfl) rfl rfl ?_
        refine z_goto (M := M_X3_collect) (tgt := 14) dX3_collect_148 (by decide) ?_
        refine z_le (lv' := [some (vr 222), some (vr shape_0), some (vi owner_0), some (vi from_85), some (vi x_89), none, none, none, none]) ⟨Or.inr rfl, Or.inr rfl, Or.inr rfl, Or.inr rfl, Or.inr rfl, Or.inl rfl, Or.inl rfl, Or.inl rfl, Or.inl rfl, trivial⟩ ?_
        exact K_12 _ (Option.some.inj H).symm
      refine whl_go hw_18 (fun (from_15, row_16, σ_17) => YY l E M_X3_collect 3 0 0 (pS (some (zv r)) σ') 28 [some (vr 222), some (vr shape_0), some (vi owner_0), some (vi from_15), some (vi at_5), some (vi row_16), none, none, none] [] σ_17 0 0) ?_
      rintro ⟨from_15, row_16, σ_17⟩ o_22 H K_23 K_24
      refine z_iload (M := M_X3_collect) dX3_collect_28 rfl ?_
      refine z_aload_n (M := M_X3_collect) dX3_collect_30 rfl ?_
      refine z_iload (M := M_X3_collect) dX3_collect_31 rfl ?_
      obtain ⟨x_26, hc_25, H⟩ := bd_e H
      refine z_callV (M := M_X3_collect) (M' := M_X6_rows) (as := [vi at_5]) (rest := [vi row_16]) rfl rfl dX3_collect_33 m_X6_rows t_1897 t_1075 t_1076 (c_X6_rows hl h_shape hc_25) rfl rfl (ly_S h_shape) rfl (Nat.le_of_ble_eq_true rfl) (Nat.le_of_ble_eq_true rfl) (Nat.le_of_ble_eq_true rfl) (Nat.le_of_ble_eq_true rfl) ?_
      refine z_st (st' := [vi x_26, vi row_16]) rfl ?_
      rcases if_e H with ⟨h_27, H⟩ | ⟨h_27, H⟩
      · refine z_icmp_ge_f (M := M_X3_collect) (tgt := 140) dX3_collect_36 (by decide) rfl rfl h_27 ?_
        refine z_iload_n (M := M_X3_collect) dX3_collect_39 rfl ?_
        refine z_aload_n (M := M_X3_collect) dX3_collect_40 rfl ?_
        refine z_iload (M := M_X3_collect) dX3_collect_41 rfl ?_
        refine z_iload (M := M_X3_collect) dX3_collect_43 rfl ?_
        obtain ⟨x_29, hc_28, H⟩ := bd_e H
        refine z_callV (M := M_X3_collect) (M' := M_X6_rowLength) (as := [vi at_5, vi row_16]) (rest := [vi from_15]) rfl rfl dX3_collect_45 m_X6_rowLength t_1903 t_1080 t_1081 (c_X6_rowLength hl h_shape hc_28) rfl rfl (ly_S h_shape) rfl (Nat.le_of_ble_eq_true rfl) (Nat.le_of_ble_eq_true rfl) (Nat.le_of_ble_eq_true rfl) (Nat.le_of_ble_eq_true rfl) ?_
        refine z_st (st' := [vi x_29, vi from_15]) rfl ?_
        refine z_iadd (M := M_X3_collect) dX3_collect_48 ?_
        refine z_istore (M := M_X3_collect) (lv' := [some (vr 222), some (vr shape_0), some (vi owner_0), some (vi from_15), some (vi at_5), some (vi row_16), some (vi (from_15 + x_29)), none, none]) dX3_collect_49 (Nat.le_of_ble_eq_true rfl) rfl rfl ?_
        refine z_iload_n (M := M_X3_collect) dX3_collect_51 rfl ?_
        refine z_istore (M := M_X3_collect) (lv' := [some (vr 222), some (vr shape_0), some (vi owner_0), some (vi from_15), some (vi at_5), some (vi row_16), some (vi (from_15 + x_29)), some (vi from_15), none]) dX3_collect_52 (Nat.le_of_ble_eq_true rfl) rfl rfl ?_
        obtain ⟨rl_35, hw_32, hk_33, hk_34⟩ := bx_e H
        have J_83 : ∀ i_80 σ_81, rl_35 = (.inl (i_80, σ_81)) → YY l E M_X3_collect 3 0 0 (pS (some (zv r)) σ') 131 [some (vr 222), some (vr shape_0), some (vi owner_0), some (vi from_15), some (vi at_5), some (vi row_16), some (vi (from_15 + x_29)), some (vi i_80), none] [] σ_81 0 0 := by
          intro i_80 σ_81 e
          have H := hk_33 _ e
          refine z_iload (M := M_X3_collect) dX3_collect_131 rfl ?_
          refine z_istore_n (M := M_X3_collect) (lv' := [some (vr 222), some (vr shape_0), some (vi owner_0), some (vi (from_15 + x_29)), some (vi at_5), some (vi row_16), some (vi (from_15 + x_29)), some (vi i_80), none]) dX3_collect_133 (Nat.le_of_ble_eq_true rfl) rfl rfl ?_
          refine z_iinc (M := M_X3_collect) (lv' := [some (vr 222), some (vr shape_0), some (vi owner_0), some (vi (from_15 + x_29)), some (vi at_5), some (vi (row_16 + 1)), some (vi (from_15 + x_29)), some (vi i_80), none]) dX3_collect_134 rfl (Nat.le_of_ble_eq_true rfl) rfl rfl ?_
          refine z_goto (M := M_X3_collect) (tgt := 28) dX3_collect_137 (by decide) ?_
          refine z_le (lv' := [some (vr 222), some (vr shape_0), some (vi owner_0), some (vi (from_15 + x_29)), some (vi at_5), some (vi (row_16 + 1)), none, none, none]) ⟨Or.inr rfl, Or.inr rfl, Or.inr rfl, Or.inr rfl, Or.inr rfl, Or.inr rfl, Or.inl rfl, Or.inl rfl, Or.inl rfl, trivial⟩ ?_
          exact K_23 _ (Option.some.inj H).symm
        refine whl_go hw_32 (fun (i_30, σ_31) => YY l E M_X3_collect 3 0 0 (pS (some (zv r)) σ') 54 [some (vr 222), some (vr shape_0), some (vi owner_0), some (vi from_15), some (vi at_5), some (vi row_16), some (vi (from_15 + x_29)), some (vi i_30), none] [] σ_31 0 0) ?_
        rintro ⟨i_30, σ_31⟩ o_36 H K_37 K_38
        refine z_iload (M := M_X3_collect) dX3_collect_54 rfl ?_
        refine z_iload (M := M_X3_collect) dX3_collect_56 rfl ?_
        rcases if_e H with ⟨h_39, H⟩ | ⟨h_39, H⟩
        · refine z_icmp_ge_f (M := M_X3_collect) (tgt := 131) dX3_collect_58 (by decide) rfl rfl h_39 ?_
          have J_40 : YY l E M_X3_collect 3 0 0 (pS (some (zv r)) σ') 78 [some (vr 222), some (vr shape_0), some (vi owner_0), some (vi from_15), some (vi at_5), some (vi row_16), some (vi (from_15 + x_29)), some (vi i_30), none] [vi (if (w32 (i_30 + 1)) < (w32 (from_15 + x_29)) then (i_30 + 1) else from_15)] σ_31 0 0 := by
            obtain ⟨x_41, x_41_e, H⟩ := lt_e H
            refine z_st (congrArg (fun z => vi z :: []) x_41_e) ?_
            refine z_istore (M := M_X3_collect) (lv' := [some (vr 222), some (vr shape_0), some (vi owner_0), some (vi from_15), some (vi at_5), some (vi row_16), some (vi (from_15 + x_29)), some (vi i_30), some (vi x_41)]) dX3_collect_78 (Nat.le_of_ble_eq_true rfl) rfl rfl ?_
            refine z_aload_n (M := M_X3_collect) dX3_collect_80 rfl ?_
            refine z_iload (M := M_X3_collect) dX3_collect_81 rfl ?_
            refine z_iload (M := M_X3_collect) dX3_collect_83 rfl ?_
            obtain ⟨x_60, hc_59, H⟩ := bd_e H
            refine z_callV (M := M_X3_collect) (M' := M_X6_areLike) (as := [vi i_30, vi x_41]) (rest := []) rfl rfl dX3_collect_85 m_X6_areLike t_1904 t_1188 t_1189 (c_X6_areLike hl h_shape hc_59) rfl rfl (ly_S h_shape) rfl (Nat.le_of_ble_eq_true rfl) (Nat.le_of_ble_eq_true rfl) (Nat.le_of_ble_eq_true rfl) (Nat.le_of_ble_eq_true rfl) ?_
            refine z_st (st' := [zv x_60]) rfl ?_
            rcases if_e H with ⟨h_61, H⟩ | ⟨h_61, H⟩
            · refine z_zne_t (M := M_X3_collect) (tgt := 125) dX3_collect_88 (by decide) h_61 ?_
              refine z_iinc (M := M_X3_collect) (lv' := [some (vr 222), some (vr shape_0), some (vi owner_0), some (vi from_15), some (vi at_5), some (vi row_16), some (vi (from_15 + x_29)), some (vi (i_30 + 1)), some (vi x_41)]) dX3_collect_125 rfl (Nat.le_of_ble_eq_true rfl) rfl rfl ?_
              refine z_goto (M := M_X3_collect) (tgt := 54) dX3_collect_128 (by decide) ?_
              refine z_le (lv' := [some (vr 222), some (vr shape_0), some (vi owner_0), some (vi from_15), some (vi at_5), some (vi row_16), some (vi (from_15 + x_29)), some (vi (i_30 + 1)), none]) ⟨Or.inr rfl, Or.inr rfl, Or.inr rfl, Or.inr rfl, Or.inr rfl, Or.inr rfl, Or.inr rfl, Or.inr rfl, Or.inl rfl, trivial⟩ ?_
              exact K_37 _ (Option.some.inj H).symm
            · refine z_zne_f (M := M_X3_collect) (tgt := 125) dX3_collect_88 (by decide) h_61 ?_
              refine z_iload (M := M_X3_collect) dX3_collect_91 rfl ?_
              refine z_iload_n (M := M_X3_collect) dX3_collect_93 rfl ?_
              rcases if_e H with ⟨h_63, H⟩ | ⟨h_63, H⟩
              · refine z_icmp_ne_f (M := M_X3_collect) (tgt := 107) dX3_collect_94 (by decide) rfl rfl h_63 ?_
                refine z_aload_n (M := M_X3_collect) dX3_collect_97 rfl ?_
                obtain ⟨x_65, hc_64, H⟩ := bd_e H
                refine z_callS (M := M_X3_collect) (M' := M_X3_isArea) (as := [vr shape_0]) (rest := []) rfl rfl dX3_collect_98 m_X3_isArea t_1905 t_1906 (c_X3_isArea hl h_shape hc_64) rfl rfl (Nat.le_of_ble_eq_true rfl) (Nat.le_of_ble_eq_true rfl) (Nat.le_of_ble_eq_true rfl) (Nat.le_of_ble_eq_true rfl) ?_
                refine z_st (st' := [zv x_65]) rfl ?_
                rcases if_e H with ⟨h_66, H⟩ | ⟨h_66, H⟩
                · refine z_zne_t (M := M_X3_collect) (tgt := 107) dX3_collect_101 (by decide) h_66 ?_
                  refine z_aload_n (M := M_X3_collect) dX3_collect_107 rfl ?_
                  refine z_getR (M := M_X3_collect) (ci := 6) (C := RX3) (T := TX3) (Nf := 12) (ty := tyX3) cl6 dX3_collect_108 ly_222 0 (by decide) t_442 rfl ?_
                  refine z_aload_n (M := M_X3_collect) dX3_collect_111 rfl ?_
                  refine z_iload (M := M_X3_collect) dX3_collect_112 rfl ?_
                  refine z_iload (M := M_X3_collect) dX3_collect_114 rfl ?_
                  refine z_iload_n (M := M_X3_collect) dX3_collect_116 rfl ?_
                  obtain ⟨⟨x_69, σ_68⟩, hc_67, H⟩ := bd_e H
                  refine z_callV (M := M_X3_collect) (M' := M_X5_add) (as := [vr shape_0, vi i_30, vi x_41, vi owner_0]) (rest := []) rfl rfl dX3_collect_117 m_X5_add t_1908 t_1218 t_1219 (c_X5_add hl (by decide) h_shape hc_67) rfl rfl (ly_G (by decide)) rfl (Nat.le_of_ble_eq_true rfl) (Nat.le_of_ble_eq_true rfl) (Nat.le_of_ble_eq_true rfl) (Nat.le_of_ble_eq_true rfl) ?_
                  refine z_st (st' := [zv x_69]) rfl ?_
                  rcases if_e H with ⟨h_70, H⟩ | ⟨h_70, H⟩
                  · refine z_zne_t (M := M_X3_collect) (tgt := 125) dX3_collect_120 (by decide) h_70 ?_
                    refine z_iinc (M := M_X3_collect) (lv' := [some (vr 222), some (vr shape_0), some (vi owner_0), some (vi from_15), some (vi at_5), some (vi row_16), some (vi (from_15 + x_29)), some (vi (i_30 + 1)), some (vi x_41)]) dX3_collect_125 rfl (Nat.le_of_ble_eq_true rfl) rfl rfl ?_
                    refine z_goto (M := M_X3_collect) (tgt := 54) dX3_collect_128 (by decide) ?_
                    refine z_le (lv' := [some (vr 222), some (vr shape_0), some (vi owner_0), some (vi from_15), some (vi at_5), some (vi row_16), some (vi (from_15 + x_29)), some (vi (i_30 + 1)), none]) ⟨Or.inr rfl, Or.inr rfl, Or.inr rfl, Or.inr rfl, Or.inr rfl, Or.inr rfl, Or.inr rfl, Or.inr rfl, Or.inl rfl, trivial⟩ ?_
                    exact K_37 _ (Option.some.inj H).symm
                  · refine z_zne_f (M := M_X3_collect) (tgt := 125) dX3_collect_120 (by decide) h_70 ?_
                    refine z_zconst (M := M_X3_collect) (b := false) dX3_collect_123 rfl ?_
                    have H := congrArg some (hk_34 _ ((K_38 _ (Option.some.inj H).symm).symm))
                    have H := congrArg some (hk_20 _ ((K_24 _ (Option.some.inj H).symm).symm))
                    have H := congrArg some (hk_9 _ ((K_13 _ (Option.some.inj H).symm).symm))
                    cases H
                    exact z_zret (M := M_X3_collect) dX3_collect_124 rfl (Nat.le_of_ble_eq_true rfl) (Nat.le_of_ble_eq_true rfl) ⟨rfl, rfl⟩
                · refine z_zne_f (M := M_X3_collect) (tgt := 107) dX3_collect_101 (by decide) h_66 ?_
                  refine z_goto (M := M_X3_collect) (tgt := 125) dX3_collect_104 (by decide) ?_
                  refine z_iinc (M := M_X3_collect) (lv' := [some (vr 222), some (vr shape_0), some (vi owner_0), some (vi from_15), some (vi at_5), some (vi row_16), some (vi (from_15 + x_29)), some (vi (i_30 + 1)), some (vi x_41)]) dX3_collect_125 rfl (Nat.le_of_ble_eq_true rfl) rfl rfl ?_
                  refine z_goto (M := M_X3_collect) (tgt := 54) dX3_collect_128 (by decide) ?_
                  refine z_le (lv' := [some (vr 222), some (vr shape_0), some (vi owner_0), some (vi from_15), some (vi at_5), some (vi row_16), some (vi (from_15 + x_29)), some (vi (i_30 + 1)), none]) ⟨Or.inr rfl, Or.inr rfl, Or.inr rfl, Or.inr rfl, Or.inr rfl, Or.inr rfl, Or.inr rfl, Or.inr rfl, Or.inl rfl, trivial⟩ ?_
                  exact K_37 _ (Option.some.inj H).symm
              · refine z_icmp_ne_t (M := M_X3_collect) (tgt := 107) dX3_collect_94 (by decide) rfl rfl h_63 ?_
                refine z_aload_n (M := M_X3_collect) dX3_collect_107 rfl ?_
                refine z_getR (M := M_X3_collect) (ci := 6) (C := RX3) (T := TX3) (Nf := 12) (ty := tyX3) cl6 dX3_collect_108 ly_222 0 (by decide) t_442 rfl ?_
                refine z_aload_n (M := M_X3_collect) dX3_collect_111 rfl ?_
                refine z_iload (M := M_X3_collect) dX3_collect_112 rfl ?_
                refine z_iload (M := M_X3_collect) dX3_collect_114 rfl ?_
                refine z_iload_n (M := M_X3_collect) dX3_collect_116 rfl ?_
                obtain ⟨⟨x_75, σ_74⟩, hc_73, H⟩ := bd_e H
                refine z_callV (M := M_X3_collect) (M' := M_X5_add) (as := [vr shape_0, vi i_30, vi x_41, vi owner_0]) (rest := []) rfl rfl dX3_collect_117 m_X5_add t_1908 t_1218 t_1219 (c_X5_add hl (by decide) h_shape hc_73) rfl rfl (ly_G (by decide)) rfl (Nat.le_of_ble_eq_true rfl) (Nat.le_of_ble_eq_true rfl) (Nat.le_of_ble_eq_true rfl) (Nat.le_of_ble_eq_true rfl) ?_
                refine z_st (st' := [zv x_75]) rfl ?_
                rcases if_e H with ⟨h_76, H⟩ | ⟨h_76, H⟩
                · refine z_zne_t (M := M_X3_collect) (tgt := 125) dX3_collect_120 (by decide) h_76 ?_
                  refine z_iinc (M := M_X3_collect) (lv' := [some (vr 222), some (vr shape_0), some (vi owner_0), some (vi from_15), some (vi at_5), some (vi row_16), some (vi (from_15 + x_29)), some (vi (i_30 + 1)), some (vi x_41)]) dX3_collect_125 rfl (Nat.le_of_ble_eq_true rfl) rfl rfl ?_
                  refine z_goto (M := M_X3_collect) (tgt := 54) dX3_collect_128 (by decide) ?_
                  refine z_le (lv' := [some (vr 222), some (vr shape_0), some (vi owner_0), some (vi from_15), some (vi at_5), some (vi row_16), some (vi (from_15 + x_29)), some (vi (i_30 + 1)), none]) ⟨Or.inr rfl, Or.inr rfl, Or.inr rfl, Or.inr rfl, Or.inr rfl, Or.inr rfl, Or.inr rfl, Or.inr rfl, Or.inl rfl, trivial⟩ ?_
                  exact K_37 _ (Option.some.inj H).symm
                · refine z_zne_f (M := M_X3_collect) (tgt := 125) dX3_collect_120 (by decide) h_76 ?_
                  refine z_zconst (M := M_X3_collect) (b := false) dX3_collect_123 rfl ?_
                  have H := congrArg some (hk_34 _ ((K_38 _ (Option.some.inj H).symm).symm))
                  have H := congrArg some (hk_20 _ ((K_24 _ (Option.some.inj H).symm).symm))
                  have H := congrArg some (hk_9 _ ((K_13 _ (Option.some.inj H).symm).symm))
                  cases H
                  exact z_zret (M := M_X3_collect) dX3_collect_124 rfl (Nat.le_of_ble_eq_true rfl) (Nat.le_of_ble_eq_true rfl) ⟨rfl, rfl⟩
          refine z_iload (M := M_X3_collect) dX3_collect_61 rfl ?_
          refine z_iconst (M := M_X3_collect) dX3_collect_63 ?_
          refine z_iadd (M := M_X3_collect) dX3_collect_64 ?_
          refine z_iload (M := M_X3_collect) dX3_collect_65 rfl ?_
          by_cases h_78 : (w32 (i_30 + 1)) < (w32 (from_15 + x_29))
          · refine z_icmp_ge_f (M := M_X3_collect) (tgt := 77) dX3_collect_67 (by decide) rfl rfl h_78 ?_
            refine z_iload (M := M_X3_collect) dX3_collect_70 rfl ?_
            refine z_iconst (M := M_X3_collect) dX3_collect_72 ?_
            refine z_iadd (M := M_X3_collect) dX3_collect_73 ?_
            refine z_goto (M := M_X3_collect) (tgt := 78) dX3_collect_74 (by decide) ?_
            exact z_st (by rw [if_pos (c := (w32 (i_30 + 1)) < (w32 (from_15 + x_29))) h_78]) J_40
          · refine z_icmp_ge_t (M := M_X3_collect) (tgt := 77) dX3_collect_67 (by decide) rfl rfl (Int.not_lt.mp h_78) ?_
            refine z_iload_n (M := M_X3_collect) dX3_collect_77 rfl ?_
            exact z_st (by rw [if_neg (c := (w32 (i_30 + 1)) < (w32 (from_15 + x_29))) h_78]) J_40
        · refine z_icmp_ge_t (M := M_X3_collect) (tgt := 131) dX3_collect_58 (by decide) rfl rfl (Int.not_lt.mp h_39) ?_
          exact J_83 _ _ (K_38 _ (Option.some.inj H).symm).symm
      · refine z_icmp_ge_t (M := M_X3_collect) (tgt := 140) dX3_collect_36 (by decide) rfl rfl (Int.not_lt.mp h_27) ?_
        exact J_91 _ _ _ (K_24 _ (Option.some.inj H).symm).symm
    · refine z_icmp_ge_t (M := M_X3_collect) (tgt := 151) dX3_collect_22 (by decide) rfl rfl (Int.not_lt.mp h_14) ?_
      exact J_96 _ _ _ (K_13 _ (Option.some.inj H).symm).symm
theorem c_X3_hasTooManyMeetings (hl : l.stackTraces = false) {σ : SG} {r : Bool} {σ' : SG}  (H : fT_hasTooManyMeetings σ = some (r, σ')) : en_S l E M_X3_hasTooManyMeetings 5 0 0 [vr 222] σ (pS (some (zv r)) σ') := by
  unfold fT_hasTooManyMeetings at H
  refine z_mk (lv := [some (vr 222), none, none, none]) m_X3_hasTooManyMeetings rfl hl (Nat.le_of_ble_eq_true rfl) rfl ?_
  refine z_iconst (M := M_X3_hasTooManyMeetings) dX3_hasTooManyMeetings_0 ?_
  refine z_istore_n (M := M_X3_hasTooManyMeetings) (lv' := [some (vr 222), some (vi 0), none, none]) dX3_hasTooManyMeetings_1 (Nat.le_of_ble_eq_true rfl) rfl rfl ?_
  refine z_iconst (M := M_X3_hasTooManyMeetings) dX3_hasTooManyMeetings_2 ?_
  refine z_istore_n (M := M_X3_hasTooManyMeetings) (lv' := [some (vr 222), some (vi 0), some (vi 0), none]) dX3_hasTooManyMeetings_3 (Nat.le_of_ble_eq_true rfl) rfl rfl ?_
  obtain ⟨rl_7, hw_4, hk_5⟩ := bd_e H
  have J_49 : ∀ meetings_44 i_45 σ_46, rl_7 = (meetings_44, i_45, σ_46) → YY l E M_X3_hasTooManyMeetings 5 0 0 (pS (some (zv r)) σ') 57 [some (vr 222), some (vi meetings_44), some (vi i_45), none] [] σ_46 0 0 := by
    intro meetings_44 i_45 σ_46 e
    have H := hk_5
    rw [e] at H
    have J_47 : YY l E M_X3_hasTooManyMeetings 5 0 0 (pS (some (zv r)) σ') 69 [some (vr 222), some (vi meetings_44), some (vi i_45), none] [zv (decide (1024 < (w32 meetings_44)))] σ_46 0 0 := by
      cases H
      exact z_zret (M := M_X3_hasTooManyMeetings) dX3_hasTooManyMeetings_69 rfl (Nat.le_of_ble_eq_true rfl) (Nat.le_of_ble_eq_true rfl) ⟨rfl, rfl⟩
    refine z_iload_n (M := M_X3_hasTooManyMeetings) dX3_hasTooManyMeetings_57 rfl ?_
    refine z_sipush (M := M_X3_hasTooManyMeetings) dX3_hasTooManyMeetings_58 (by decide +kernel) ?_
    by_cases h_48 : 1024 < (w32 meetings_44)
    · refine z_icmp_le_f (M := M_X3_hasTooManyMeetings) (tgt := 68) dX3_hasTooManyMeetings_61 (by decide) rfl (by decide +kernel) h_48 ?_
      refine z_iconst (M := M_X3_hasTooManyMeetings) dX3_hasTooManyMeetings_64 ?_
      refine z_goto (M := M_X3_hasTooManyMeetings) (tgt := 69) dX3_hasTooManyMeetings_65 (by decide) ?_
      exact z_st (by rw [zv_t (p := 1024 < (w32 meetings_44)) h_48]) J_47
    · refine z_icmp_le_t (M := M_X3_hasTooManyMeetings) (tgt := 68) dX3_hasTooManyMeetings_61 (by decide) rfl (by decide +kernel) (Int.not_lt.mp h_48) ?_
      refine z_iconst (M := M_X3_hasTooManyMeetings) dX3_hasTooManyMeetings_68 ?_
      exact z_st (by rw [zv_f (p := 1024 < (w32 meetings_44)) h_48]) J_47
  refine whl_go hw_4 (fun (meetings_1, i_2, σ_3) => YY l E M_X3_hasTooManyMeetings 5 0 0 (pS (some (zv r)) σ') 4 [some (vr 222), some (vi meetings_1), some (vi i_2), none] [] σ_3 0 0) ?_
  rintro ⟨meetings_1, i_2, σ_3⟩ o_8 H K_9 K_10
  refine z_iload_n (M := M_X3_hasTooManyMeetings) dX3_hasTooManyMeetings_4 rfl ?_
  refine z_aload_n (M := M_X3_hasTooManyMeetings) dX3_hasTooManyMeetings_5 rfl ?_
  refine z_getR (M := M_X3_hasTooManyMeetings) (ci := 6) (C := RX3) (T := TX3) (Nf := 12) (ty := tyX3) cl6 dX3_hasTooManyMeetings_6 ly_222 0 (by decide) t_442 rfl ?_
  refine z_getI (M := M_X3_hasTooManyMeetings) (ci := 8) (C := RX5) (T := TX5) (Nf := 8) (ty := tyX5) cl8 dX3_hasTooManyMeetings_9 (ly_G (by decide)) 5 (by decide) t_257 rfl rfl ?_
  rcases if_e H with ⟨h_11, H⟩ | ⟨h_11, H⟩
  · refine z_icmp_ge_f (M := M_X3_hasTooManyMeetings) (tgt := 57) dX3_hasTooManyMeetings_12 (by decide) rfl rfl h_11 ?_
    refine z_iload_n (M := M_X3_hasTooManyMeetings) dX3_hasTooManyMeetings_15 rfl ?_
    refine z_iconst (M := M_X3_hasTooManyMeetings) dX3_hasTooManyMeetings_16 ?_
    refine z_iadd (M := M_X3_hasTooManyMeetings) dX3_hasTooManyMeetings_17 ?_
    refine z_istore_n (M := M_X3_hasTooManyMeetings) (lv' := [some (vr 222), some (vi meetings_1), some (vi i_2), some (vi (i_2 + 1))]) dX3_hasTooManyMeetings_18 (Nat.le_of_ble_eq_true rfl) rfl rfl ?_
    obtain ⟨rl_18, hw_15, hk_16⟩ := bd_e H
    have J_42 : ∀ meetings_38 j_39 σ_40, rl_18 = (meetings_38, j_39, σ_40) → YY l E M_X3_hasTooManyMeetings 5 0 0 (pS (some (zv r)) σ') 51 [some (vr 222), some (vi meetings_38), some (vi i_2), some (vi j_39)] [] σ_40 0 0 := by
      intro meetings_38 j_39 σ_40 e
      have H := hk_16
      rw [e] at H
      refine z_iinc (M := M_X3_hasTooManyMeetings) (lv' := [some (vr 222), some (vi meetings_38), some (vi (i_2 + 1)), some (vi j_39)]) dX3_hasTooManyMeetings_51 rfl (Nat.le_of_ble_eq_true rfl) rfl rfl ?_
      refine z_goto (M := M_X3_hasTooManyMeetings) (tgt := 4) dX3_hasTooManyMeetings_54 (by decide) ?_
      refine z_le (lv' := [some (vr 222), some (vi meetings_38), some (vi (i_2 + 1)), none]) ⟨Or.inr rfl, Or.inr rfl, Or.inr rfl, Or.inl rfl, trivial⟩ ?_
      exact K_9 _ (Option.some.inj H).symm
    refine whl_go hw_15 (fun (meetings_12, j_13, σ_14) => YY l E M_X3_hasTooManyMeetings 5 0 0 (pS (some (zv r)) σ') 19 [some (vr 222), some (vi meetings_12), some (vi i_2), some (vi j_13)] [] σ_14 0 0) ?_
    rintro ⟨meetings_12, j_13, σ_14⟩ o_19 H K_20 K_21
    refine z_iload_n (M := M_X3_hasTooManyMeetings) dX3_hasTooManyMeetings_19 rfl ?_
    refine z_aload_n (M := M_X3_hasTooManyMeetings) dX3_hasTooManyMeetings_20 rfl ?_
    refine z_getR (M := M_X3_hasTooManyMeetings) (ci := 6) (C := RX3) (T := TX3) (Nf := 12) (ty := tyX3) cl6 dX3_hasTooManyMeetings_21 ly_222 0 (by decide) t_442 rfl ?_
    refine z_getI (M := M_X3_hasTooManyMeetings) (ci := 8) (C := RX5) (T := TX5) (Nf := 8) (ty := tyX5) cl8 dX3_hasTooManyMeetings_24 (ly_G (by decide)) 5 (by decide) t_257 rfl rfl ?_
    rcases if_e H with ⟨h_22, H⟩ | ⟨h_22, H⟩
    · refine z_icmp_ge_f (M := M_X3_hasTooManyMeetings) (tgt := 51) dX3_hasTooManyMeetings_27 (by decide) rfl rfl h_22 ?_
      obtain ⟨v_26, he_23, hk_24⟩ := bd_e H
      have J_36 : ∀ meetings_33 σ_34, v_26 = (meetings_33, σ_34) → YY l E M_X3_hasTooManyMeetings 5 0 0 (pS (some (zv r)) σ') 45 [some (vr 222), some (vi meetings_33), some (vi i_2), some (vi j_13)] [] σ_34 0 0 := by
        intro meetings_33 σ_34 e
        have H := hk_24
        rw [e] at H
        refine z_iinc (M := M_X3_hasTooManyMeetings) (lv' := [some (vr 222), some (vi meetings_33), some (vi i_2), some (vi (j_13 + 1))]) dX3_hasTooManyMeetings_45 rfl (Nat.le_of_ble_eq_true rfl) rfl rfl ?_
        refine z_goto (M := M_X3_hasTooManyMeetings) (tgt := 19) dX3_hasTooManyMeetings_48 (by decide) ?_
        exact K_20 _ (Option.some.inj H).symm
      have H := he_23
      refine z_aload_n (M := M_X3_hasTooManyMeetings) dX3_hasTooManyMeetings_30 rfl ?_
      refine z_getR (M := M_X3_hasTooManyMeetings) (ci := 6) (C := RX3) (T := TX3) (Nf := 12) (ty := tyX3) cl6 dX3_hasTooManyMeetings_31 ly_222 0 (by decide) t_442 rfl ?_
      refine z_iload_n (M := M_X3_hasTooManyMeetings) dX3_hasTooManyMeetings_34 rfl ?_
      refine z_iload_n (M := M_X3_hasTooManyMeetings) dX3_hasTooManyMeetings_35 rfl ?_
      obtain ⟨⟨x_29, σ_28⟩, hc_27, H⟩ := bd_e H
      refine z_callV (M := M_X3_hasTooManyMeetings) (M' := M_X5_meet) (as := [vi i_2, vi j_13]) (rest := []) rfl rfl dX3_hasTooManyMeetings_36 m_X5_meet t_1913 t_1256 t_1257 (c_X5_meet hl (by decide) hc_27) rfl rfl (ly_G (by decide)) rfl (Nat.le_of_ble_eq_true rfl) (Nat.le_of_ble_eq_true rfl) (Nat.le_of_ble_eq_true rfl) (Nat.le_of_ble_eq_true rfl) ?_
      refine z_st (st' := [vi x_29]) rfl ?_
      rcases if_e H with ⟨h_30, H⟩ | ⟨h_30, H⟩
      · refine z_if_eq_f (M := M_X3_hasTooManyMeetings) (tgt := 45) dX3_hasTooManyMeetings_39 (by decide) rfl h_30 ?_
        refine z_iinc (M := M_X3_hasTooManyMeetings) (lv' := [some (vr 222), some (vi (meetings_12 + 1)), some (vi i_2), some (vi j_13)]) dX3_hasTooManyMeetings_42 rfl (Nat.le_of_ble_eq_true rfl) rfl rfl ?_
        exact J_36 _ _ (Option.some.inj H).symm
      · refine z_if_eq_t (M := M_X3_hasTooManyMeetings) (tgt := 45) dX3_hasTooManyMeetings_39 (by decide) rfl (Decidable.not_not.mp h_30) ?_
        exact J_36 _ _ (Option.some.inj H).symm
    · refine z_icmp_ge_t (M := M_X3_hasTooManyMeetings) (tgt := 51) dX3_hasTooManyMeetings_27 (by decide) rfl rfl (Int.not_lt.mp h_22) ?_
      exact J_42 _ _ _ (K_21 _ (Option.some.inj H).symm).symm
  · refine z_icmp_ge_t (M := M_X3_hasTooManyMeetings) (tgt := 57) dX3_hasTooManyMeetings_12 (by decide) rfl rfl (Int.not_lt.mp h_11) ?_
    exact J_49 _ _ _ (K_10 _ (Option.some.inj H).symm).symm
theorem c_X3_listRims (hl : l.stackTraces = false) {σ : SG} {shape_0 : Nat} {owner_0 : Int} {σ' : SG} (h_shape : isS shape_0) (H : fT_listRims σ shape_0 owner_0 = some σ') : en_S l E M_X3_listRims 3 0 0 [vr 222, vr shape_0, vi owner_0] σ (pS (none) σ') := by
  unfold fT_listRims at H
  refine z_mk (lv := [some (vr 222), some (vr shape_0), some (vi owner_0), none, none, none, none]) m_X3_listRims rfl hl (Nat.le_of_ble_eq_true rfl) rfl ?_
  refine z_aload_n (M := M_X3_listRims) dX3_listRims_0 rfl ?_
  obtain ⟨x_2, hc_1, H⟩ := bd_e H
  refine z_callS (M := M_X3_listRims) (M' := M_X3_isOfLines) (as := [vr shape_0]) (rest := []) rfl rfl dX3_listRims_1 m_X3_isOfLines t_1921 t_1922 (c_X3_isOfLines hl h_shape hc_1) rfl rfl (Nat.le_of_ble_eq_true rfl) (Nat.le_of_ble_eq_true rfl) (Nat.le_of_ble_eq_true rfl) (Nat.le_of_ble_eq_true rfl) ?_
  refine z_st (st' := [zv x_2]) rfl ?_
  rcases if_e H with ⟨h_3, H⟩ | ⟨h_3, H⟩
  · refine z_zne_t (M := M_X3_listRims) (tgt := 8) dX3_listRims_4 (by decide) h_3 ?_
    refine z_iconst (M := M_X3_listRims) dX3_listRims_8 ?_
    refine z_istore_n (M := M_X3_listRims) (lv' := [some (vr 222), some (vr shape_0), some (vi owner_0), some (vi 0), none, none, none]) dX3_listRims_9 (Nat.le_of_ble_eq_true rfl) rfl rfl ?_
    refine z_iconst (M := M_X3_listRims) dX3_listRims_10 ?_
    refine z_istore (M := M_X3_listRims) (lv' := [some (vr 222), some (vr shape_0), some (vi owner_0), some (vi 0), some (vi 0), none, none]) dX3_listRims_11 (Nat.le_of_ble_eq_true rfl) rfl rfl ?_
    refine z_iconst (M := M_X3_listRims) dX3_listRims_13 ?_
    refine z_istore (M := M_X3_listRims) (lv' := [some (vr 222), some (vr shape_0), some (vi owner_0), some (vi 0), some (vi 0), some (vi 0), none]) dX3_listRims_14 (Nat.le_of_ble_eq_true rfl) rfl rfl ?_
    obtain ⟨rl_11, hw_8, hk_9⟩ := bd_e H
    have J_163 : ∀ size_60 from_61 at_62 σ_63, rl_11 = (size_60, from_61, at_62, σ_63) → YY l E M_X3_listRims 3 0 0 (pS (none) σ') 137 [some (vr 222), some (vr shape_0), some (vi owner_0), some (vi size_60), some (vi from_61), some (vi at_62), none] [] σ_63 0 0 := by
      intro size_60 from_61 at_62 σ_63 e
      have H := hk_9
      rw [e] at H
      refine z_aload_n (M := M_X3_listRims) dX3_listRims_137 rfl ?_
      refine z_getR (M := M_X3_listRims) (ci := 6) (C := RX3) (T := TX3) (Nf := 12) (ty := tyX3) cl6 dX3_listRims_138 ly_222 2 (by decide) t_444 rfl ?_
      refine z_iload_n (M := M_X3_listRims) dX3_listRims_141 rfl ?_
      obtain ⟨σ_65, hc_64, H⟩ := bd_e H
      refine z_callSN (M := M_X3_listRims) (M' := M_X11_sortRow) (as := [vr 230, vi size_60]) (rest := []) rfl rfl dX3_listRims_142 m_X11_sortRow n_1926 t_1417 (c_X11_sortRow hl ly_230 hc_64) rfl rfl (Nat.le_of_ble_eq_true rfl) (Nat.le_of_ble_eq_true rfl) (Nat.le_of_ble_eq_true rfl) (Nat.le_of_ble_eq_true rfl) ?_
      refine z_st (st' := []) rfl ?_
      refine z_zconst (M := M_X3_listRims) (b := false) dX3_listRims_145 rfl ?_
      refine z_zstore (M := M_X3_listRims) (lv' := [some (vr 222), some (vr shape_0), some (vi owner_0), some (vi size_60), some (vi from_61), some (zv false), none]) dX3_listRims_146 (Nat.le_of_ble_eq_true rfl) rfl rfl ?_
      refine z_iconst (M := M_X3_listRims) dX3_listRims_148 ?_
      refine z_istore (M := M_X3_listRims) (lv' := [some (vr 222), some (vr shape_0), some (vi owner_0), some (vi size_60), some (vi from_61), some (zv false), some (vi 0)]) dX3_listRims_149 (Nat.le_of_ble_eq_true rfl) rfl rfl ?_
      obtain ⟨rl_72, hw_69, hk_70⟩ := bd_e H
      have J_162 : ∀ odd_159 i_160 σ_161, rl_72 = (odd_159, i_160, σ_161) → YY l E M_X3_listRims 3 0 0 (pS (none) σ') 284 [some (vr 222), some (vr shape_0), some (vi owner_0), some (vi size_60), some (vi from_61), some (zv odd_159), some (vi i_160)] [] σ_161 0 0 := by
        intro odd_159 i_160 σ_161 e
        have H := hk_70
        rw [e] at H
        cases H
        exact z_vret (M := M_X3_listRims) dX3_listRims_284 rfl (Nat.le_of_ble_eq_true rfl) (Nat.le_of_ble_eq_true rfl) ⟨rfl, rfl⟩
      refine whl_go hw_69 (fun (odd_66, i_67, σ_68) => YY l E M_X3_listRims 3 0 0 (pS (none) σ') 151 [some (vr 222), some (vr shape_0), some (vi owner_0), some (vi size_60), some (vi from_61), some (zv odd_66), some (vi i_67)] [] σ_68 0 0) ?_
      rintro ⟨odd_66, i_67, σ_68⟩ o_73 H K_74 K_75
      refine z_iload (M := M_X3_listRims) dX3_listRims_151 rfl ?_
      refine z_iload_n (M := M_X3_listRims) dX3_listRims_153 rfl ?_
      rcases if_e H with ⟨h_76, H⟩ | ⟨h_76, H⟩
      · refine z_icmp_ge_f (M := M_X3_listRims) (tgt := 284) dX3_listRims_154 (by decide) rfl rfl h_76 ?_
        have J_77 : YY l E M_X3_listRims 3 0 0 (pS (none) σ') 167 [some (vr 222), some (vr shape_0), some (vi owner_0), some (vi size_60), some (vi from_61), some (zv odd_66), some (vi i_67)] [zv (decide (¬ (odd_66 = true)))] σ_68 0 0 := by
          refine z_zstore (M := M_X3_listRims) (lv' := [some (vr 222), some (vr shape_0), some (vi owner_0), some (vi size_60), some (vi from_61), some (zv (decide (¬ (odd_66 = true)))), some (vi i_67)]) dX3_listRims_167 (Nat.le_of_ble_eq_true rfl) rfl rfl ?_
          obtain ⟨v_152, he_153, hk_154⟩ := bd_e H
          have J_155 : v_152 = true → YY l E M_X3_listRims 3 0 0 (pS (none) σ') 197 [some (vr 222), some (vr shape_0), some (vi owner_0), some (vi size_60), some (vi from_61), some (zv (decide (¬ (odd_66 = true)))), some (vi i_67)] [] σ_68 0 0 := by
            intro e
            have H := hk_154
            rw [e] at H
            rcases if_e H with ⟨_, H⟩ | ⟨q, H⟩
            · refine z_goto (M := M_X3_listRims) (tgt := 278) dX3_listRims_197 (by decide) ?_
              refine z_iinc (M := M_X3_listRims) (lv' := [some (vr 222), some (vr shape_0), some (vi owner_0), some (vi size_60), some (vi from_61), some (zv (decide (¬ (odd_66 = true)))), some (vi (i_67 + 1))]) dX3_listRims_278 rfl (Nat.le_of_ble_eq_true rfl) rfl rfl ?_
              refine z_goto (M := M_X3_listRims) (tgt := 151) dX3_listRims_281 (by decide) ?_
              exact K_74 _ (Option.some.inj H).symm
            · exact absurd rfl q
          have J_156 : v_152 = false → YY l E M_X3_listRims 3 0 0 (pS (none) σ') 200 [some (vr 222), some (vr shape_0), some (vi owner_0), some (vi size_60), some (vi from_61), some (zv (decide (¬ (odd_66 = true)))), some (vi i_67)] [] σ_68 0 0 := by
            intro e
            have H := hk_154
            rw [e] at H
            rcases if_e H with ⟨q, H⟩ | ⟨_, H⟩
            · exact nomatch q
            · obtain ⟨v_128, he_125, hk_126⟩ := bd_e H
              have J_151 : ∀ σ_149, v_128 = σ_149 → YY l E M_X3_listRims 3 0 0 (pS (none) σ') 275 [some (vr 222), some (vr shape_0), some (vi owner_0), some (vi size_60), some (vi from_61), some (zv (decide (¬ (odd_66 = true)))), some (vi i_67)] [] σ_149 0 0 := by
                intro σ_149 e
                have H := hk_126
                rw [e] at H
                refine z_zconst (M := M_X3_listRims) (b := false) dX3_listRims_275 rfl ?_
                refine z_zstore (M := M_X3_listRims) (lv' := [some (vr 222), some (vr shape_0), some (vi owner_0), some (vi size_60), some (vi from_61), some (zv false), some (vi i_67)]) dX3_listRims_276 (Nat.le_of_ble_eq_true rfl) rfl rfl ?_
                refine z_iinc (M := M_X3_listRims) (lv' := [some (vr 222), some (vr shape_0), some (vi owner_0), some (vi size_60), some (vi from_61), some (zv false), some (vi (i_67 + 1))]) dX3_listRims_278 rfl (Nat.le_of_ble_eq_true rfl) rfl rfl ?_
                refine z_goto (M := M_X3_listRims) (tgt := 151) dX3_listRims_281 (by decide) ?_
                exact K_74 _ (Option.some.inj H).symm
              have H := he_125
              rcases if_e H with ⟨h_142, H⟩ | ⟨h_142, H⟩
              · have J_143 : YY l E M_X3_listRims 3 0 0 (pS (none) σ') 217 [some (vr 222), some (vr shape_0), some (vi owner_0), some (vi size_60), some (vi from_61), some (zv (decide (¬ (odd_66 = true)))), some (vi i_67)] [] σ_68 0 0 := by
                  refine z_aload_n (M := M_X3_listRims) dX3_listRims_217 rfl ?_
                  refine z_getR (M := M_X3_listRims) (ci := 6) (C := RX3) (T := TX3) (Nf := 12) (ty := tyX3) cl6 dX3_listRims_218 ly_222 3 (by decide) t_445 rfl ?_
                  refine z_aload_n (M := M_X3_listRims) dX3_listRims_221 rfl ?_
                  refine z_getI (M := M_X3_listRims) (ci := 6) (C := RX3) (T := TX3) (Nf := 12) (ty := tyX3) cl6 dX3_listRims_222 ly_222 6 (by decide) t_448 rfl rfl ?_
                  refine z_aload_n (M := M_X3_listRims) dX3_listRims_225 rfl ?_
                  refine z_getR (M := M_X3_listRims) (ci := 6) (C := RX3) (T := TX3) (Nf := 12) (ty := tyX3) cl6 dX3_listRims_226 ly_222 2 (by decide) t_444 rfl ?_
                  refine z_iload (M := M_X3_listRims) dX3_listRims_229 rfl ?_
                  obtain ⟨x_129, x_129_e, hi_130, H⟩ := rd_e H
                  refine z_lald (M := M_X3_listRims) dX3_listRims_231 ly_230 rfl rfl rfl hi_130 x_129_e ?_
                  refine z_callSN (M := M_X3_listRims) (M' := M_X11_keyX) (as := [vl x_129]) (rest := [vi (σ_68 kT_rims 0), vr 231]) rfl rfl dX3_listRims_232 m_X11_keyX n_1927 t_1454 (c_X11_keyX hl  rfl) rfl rfl (Nat.le_of_ble_eq_true rfl) (Nat.le_of_ble_eq_true rfl) (Nat.le_of_ble_eq_true rfl) (Nat.le_of_ble_eq_true rfl) ?_
                  refine z_st (st' := [vi (fQ_keyX x_129), vi (σ_68 kT_rims 0), vr 231]) rfl ?_
                  obtain ⟨σ_131, σ_131_e, hi_132, H⟩ := wa_e H
                  refine z_iast (M := M_X3_listRims) dX3_listRims_235 ly_231 rfl rfl rfl hi_132 σ_131_e ?_
                  refine z_aload_n (M := M_X3_listRims) dX3_listRims_236 rfl ?_
                  refine z_getR (M := M_X3_listRims) (ci := 6) (C := RX3) (T := TX3) (Nf := 12) (ty := tyX3) cl6 dX3_listRims_237 ly_222 4 (by decide) t_446 rfl ?_
                  refine z_aload_n (M := M_X3_listRims) dX3_listRims_240 rfl ?_
                  refine z_getI (M := M_X3_listRims) (ci := 6) (C := RX3) (T := TX3) (Nf := 12) (ty := tyX3) cl6 dX3_listRims_241 ly_222 6 (by decide) t_448 rfl rfl ?_
                  refine z_aload_n (M := M_X3_listRims) dX3_listRims_244 rfl ?_
                  refine z_getR (M := M_X3_listRims) (ci := 6) (C := RX3) (T := TX3) (Nf := 12) (ty := tyX3) cl6 dX3_listRims_245 ly_222 2 (by decide) t_444 rfl ?_
                  refine z_iload (M := M_X3_listRims) dX3_listRims_248 rfl ?_
                  obtain ⟨x_133, x_133_e, hi_134, H⟩ := rd_e H
                  refine z_lald (M := M_X3_listRims) dX3_listRims_250 ly_230 rfl rfl rfl hi_134 x_133_e ?_
                  refine z_callSN (M := M_X3_listRims) (M' := M_X11_keyY) (as := [vl x_133]) (rest := [vi (σ_131 kT_rims 0), vr 232]) rfl rfl dX3_listRims_251 m_X11_keyY n_1928 t_1457 (c_X11_keyY hl  rfl) rfl rfl (Nat.le_of_ble_eq_true rfl) (Nat.le_of_ble_eq_true rfl) (Nat.le_of_ble_eq_true rfl) (Nat.le_of_ble_eq_true rfl) ?_
                  refine z_st (st' := [vi (fQ_keyY x_133), vi (σ_131 kT_rims 0), vr 232]) rfl ?_
                  obtain ⟨σ_135, σ_135_e, hi_136, H⟩ := wa_e H
                  refine z_iast (M := M_X3_listRims) dX3_listRims_254 ly_232 rfl rfl rfl hi_136 σ_135_e ?_
                  refine z_aload_n (M := M_X3_listRims) dX3_listRims_255 rfl ?_
                  refine z_getR (M := M_X3_listRims) (ci := 6) (C := RX3) (T := TX3) (Nf := 12) (ty := tyX3) cl6 dX3_listRims_256 ly_222 5 (by decide) t_447 rfl ?_
                  refine z_aload_n (M := M_X3_listRims) dX3_listRims_259 rfl ?_
                  refine z_getI (M := M_X3_listRims) (ci := 6) (C := RX3) (T := TX3) (Nf := 12) (ty := tyX3) cl6 dX3_listRims_260 ly_222 6 (by decide) t_448 rfl rfl ?_
                  refine z_iload_n (M := M_X3_listRims) dX3_listRims_263 rfl ?_
                  obtain ⟨σ_137, σ_137_e, hi_138, H⟩ := wa_e H
                  refine z_iast (M := M_X3_listRims) dX3_listRims_264 ly_233 rfl rfl rfl hi_138 σ_137_e ?_
                  refine z_aload_n (M := M_X3_listRims) dX3_listRims_265 rfl ?_
                  refine z_dup (M := M_X3_listRims) dX3_listRims_266 rfl ?_
                  refine z_getI (M := M_X3_listRims) (ci := 6) (C := RX3) (T := TX3) (Nf := 12) (ty := tyX3) cl6 dX3_listRims_267 ly_222 6 (by decide) t_448 rfl rfl ?_
                  refine z_iconst (M := M_X3_listRims) dX3_listRims_270 ?_
                  refine z_iadd (M := M_X3_listRims) dX3_listRims_271 ?_
                  obtain ⟨σ_139, σ_139_e, H⟩ := wf_e H
                  refine z_putI (M := M_X3_listRims) (ci := 6) (C := RX3) (T := TX3) (Nf := 12) (ty := tyX3) cl6 dX3_listRims_272 ly_222 6 (by decide) t_448 rfl rfl rfl rfl σ_139_e ?_
                  exact J_151 _ (Option.some.inj H).symm
                refine z_zload (M := M_X3_listRims) dX3_listRims_200 rfl ?_
                by_cases h_145 : (decide (¬ (odd_66 = true))) = true
                · refine z_zeq_f (M := M_X3_listRims) (tgt := 275) dX3_listRims_202 (by decide) h_145 ?_
                  refine z_aload_n (M := M_X3_listRims) dX3_listRims_205 rfl ?_
                  refine z_getI (M := M_X3_listRims) (ci := 6) (C := RX3) (T := TX3) (Nf := 12) (ty := tyX3) cl6 dX3_listRims_206 ly_222 6 (by decide) t_448 rfl rfl ?_
                  refine z_aload_n (M := M_X3_listRims) dX3_listRims_209 rfl ?_
                  refine z_getR (M := M_X3_listRims) (ci := 6) (C := RX3) (T := TX3) (Nf := 12) (ty := tyX3) cl6 dX3_listRims_210 ly_222 3 (by decide) t_445 rfl ?_
                  refine z_alen (M := M_X3_listRims) (N := 512) dX3_listRims_213 ly_231 (by decide) rfl ?_
                  by_cases h_146 : (w32 (σ_68 kT_rims 0)) < 512
                  · refine z_icmp_ge_f (M := M_X3_listRims) (tgt := 275) dX3_listRims_214 (by decide) rfl (by decide +kernel) h_146 ?_
                    exact J_143
                  · refine z_icmp_ge_t (M := M_X3_listRims) (tgt := 275) dX3_listRims_214 (by decide) rfl (by decide +kernel) (Int.not_lt.mp h_146) ?_
                    exact absurd h_142 (fun q => h_146 q.2)
                · refine z_zeq_t (M := M_X3_listRims) (tgt := 275) dX3_listRims_202 (by decide) h_145 ?_
                  exact absurd h_142 (fun q => h_145 q.1)
              · have J_144 : YY l E M_X3_listRims 3 0 0 (pS (none) σ') 275 [some (vr 222), some (vr shape_0), some (vi owner_0), some (vi size_60), some (vi from_61), some (zv (decide (¬ (odd_66 = true)))), some (vi i_67)] [] σ_68 0 0 := by
                  exact J_151 _ (Option.some.inj H).symm
                refine z_zload (M := M_X3_listRims) dX3_listRims_200 rfl ?_
                by_cases h_147 : (decide (¬ (odd_66 = true))) = true
                · refine z_zeq_f (M := M_X3_listRims) (tgt := 275) dX3_listRims_202 (by decide) h_147 ?_
                  refine z_aload_n (M := M_X3_listRims) dX3_listRims_205 rfl ?_
                  refine z_getI (M := M_X3_listRims) (ci := 6) (C := RX3) (T := TX3) (Nf := 12) (ty := tyX3) cl6 dX3_listRims_206 ly_222 6 (by decide) t_448 rfl rfl ?_
                  refine z_aload_n (M := M_X3_listRims) dX3_listRims_209 rfl ?_
                  refine z_getR (M := M_X3_listRims) (ci := 6) (C := RX3) (T := TX3) (Nf := 12) (ty := tyX3) cl6 dX3_listRims_210 ly_222 3 (by decide) t_445 rfl ?_
                  refine z_alen (M := M_X3_listRims) (N := 512) dX3_listRims_213 ly_231 (by decide) rfl ?_
                  by_cases h_148 : (w32 (σ_68 kT_rims 0)) < 512
                  · refine z_icmp_ge_f (M := M_X3_listRims) (tgt := 275) dX3_listRims_214 (by decide) rfl (by decide +kernel) h_148 ?_
                    exact absurd ⟨h_147, h_148⟩ h_142
                  · refine z_icmp_ge_t (M := M_X3_listRims) (tgt := 275) dX3_listRims_214 (by decide) rfl (by decide +kernel) (Int.not_lt.mp h_148) ?_
                    exact J_144
                · refine z_zeq_t (M := M_X3_listRims) (tgt := 275) dX3_listRims_202 (by decide) h_147 ?_
                  exact J_144
          have H := he_153
          refine z_iload (M := M_X3_listRims) dX3_listRims_169 rfl ?_
          refine z_iconst (M := M_X3_listRims) dX3_listRims_171 ?_
          refine z_iadd (M := M_X3_listRims) dX3_listRims_172 ?_
          refine z_iload_n (M := M_X3_listRims) dX3_listRims_173 rfl ?_
          rcases if_e H with ⟨h_114, H⟩ | ⟨h_114, H⟩
          · refine z_icmp_ge_f (M := M_X3_listRims) (tgt := 200) dX3_listRims_174 (by decide) rfl rfl h_114 ?_
            refine z_aload_n (M := M_X3_listRims) dX3_listRims_177 rfl ?_
            refine z_getR (M := M_X3_listRims) (ci := 6) (C := RX3) (T := TX3) (Nf := 12) (ty := tyX3) cl6 dX3_listRims_178 ly_222 2 (by decide) t_444 rfl ?_
            refine z_iload (M := M_X3_listRims) dX3_listRims_181 rfl ?_
            refine z_iconst (M := M_X3_listRims) dX3_listRims_183 ?_
            refine z_iadd (M := M_X3_listRims) dX3_listRims_184 ?_
            obtain ⟨x_115, x_115_e, hi_116, H⟩ := rd_e H
            refine z_lald (M := M_X3_listRims) dX3_listRims_185 ly_230 rfl rfl rfl hi_116 x_115_e ?_
            refine z_aload_n (M := M_X3_listRims) dX3_listRims_186 rfl ?_
            refine z_getR (M := M_X3_listRims) (ci := 6) (C := RX3) (T := TX3) (Nf := 12) (ty := tyX3) cl6 dX3_listRims_187 ly_222 2 (by decide) t_444 rfl ?_
            refine z_iload (M := M_X3_listRims) dX3_listRims_190 rfl ?_
            obtain ⟨x_117, x_117_e, hi_118, H⟩ := rd_e H
            refine z_lald (M := M_X3_listRims) dX3_listRims_192 ly_230 rfl rfl rfl hi_118 x_117_e ?_
            refine z_lcmp (M := M_X3_listRims) dX3_listRims_193 ?_
            rcases if_e H with ⟨h_119, H⟩ | ⟨h_119, H⟩
            · refine z_lif_ne_f (M := M_X3_listRims) (tgt := 200) dX3_listRims_194 (by decide) rfl rfl h_119 ?_
              exact J_155 (Option.some.inj H).symm
            · refine z_lif_ne_t (M := M_X3_listRims) (tgt := 200) dX3_listRims_194 (by decide) rfl rfl h_119 ?_
              exact J_156 (Option.some.inj H).symm
          · refine z_icmp_ge_t (M := M_X3_listRims) (tgt := 200) dX3_listRims_174 (by decide) rfl rfl (Int.not_lt.mp h_114) ?_
            exact J_156 (Option.some.inj H).symm
        refine z_zload (M := M_X3_listRims) dX3_listRims_157 rfl ?_
        by_cases h_157 : odd_66 = true
        · refine z_zne_t (M := M_X3_listRims) (tgt := 166) dX3_listRims_159 (by decide) h_157 ?_
          refine z_iconst (M := M_X3_listRims) dX3_listRims_166 ?_
          exact z_st (by rw [zv_f (p := ¬ (odd_66 = true)) (not_not_intro h_157)]) J_77
        · refine z_zne_f (M := M_X3_listRims) (tgt := 166) dX3_listRims_159 (by decide) h_157 ?_
          refine z_iconst (M := M_X3_listRims) dX3_listRims_162 ?_
          refine z_goto (M := M_X3_listRims) (tgt := 167) dX3_listRims_163 (by decide) ?_
          exact z_st (by rw [zv_t (p := ¬ (odd_66 = true)) h_157]) J_77
      · refine z_icmp_ge_t (M := M_X3_listRims) (tgt := 284) dX3_listRims_154 (by decide) rfl rfl (Int.not_lt.mp h_76) ?_
        exact J_162 _ _ _ (K_75 _ (Option.some.inj H).symm).symm
    refine whl_go hw_8 (fun (size_4, from_5, at_6, σ_7) => YY l E M_X3_listRims 3 0 0 (pS (none) σ') 16 [some (vr 222), some (vr shape_0), some (vi owner_0), some (vi size_4), some (vi from_5), some (vi at_6), none] [] σ_7 0 0) ?_
    rintro ⟨size_4, from_5, at_6, σ_7⟩ o_12 H K_13 K_14
    refine z_iload (M := M_X3_listRims) dX3_listRims_16 rfl ?_
    refine z_iconst (M := M_X3_listRims) dX3_listRims_18 ?_
    refine z_iadd (M := M_X3_listRims) dX3_listRims_19 ?_
    refine z_aload_n (M := M_X3_listRims) dX3_listRims_20 rfl ?_
    refine z_getI (M := M_X3_listRims) (ci := 9) (C := RX6) (T := TX6) (Nf := 5) (ty := tyX6) cl9 dX3_listRims_21 (ly_S h_shape) 3 (by decide) t_76 rfl rfl ?_
    rcases if_e H with ⟨h_15, H⟩ | ⟨h_15, H⟩
    · refine z_icmp_ge_f (M := M_X3_listRims) (tgt := 137) dX3_listRims_24 (by decide) rfl rfl h_15 ?_
      refine z_iload (M := M_X3_listRims) dX3_listRims_27 rfl ?_
      refine z_aload_n (M := M_X3_listRims) dX3_listRims_29 rfl ?_
      refine z_iload (M := M_X3_listRims) dX3_listRims_30 rfl ?_
      obtain ⟨x_17, hc_16, H⟩ := bd_e H
      refine z_callV (M := M_X3_listRims) (M' := M_X6_pointsAt) (as := [vi at_6]) (rest := [vi from_5]) rfl rfl dX3_listRims_32 m_X6_pointsAt t_1924 t_1097 t_1098 (c_X6_pointsAt hl h_shape hc_16) rfl rfl (ly_S h_shape) rfl (Nat.le_of_ble_eq_true rfl) (Nat.le_of_ble_eq_true rfl) (Nat.le_of_ble_eq_true rfl) (Nat.le_of_ble_eq_true rfl) ?_
      refine z_st (st' := [vi x_17, vi from_5]) rfl ?_
      refine z_iadd (M := M_X3_listRims) dX3_listRims_35 ?_
      refine z_iconst (M := M_X3_listRims) dX3_listRims_36 ?_
      refine z_isub (M := M_X3_listRims) dX3_listRims_37 ?_
      refine z_istore (M := M_X3_listRims) (lv' := [some (vr 222), some (vr shape_0), some (vi owner_0), some (vi size_4), some (vi from_5), some (vi at_6), some (vi ((from_5 + x_17) - 1))]) dX3_listRims_38 (Nat.le_of_ble_eq_true rfl) rfl rfl ?_
      obtain ⟨v_21, he_18, hk_19⟩ := bd_e H
      have J_58 : ∀ size_53 σ_54, v_21 = (size_53, σ_54) → YY l E M_X3_listRims 3 0 0 (pS (none) σ') 120 [some (vr 222), some (vr shape_0), some (vi owner_0), some (vi size_53), some (vi from_5), some (vi at_6), some (vi ((from_5 + x_17) - 1))] [] σ_54 0 0 := by
        intro size_53 σ_54 e
        have H := hk_19
        rw [e] at H
        refine z_iload (M := M_X3_listRims) dX3_listRims_120 rfl ?_
        refine z_iconst (M := M_X3_listRims) dX3_listRims_122 ?_
        refine z_iadd (M := M_X3_listRims) dX3_listRims_123 ?_
        refine z_istore (M := M_X3_listRims) (lv' := [some (vr 222), some (vr shape_0), some (vi owner_0), some (vi size_53), some (vi (((from_5 + x_17) - 1) + 1)), some (vi at_6), some (vi ((from_5 + x_17) - 1))]) dX3_listRims_124 (Nat.le_of_ble_eq_true rfl) rfl rfl ?_
        refine z_aload_n (M := M_X3_listRims) dX3_listRims_126 rfl ?_
        refine z_iload (M := M_X3_listRims) dX3_listRims_127 rfl ?_
        obtain ⟨x_56, hc_55, H⟩ := bd_e H
        refine z_callV (M := M_X3_listRims) (M' := M_X6_behind) (as := [vi at_6]) (rest := []) rfl rfl dX3_listRims_129 m_X6_behind t_1898 t_1107 t_1108 (c_X6_behind hl h_shape hc_55) rfl rfl (ly_S h_shape) rfl (Nat.le_of_ble_eq_true rfl) (Nat.le_of_ble_eq_true rfl) (Nat.le_of_ble_eq_true rfl) (Nat.le_of_ble_eq_true rfl) ?_
        refine z_st (st' := [vi x_56]) rfl ?_
        refine z_istore (M := M_X3_listRims) (lv' := [some (vr 222), some (vr shape_0), some (vi owner_0), some (vi size_53), some (vi (((from_5 + x_17) - 1) + 1)), some (vi x_56), some (vi ((from_5 + x_17) - 1))]) dX3_listRims_132 (Nat.le_of_ble_eq_true rfl) rfl rfl ?_
        refine z_goto (M := M_X3_listRims) (tgt := 16) dX3_listRims_134 (by decide) ?_
        refine z_le (lv' := [some (vr 222), some (vr shape_0), some (vi owner_0), some (vi size_53), some (vi (((from_5 + x_17) - 1) + 1)), some (vi x_56), none]) ⟨Or.inr rfl, Or.inr rfl, Or.inr rfl, Or.inr rfl, Or.inr rfl, Or.inr rfl, Or.inl rfl, trivial⟩ ?_
        exact K_13 _ (Option.some.inj H).symm
      have H := he_18
      refine z_iload (M := M_X3_listRims) dX3_listRims_40 rfl ?_
      refine z_iload (M := M_X3_listRims) dX3_listRims_42 rfl ?_
      rcases if_e H with ⟨h_32, H⟩ | ⟨h_32, H⟩
      · refine z_icmp_le_f (M := M_X3_listRims) (tgt := 120) dX3_listRims_44 (by decide) rfl rfl h_32 ?_
        refine z_aload_n (M := M_X3_listRims) dX3_listRims_47 rfl ?_
        refine z_iload (M := M_X3_listRims) dX3_listRims_48 rfl ?_
        refine z_iload (M := M_X3_listRims) dX3_listRims_50 rfl ?_
        obtain ⟨x_34, hc_33, H⟩ := bd_e H
        refine z_callV (M := M_X3_listRims) (M' := M_X6_areLike) (as := [vi from_5, vi ((from_5 + x_17) - 1)]) (rest := []) rfl rfl dX3_listRims_52 m_X6_areLike t_1904 t_1188 t_1189 (c_X6_areLike hl h_shape hc_33) rfl rfl (ly_S h_shape) rfl (Nat.le_of_ble_eq_true rfl) (Nat.le_of_ble_eq_true rfl) (Nat.le_of_ble_eq_true rfl) (Nat.le_of_ble_eq_true rfl) ?_
        refine z_st (st' := [zv x_34]) rfl ?_
        rcases if_e H with ⟨h_35, H⟩ | ⟨h_35, H⟩
        · refine z_zne_t (M := M_X3_listRims) (tgt := 120) dX3_listRims_55 (by decide) h_35 ?_
          exact J_58 _ _ (Option.some.inj H).symm
        · refine z_zne_f (M := M_X3_listRims) (tgt := 120) dX3_listRims_55 (by decide) h_35 ?_
          refine z_iload_n (M := M_X3_listRims) dX3_listRims_58 rfl ?_
          refine z_iconst (M := M_X3_listRims) dX3_listRims_59 ?_
          refine z_iadd (M := M_X3_listRims) dX3_listRims_60 ?_
          refine z_aload_n (M := M_X3_listRims) dX3_listRims_61 rfl ?_
          refine z_getR (M := M_X3_listRims) (ci := 6) (C := RX3) (T := TX3) (Nf := 12) (ty := tyX3) cl6 dX3_listRims_62 ly_222 2 (by decide) t_444 rfl ?_
          refine z_alen (M := M_X3_listRims) (N := 512) dX3_listRims_65 ly_230 (by decide) rfl ?_
          rcases if_e H with ⟨h_37, H⟩ | ⟨h_37, H⟩
          · refine z_icmp_ge_f (M := M_X3_listRims) (tgt := 120) dX3_listRims_66 (by decide) rfl (by decide +kernel) h_37 ?_
            refine z_aload_n (M := M_X3_listRims) dX3_listRims_69 rfl ?_
            refine z_getR (M := M_X3_listRims) (ci := 6) (C := RX3) (T := TX3) (Nf := 12) (ty := tyX3) cl6 dX3_listRims_70 ly_222 2 (by decide) t_444 rfl ?_
            refine z_iload_n (M := M_X3_listRims) dX3_listRims_73 rfl ?_
            refine z_aload_n (M := M_X3_listRims) dX3_listRims_74 rfl ?_
            refine z_getR (M := M_X3_listRims) (ci := 9) (C := RX6) (T := TX6) (Nf := 5) (ty := tyX6) cl9 dX3_listRims_75 (ly_S h_shape) 1 (by decide) t_62 rfl ?_
            refine z_iload (M := M_X3_listRims) dX3_listRims_78 rfl ?_
            obtain ⟨x_38, x_38_e, hi_39, H⟩ := rd_e H
            refine z_iald (M := M_X3_listRims) dX3_listRims_80 (ly_Sx h_shape) rfl rfl rfl hi_39 x_38_e ?_
            refine z_aload_n (M := M_X3_listRims) dX3_listRims_81 rfl ?_
            refine z_getR (M := M_X3_listRims) (ci := 9) (C := RX6) (T := TX6) (Nf := 5) (ty := tyX6) cl9 dX3_listRims_82 (ly_S h_shape) 2 (by decide) t_69 rfl ?_
            refine z_iload (M := M_X3_listRims) dX3_listRims_85 rfl ?_
            obtain ⟨x_40, x_40_e, hi_41, H⟩ := rd_e H
            refine z_iald (M := M_X3_listRims) dX3_listRims_87 (ly_Sy h_shape) rfl rfl rfl hi_41 x_40_e ?_
            refine z_callSN (M := M_X3_listRims) (M' := M_X11_keyOf) (as := [vi x_38, vi x_40]) (rest := [vi size_4, vr 230]) rfl rfl dX3_listRims_88 m_X11_keyOf n_1925 t_1426 (c_X11_keyOf hl  rfl) rfl rfl (Nat.le_of_ble_eq_true rfl) (Nat.le_of_ble_eq_true rfl) (Nat.le_of_ble_eq_true rfl) (Nat.le_of_ble_eq_true rfl) ?_
            refine z_st (st' := [vl (fQ_keyOf x_38 x_40), vi size_4, vr 230]) rfl ?_
            obtain ⟨σ_42, σ_42_e, hi_43, H⟩ := wa_e H
            refine z_last (M := M_X3_listRims) dX3_listRims_91 ly_230 rfl rfl rfl hi_43 σ_42_e ?_
            refine z_aload_n (M := M_X3_listRims) dX3_listRims_92 rfl ?_
            refine z_getR (M := M_X3_listRims) (ci := 6) (C := RX3) (T := TX3) (Nf := 12) (ty := tyX3) cl6 dX3_listRims_93 ly_222 2 (by decide) t_444 rfl ?_
            refine z_iload_n (M := M_X3_listRims) dX3_listRims_96 rfl ?_
            refine z_iconst (M := M_X3_listRims) dX3_listRims_97 ?_
            refine z_iadd (M := M_X3_listRims) dX3_listRims_98 ?_
            refine z_aload_n (M := M_X3_listRims) dX3_listRims_99 rfl ?_
            refine z_getR (M := M_X3_listRims) (ci := 9) (C := RX6) (T := TX6) (Nf := 5) (ty := tyX6) cl9 dX3_listRims_100 (ly_S h_shape) 1 (by decide) t_62 rfl ?_
            refine z_iload (M := M_X3_listRims) dX3_listRims_103 rfl ?_
            obtain ⟨x_44, x_44_e, hi_45, H⟩ := rd_e H
            refine z_iald (M := M_X3_listRims) dX3_listRims_105 (ly_Sx h_shape) rfl rfl rfl hi_45 x_44_e ?_
            refine z_aload_n (M := M_X3_listRims) dX3_listRims_106 rfl ?_
            refine z_getR (M := M_X3_listRims) (ci := 9) (C := RX6) (T := TX6) (Nf := 5) (ty := tyX6) cl9 dX3_listRims_107 (ly_S h_shape) 2 (by decide) t_69 rfl ?_
            refine z_iload (M := M_X3_listRims) dX3_listRims_110 rfl ?_
            obtain ⟨x_46, x_46_e, hi_47, H⟩ := rd_e H
            refine z_iald (M := M_X3_listRims) dX3_listRims_112 (ly_Sy h_shape) rfl rfl rfl hi_47 x_46_e ?_
            refine z_callSN (M := M_X3_listRims) (M' := M_X11_keyOf) (as := [vi x_44, vi x_46]) (rest := [vi (size_4 + 1), vr 230]) rfl rfl dX3_listRims_113 m_X11_keyOf n_1925 t_1426 (c_X11_keyOf hl  rfl) rfl rfl (Nat.le_of_ble_eq_true rfl) (Nat.le_of_ble_eq_true rfl) (Nat.le_of_ble_eq_true rfl) (Nat.le_of_ble_eq_true rfl) ?_
            refine z_st (st' := [vl (fQ_keyOf x_44 x_46), vi (size_4 + 1), vr 230]) rfl ?_
            obtain ⟨σ_48, σ_48_e, hi_49, H⟩ := wa_e H
            refine z_last (M := M_X3_listRims) dX3_listRims_116 ly_230 rfl rfl rfl hi_49 σ_48_e ?_
            refine z_iinc (M := M_X3_listRims) (lv' := [some (vr 222), some (vr shape_0), some (vi owner_0), some (vi (size_4 + 2)), some (vi from_5), some (vi at_6), some (vi ((from_5 + x_17) - 1))]) dX3_listRims_117 rfl (Nat.le_of_ble_eq_true rfl) rfl rfl ?_
            exact J_58 _ _ (Option.some.inj H).symm
          · refine z_icmp_ge_t (M := M_X3_listRims) (tgt := 120) dX3_listRims_66 (by decide) rfl (by decide +kernel) (Int.not_lt.mp h_37) ?_
            exact J_58 _ _ (Option.some.inj H).symm
      · refine z_icmp_le_t (M := M_X3_listRims) (tgt := 120) dX3_listRims_44 (by decide) rfl rfl (Int.not_lt.mp h_32) ?_
        exact J_58 _ _ (Option.some.inj H).symm
    · refine z_icmp_ge_t (M := M_X3_listRims) (tgt := 137) dX3_listRims_24 (by decide) rfl rfl (Int.not_lt.mp h_15) ?_
      exact J_163 _ _ _ _ (K_14 _ (Option.some.inj H).symm).symm
  · refine z_zne_f (M := M_X3_listRims) (tgt := 8) dX3_listRims_4 (by decide) h_3 ?_
    cases H
    exact z_vret (M := M_X3_listRims) dX3_listRims_7 rfl (Nat.le_of_ble_eq_true rfl) (Nat.le_of_ble_eq_true rfl) ⟨rfl, rfl⟩
end LFAK
