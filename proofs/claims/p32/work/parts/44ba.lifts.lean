section LFBA
variable {l : Launch} {E : EE}
theorem c_X12_order (hl : l.stackTraces = false) {σ : SG} {a_0 : Int} {b_0 : Int} {c_0 : Int} {d_0 : Int} {r : Int}  (H : fR_order a_0 b_0 c_0 d_0 = some r) : en_S l E M_X12_order 1 0 0 [vl a_0, vl b_0, vl c_0, vl d_0] σ (pS (some (vi r)) σ) := by
  unfold fR_order at H
  refine z_mk (lv := [some (vl a_0), none, some (vl b_0), none, some (vl c_0), none, some (vl d_0), none, none, none, none, none, none, none, none, none, none, none, none, none, none, none, none, none, none, none]) m_X12_order rfl hl (Nat.le_of_ble_eq_true rfl) rfl ?_
  refine z_lload_n (M := M_X12_order) dX12_order_0 rfl ?_
  refine z_lstore (M := M_X12_order) (lv' := [some (vl a_0), none, some (vl b_0), none, some (vl c_0), none, some (vl d_0), none, some (vl a_0), none, none, none, none, none, none, none, none, none, none, none, none, none, none, none, none, none]) dX12_order_1 (Nat.le_of_ble_eq_true rfl) rfl rfl ?_
  refine z_lload_n (M := M_X12_order) dX12_order_3 rfl ?_
  refine z_lstore (M := M_X12_order) (lv' := [some (vl a_0), none, some (vl b_0), none, some (vl c_0), none, some (vl d_0), none, some (vl a_0), none, some (vl b_0), none, none, none, none, none, none, none, none, none, none, none, none, none, none, none]) dX12_order_4 (Nat.le_of_ble_eq_true rfl) rfl rfl ?_
  refine z_lload (M := M_X12_order) dX12_order_6 rfl ?_
  refine z_lstore (M := M_X12_order) (lv' := [some (vl a_0), none, some (vl b_0), none, some (vl c_0), none, some (vl d_0), none, some (vl a_0), none, some (vl b_0), none, some (vl c_0), none, none, none, none, none, none, none, none, none, none, none, none, none]) dX12_order_8 (Nat.le_of_ble_eq_true rfl) rfl rfl ?_
  refine z_lload (M := M_X12_order) dX12_order_10 rfl ?_
  refine z_lstore (M := M_X12_order) (lv' := [some (vl a_0), none, some (vl b_0), none, some (vl c_0), none, some (vl d_0), none, some (vl a_0), none, some (vl b_0), none, some (vl c_0), none, some (vl d_0), none, none, none, none, none, none, none, none, none, none, none]) dX12_order_12 (Nat.le_of_ble_eq_true rfl) rfl rfl ?_
  refine z_iconst (M := M_X12_order) dX12_order_14 ?_
  refine z_istore (M := M_X12_order) (lv' := [some (vl a_0), none, some (vl b_0), none, some (vl c_0), none, some (vl d_0), none, some (vl a_0), none, some (vl b_0), none, some (vl c_0), none, some (vl d_0), none, some (vi 1), none, none, none, none, none, none, none, none, none]) dX12_order_15 (Nat.le_of_ble_eq_true rfl) rfl rfl ?_
  refine z_iconst (M := M_X12_order) dX12_order_17 ?_
  refine z_istore (M := M_X12_order) (lv' := [some (vl a_0), none, some (vl b_0), none, some (vl c_0), none, some (vl d_0), none, some (vl a_0), none, some (vl b_0), none, some (vl c_0), none, some (vl d_0), none, some (vi 1), some (vi 0), none, none, none, none, none, none, none, none]) dX12_order_18 (Nat.le_of_ble_eq_true rfl) rfl rfl ?_
  obtain ⟨rl_10, hw_7, hk_8, hk_9⟩ := bx_e H
  have J_43 : ∀ n_37 m_38 p_39 q_40 turned_41 round_42, rl_10 = (.inl (n_37, m_38, p_39, q_40, turned_41, round_42)) → YY l E M_X12_order 1 0 0 (pS (some (vi r)) σ) 150 [some (vl a_0), none, some (vl b_0), none, some (vl c_0), none, some (vl d_0), none, some (vl n_37), none, some (vl m_38), none, some (vl p_39), none, some (vl q_40), none, some (vi turned_41), some (vi round_42), none, none, none, none, none, none, none, none] [] σ 0 0 := by
    intro n_37 m_38 p_39 q_40 turned_41 round_42 e
    have H := hk_8 _ e
    refine z_iconst (M := M_X12_order) dX12_order_150 ?_
    cases H
    exact z_iret (M := M_X12_order) dX12_order_151 rfl (Nat.le_of_ble_eq_true rfl) (Nat.le_of_ble_eq_true rfl) ⟨rfl, rfl⟩
  refine whl_go hw_7 (fun (n_1, m_2, p_3, q_4, turned_5, round_6) => YY l E M_X12_order 1 0 0 (pS (some (vi r)) σ) 20 [some (vl a_0), none, some (vl b_0), none, some (vl c_0), none, some (vl d_0), none, some (vl n_1), none, some (vl m_2), none, some (vl p_3), none, some (vl q_4), none, some (vi turned_5), some (vi round_6), none, none, none, none, none, none, none, none] [] σ 0 0) ?_
  rintro ⟨n_1, m_2, p_3, q_4, turned_5, round_6⟩ o_11 H K_12 K_13
  refine z_iload (M := M_X12_order) dX12_order_20 rfl ?_
  refine z_sipush (M := M_X12_order) dX12_order_22 (by decide +kernel) ?_
  rcases if_e H with ⟨h_14, H⟩ | ⟨h_14, H⟩
  · refine z_icmp_ge_f (M := M_X12_order) (tgt := 150) dX12_order_25 (by decide) rfl (by decide +kernel) h_14 ?_
    refine z_lload (M := M_X12_order) dX12_order_28 rfl ?_
    refine z_lload (M := M_X12_order) dX12_order_30 rfl ?_
    obtain ⟨hd_15, H⟩ := ck_e H
    refine z_ldiv (M := M_X12_order) dX12_order_32 hd_15 ?_
    refine z_lstore (M := M_X12_order) (lv' := [some (vl a_0), none, some (vl b_0), none, some (vl c_0), none, some (vl d_0), none, some (vl n_1), none, some (vl m_2), none, some (vl p_3), none, some (vl q_4), none, some (vi turned_5), some (vi round_6), some (vl (q_ldv n_1 m_2)), none, none, none, none, none, none, none]) dX12_order_33 (Nat.le_of_ble_eq_true rfl) rfl rfl ?_
    refine z_lload (M := M_X12_order) dX12_order_35 rfl ?_
    refine z_lload (M := M_X12_order) dX12_order_37 rfl ?_
    obtain ⟨hd_16, H⟩ := ck_e H
    refine z_ldiv (M := M_X12_order) dX12_order_39 hd_16 ?_
    refine z_lstore (M := M_X12_order) (lv' := [some (vl a_0), none, some (vl b_0), none, some (vl c_0), none, some (vl d_0), none, some (vl n_1), none, some (vl m_2), none, some (vl p_3), none, some (vl q_4), none, some (vi turned_5), some (vi round_6), some (vl (q_ldv n_1 m_2)), none, some (vl (q_ldv p_3 q_4)), none, none, none, none, none]) dX12_order_40 (Nat.le_of_ble_eq_true rfl) rfl rfl ?_
    refine z_lload (M := M_X12_order) dX12_order_42 rfl ?_
    refine z_lload (M := M_X12_order) dX12_order_44 rfl ?_
    refine z_lcmp (M := M_X12_order) dX12_order_46 ?_
    rcases if_e H with ⟨h_17, H⟩ | ⟨h_17, H⟩
    · refine z_lif_eq_f (M := M_X12_order) (tgt := 67) dX12_order_47 (by decide) rfl rfl h_17 ?_
      have J_18 : YY l E M_X12_order 1 0 0 (pS (some (vi r)) σ) 66 [some (vl a_0), none, some (vl b_0), none, some (vl c_0), none, some (vl d_0), none, some (vl n_1), none, some (vl m_2), none, some (vl p_3), none, some (vl q_4), none, some (vi turned_5), some (vi round_6), some (vl (q_ldv n_1 m_2)), none, some (vl (q_ldv p_3 q_4)), none, none, none, none, none] [vi (if (w64 (q_ldv n_1 m_2)) < (w64 (q_ldv p_3 q_4)) then (-turned_5) else turned_5)] σ 0 0 := by
        have H := congrArg some (hk_9 _ ((K_13 _ (Option.some.inj H).symm).symm))
        cases H
        exact z_iret (M := M_X12_order) dX12_order_66 rfl (Nat.le_of_ble_eq_true rfl) (Nat.le_of_ble_eq_true rfl) ⟨rfl, rfl⟩
      refine z_lload (M := M_X12_order) dX12_order_50 rfl ?_
      refine z_lload (M := M_X12_order) dX12_order_52 rfl ?_
      refine z_lcmp (M := M_X12_order) dX12_order_54 ?_
      by_cases h_19 : (w64 (q_ldv n_1 m_2)) < (w64 (q_ldv p_3 q_4))
      · refine z_lif_ge_f (M := M_X12_order) (tgt := 64) dX12_order_55 (by decide) rfl rfl h_19 ?_
        refine z_iload (M := M_X12_order) dX12_order_58 rfl ?_
        refine z_ineg (M := M_X12_order) dX12_order_60 ?_
        refine z_goto (M := M_X12_order) (tgt := 66) dX12_order_61 (by decide) ?_
        exact z_st (by rw [if_pos (c := (w64 (q_ldv n_1 m_2)) < (w64 (q_ldv p_3 q_4))) h_19]) J_18
      · refine z_lif_ge_t (M := M_X12_order) (tgt := 64) dX12_order_55 (by decide) rfl rfl (Int.not_lt.mp h_19) ?_
        refine z_iload (M := M_X12_order) dX12_order_64 rfl ?_
        exact z_st (by rw [if_neg (c := (w64 (q_ldv n_1 m_2)) < (w64 (q_ldv p_3 q_4))) h_19]) J_18
    · refine z_lif_eq_t (M := M_X12_order) (tgt := 67) dX12_order_47 (by decide) rfl rfl (Decidable.not_not.mp h_17) ?_
      refine z_lload (M := M_X12_order) dX12_order_67 rfl ?_
      refine z_lload (M := M_X12_order) dX12_order_69 rfl ?_
      obtain ⟨hd_20, H⟩ := ck_e H
      refine z_lrem (M := M_X12_order) dX12_order_71 hd_20 ?_
      refine z_lstore (M := M_X12_order) (lv' := [some (vl a_0), none, some (vl b_0), none, some (vl c_0), none, some (vl d_0), none, some (vl n_1), none, some (vl m_2), none, some (vl p_3), none, some (vl q_4), none, some (vi turned_5), some (vi round_6), some (vl (q_ldv n_1 m_2)), none, some (vl (q_ldv p_3 q_4)), none, some (vl (q_lrm n_1 m_2)), none, none, none]) dX12_order_72 (Nat.le_of_ble_eq_true rfl) rfl rfl ?_
      refine z_lload (M := M_X12_order) dX12_order_74 rfl ?_
      refine z_lload (M := M_X12_order) dX12_order_76 rfl ?_
      obtain ⟨hd_21, H⟩ := ck_e H
      refine z_lrem (M := M_X12_order) dX12_order_78 hd_21 ?_
      refine z_lstore (M := M_X12_order) (lv' := [some (vl a_0), none, some (vl b_0), none, some (vl c_0), none, some (vl d_0), none, some (vl n_1), none, some (vl m_2), none, some (vl p_3), none, some (vl q_4), none, some (vi turned_5), some (vi round_6), some (vl (q_ldv n_1 m_2)), none, some (vl (q_ldv p_3 q_4)), none, some (vl (q_lrm n_1 m_2)), none, some (vl (q_lrm p_3 q_4)), none]) dX12_order_79 (Nat.le_of_ble_eq_true rfl) rfl rfl ?_
      rcases if_e H with ⟨h_29, H⟩ | ⟨h_29, H⟩
      · have J_30 : YY l E M_X12_order 1 0 0 (pS (some (vi r)) σ) 95 [some (vl a_0), none, some (vl b_0), none, some (vl c_0), none, some (vl d_0), none, some (vl n_1), none, some (vl m_2), none, some (vl p_3), none, some (vl q_4), none, some (vi turned_5), some (vi round_6), some (vl (q_ldv n_1 m_2)), none, some (vl (q_ldv p_3 q_4)), none, some (vl (q_lrm n_1 m_2)), none, some (vl (q_lrm p_3 q_4)), none] [] σ 0 0 := by
          have J_24 : YY l E M_X12_order 1 0 0 (pS (some (vi r)) σ) 122 [some (vl a_0), none, some (vl b_0), none, some (vl c_0), none, some (vl d_0), none, some (vl n_1), none, some (vl m_2), none, some (vl p_3), none, some (vl q_4), none, some (vi turned_5), some (vi round_6), some (vl (q_ldv n_1 m_2)), none, some (vl (q_ldv p_3 q_4)), none, some (vl (q_lrm n_1 m_2)), none, some (vl (q_lrm p_3 q_4)), none] [vi (if (w64 (q_lrm n_1 m_2)) = (w64 (q_lrm p_3 q_4)) then 0 else (if (w64 (q_lrm n_1 m_2)) = 0 then (-turned_5) else turned_5))] σ 0 0 := by
            have H := congrArg some (hk_9 _ ((K_13 _ (Option.some.inj H).symm).symm))
            cases H
            exact z_iret (M := M_X12_order) dX12_order_122 rfl (Nat.le_of_ble_eq_true rfl) (Nat.le_of_ble_eq_true rfl) ⟨rfl, rfl⟩
          refine z_lload (M := M_X12_order) dX12_order_95 rfl ?_
          refine z_lload (M := M_X12_order) dX12_order_97 rfl ?_
          refine z_lcmp (M := M_X12_order) dX12_order_99 ?_
          by_cases h_25 : (w64 (q_lrm n_1 m_2)) = (w64 (q_lrm p_3 q_4))
          · refine z_lif_ne_f (M := M_X12_order) (tgt := 107) dX12_order_100 (by decide) rfl rfl h_25 ?_
            refine z_iconst (M := M_X12_order) dX12_order_103 ?_
            refine z_goto (M := M_X12_order) (tgt := 122) dX12_order_104 (by decide) ?_
            exact z_st (by rw [if_pos (c := (w64 (q_lrm n_1 m_2)) = (w64 (q_lrm p_3 q_4))) h_25]) J_24
          · refine z_lif_ne_t (M := M_X12_order) (tgt := 107) dX12_order_100 (by decide) rfl rfl h_25 ?_
            have J_26 : YY l E M_X12_order 1 0 0 (pS (some (vi r)) σ) 122 [some (vl a_0), none, some (vl b_0), none, some (vl c_0), none, some (vl d_0), none, some (vl n_1), none, some (vl m_2), none, some (vl p_3), none, some (vl q_4), none, some (vi turned_5), some (vi round_6), some (vl (q_ldv n_1 m_2)), none, some (vl (q_ldv p_3 q_4)), none, some (vl (q_lrm n_1 m_2)), none, some (vl (q_lrm p_3 q_4)), none] [vi (if (w64 (q_lrm n_1 m_2)) = 0 then (-turned_5) else turned_5)] σ 0 0 := by
              exact z_st (by rw [if_neg (c := (w64 (q_lrm n_1 m_2)) = (w64 (q_lrm p_3 q_4))) h_25]) J_24
            refine z_lload (M := M_X12_order) dX12_order_107 rfl ?_
            refine z_lconst (M := M_X12_order) (m := 0) dX12_order_109 (by decide +kernel) ?_
            refine z_lcmp (M := M_X12_order) dX12_order_110 ?_
            by_cases h_27 : (w64 (q_lrm n_1 m_2)) = 0
            · refine z_lif_ne_f (M := M_X12_order) (tgt := 120) dX12_order_111 (by decide) rfl (by decide +kernel) h_27 ?_
              refine z_iload (M := M_X12_order) dX12_order_114 rfl ?_
              refine z_ineg (M := M_X12_order) dX12_order_116 ?_
              refine z_goto (M := M_X12_order) (tgt := 122) dX12_order_117 (by decide) ?_
              exact z_st (by rw [if_pos (c := (w64 (q_lrm n_1 m_2)) = 0) h_27]) J_26
            · refine z_lif_ne_t (M := M_X12_order) (tgt := 120) dX12_order_111 (by decide) rfl (by decide +kernel) h_27 ?_
              refine z_iload (M := M_X12_order) dX12_order_120 rfl ?_
              exact z_st (by rw [if_neg (c := (w64 (q_lrm n_1 m_2)) = 0) h_27]) J_26
        refine z_lload (M := M_X12_order) dX12_order_81 rfl ?_
        refine z_lconst (M := M_X12_order) (m := 0) dX12_order_83 (by decide +kernel) ?_
        refine z_lcmp (M := M_X12_order) dX12_order_84 ?_
        by_cases h_32 : (w64 (q_lrm n_1 m_2)) = 0
        · refine z_lif_eq_t (M := M_X12_order) (tgt := 95) dX12_order_85 (by decide) rfl (by decide +kernel) h_32 ?_
          exact J_30
        · refine z_lif_eq_f (M := M_X12_order) (tgt := 95) dX12_order_85 (by decide) rfl (by decide +kernel) h_32 ?_
          refine z_lload (M := M_X12_order) dX12_order_88 rfl ?_
          refine z_lconst (M := M_X12_order) (m := 0) dX12_order_90 (by decide +kernel) ?_
          refine z_lcmp (M := M_X12_order) dX12_order_91 ?_
          by_cases h_33 : (w64 (q_lrm p_3 q_4)) = 0
          · refine z_lif_ne_f (M := M_X12_order) (tgt := 123) dX12_order_92 (by decide) rfl (by decide +kernel) h_33 ?_
            exact J_30
          · refine z_lif_ne_t (M := M_X12_order) (tgt := 123) dX12_order_92 (by decide) rfl (by decide +kernel) h_33 ?_
            exact absurd h_29 (fun q => q.elim h_32 h_33)
      · have J_31 : YY l E M_X12_order 1 0 0 (pS (some (vi r)) σ) 123 [some (vl a_0), none, some (vl b_0), none, some (vl c_0), none, some (vl d_0), none, some (vl n_1), none, some (vl m_2), none, some (vl p_3), none, some (vl q_4), none, some (vi turned_5), some (vi round_6), some (vl (q_ldv n_1 m_2)), none, some (vl (q_ldv p_3 q_4)), none, some (vl (q_lrm n_1 m_2)), none, some (vl (q_lrm p_3 q_4)), none] [] σ 0 0 := by
          refine z_lload (M := M_X12_order) dX12_order_123 rfl ?_
          refine z_lstore (M := M_X12_order) (lv' := [some (vl a_0), none, some (vl b_0), none, some (vl c_0), none, some (vl d_0), none, some (vl m_2), none, some (vl m_2), none, some (vl p_3), none, some (vl q_4), none, some (vi turned_5), some (vi round_6), some (vl (q_ldv n_1 m_2)), none, some (vl (q_ldv p_3 q_4)), none, some (vl (q_lrm n_1 m_2)), none, some (vl (q_lrm p_3 q_4)), none]) dX12_order_125 (Nat.le_of_ble_eq_true rfl) rfl rfl ?_
          refine z_lload (M := M_X12_order) dX12_order_127 rfl ?_
          refine z_lstore (M := M_X12_order) (lv' := [some (vl a_0), none, some (vl b_0), none, some (vl c_0), none, some (vl d_0), none, some (vl m_2), none, some (vl (q_lrm n_1 m_2)), none, some (vl p_3), none, some (vl q_4), none, some (vi turned_5), some (vi round_6), some (vl (q_ldv n_1 m_2)), none, some (vl (q_ldv p_3 q_4)), none, some (vl (q_lrm n_1 m_2)), none, some (vl (q_lrm p_3 q_4)), none]) dX12_order_129 (Nat.le_of_ble_eq_true rfl) rfl rfl ?_
          refine z_lload (M := M_X12_order) dX12_order_131 rfl ?_
          refine z_lstore (M := M_X12_order) (lv' := [some (vl a_0), none, some (vl b_0), none, some (vl c_0), none, some (vl d_0), none, some (vl m_2), none, some (vl (q_lrm n_1 m_2)), none, some (vl q_4), none, some (vl q_4), none, some (vi turned_5), some (vi round_6), some (vl (q_ldv n_1 m_2)), none, some (vl (q_ldv p_3 q_4)), none, some (vl (q_lrm n_1 m_2)), none, some (vl (q_lrm p_3 q_4)), none]) dX12_order_133 (Nat.le_of_ble_eq_true rfl) rfl rfl ?_
          refine z_lload (M := M_X12_order) dX12_order_135 rfl ?_
          refine z_lstore (M := M_X12_order) (lv' := [some (vl a_0), none, some (vl b_0), none, some (vl c_0), none, some (vl d_0), none, some (vl m_2), none, some (vl (q_lrm n_1 m_2)), none, some (vl q_4), none, some (vl (q_lrm p_3 q_4)), none, some (vi turned_5), some (vi round_6), some (vl (q_ldv n_1 m_2)), none, some (vl (q_ldv p_3 q_4)), none, some (vl (q_lrm n_1 m_2)), none, some (vl (q_lrm p_3 q_4)), none]) dX12_order_137 (Nat.le_of_ble_eq_true rfl) rfl rfl ?_
          refine z_iload (M := M_X12_order) dX12_order_139 rfl ?_
          refine z_ineg (M := M_X12_order) dX12_order_141 ?_
          refine z_istore (M := M_X12_order) (lv' := [some (vl a_0), none, some (vl b_0), none, some (vl c_0), none, some (vl d_0), none, some (vl m_2), none, some (vl (q_lrm n_1 m_2)), none, some (vl q_4), none, some (vl (q_lrm p_3 q_4)), none, some (vi (-turned_5)), some (vi round_6), some (vl (q_ldv n_1 m_2)), none, some (vl (q_ldv p_3 q_4)), none, some (vl (q_lrm n_1 m_2)), none, some (vl (q_lrm p_3 q_4)), none]) dX12_order_142 (Nat.le_of_ble_eq_true rfl) rfl rfl ?_
          refine z_iinc (M := M_X12_order) (lv' := [some (vl a_0), none, some (vl b_0), none, some (vl c_0), none, some (vl d_0), none, some (vl m_2), none, some (vl (q_lrm n_1 m_2)), none, some (vl q_4), none, some (vl (q_lrm p_3 q_4)), none, some (vi (-turned_5)), some (vi (round_6 + 1)), some (vl (q_ldv n_1 m_2)), none, some (vl (q_ldv p_3 q_4)), none, some (vl (q_lrm n_1 m_2)), none, some (vl (q_lrm p_3 q_4)), none]) dX12_order_144 rfl (Nat.le_of_ble_eq_true rfl) rfl rfl ?_
          refine z_goto (M := M_X12_order) (tgt := 20) dX12_order_147 (by decide) ?_
          refine z_le (lv' := [some (vl a_0), none, some (vl b_0), none, some (vl c_0), none, some (vl d_0), none, some (vl m_2), none, some (vl (q_lrm n_1 m_2)), none, some (vl q_4), none, some (vl (q_lrm p_3 q_4)), none, some (vi (-turned_5)), some (vi (round_6 + 1)), none, none, none, none, none, none, none, none]) ⟨Or.inr rfl, Or.inl rfl, Or.inr rfl, Or.inl rfl, Or.inr rfl, Or.inl rfl, Or.inr rfl, Or.inl rfl, Or.inr rfl, Or.inl rfl, Or.inr rfl, Or.inl rfl, Or.inr rfl, Or.inl rfl, Or.inr rfl, Or.inl rfl, Or.inr rfl, Or.inr rfl, Or.inl rfl, Or.inl rfl, Or.inl rfl, Or.inl rfl, Or.inl rfl, Or.inl rfl, Or.inl rfl, Or.inl rfl, trivial⟩ ?_
          exact K_12 _ (Option.some.inj H).symm
        refine z_lload (M := M_X12_order) dX12_order_81 rfl ?_
        refine z_lconst (M := M_X12_order) (m := 0) dX12_order_83 (by decide +kernel) ?_
        refine z_lcmp (M := M_X12_order) dX12_order_84 ?_
        by_cases h_34 : (w64 (q_lrm n_1 m_2)) = 0
        · refine z_lif_eq_t (M := M_X12_order) (tgt := 95) dX12_order_85 (by decide) rfl (by decide +kernel) h_34 ?_
          exact absurd (Or.inl h_34) h_29
        · refine z_lif_eq_f (M := M_X12_order) (tgt := 95) dX12_order_85 (by decide) rfl (by decide +kernel) h_34 ?_
          refine z_lload (M := M_X12_order) dX12_order_88 rfl ?_
          refine z_lconst (M := M_X12_order) (m := 0) dX12_order_90 (by decide +kernel) ?_
          refine z_lcmp (M := M_X12_order) dX12_order_91 ?_
          by_cases h_35 : (w64 (q_lrm p_3 q_4)) = 0
          · refine z_lif_ne_f (M := M_X12_order) (tgt := 123) dX12_order_92 (by decide) rfl (by decide +kernel) h_35 ?_
            exact absurd (Or.inr h_35) h_29
          · refine z_lif_ne_t (M := M_X12_order) (tgt := 123) dX12_order_92 (by decide) rfl (by decide +kernel) h_35 ?_
            exact J_31
  · refine z_icmp_ge_t (M := M_X12_order) (tgt := 150) dX12_order_25 (by decide) rfl (by decide +kernel) (Int.not_lt.mp h_14) ?_
    exact J_43 _ _ _ _ _ _ (K_13 _ (Option.some.inj H).symm).symm
theorem c_X12_cutAt (hl : l.stackTraces = false) {σ : SG} {num_0 : Int} {den_0 : Int} {σ' : SG}  (H : fR_cutAt σ num_0 den_0 = some σ') : en_S l E M_X12_cutAt 2 0 0 [vr 277, vl num_0, vl den_0] σ (pS (none) σ') := by
  unfold fR_cutAt at H
  refine z_mk (lv := [some (vr 277), some (vl num_0), none, some (vl den_0), none, none, none, none, none, none]) m_X12_cutAt rfl hl (Nat.le_of_ble_eq_true rfl) rfl ?_
  have J_1 : YY l E M_X12_cutAt 2 0 0 (pS (none) σ') 12 [some (vr 277), some (vl num_0), none, some (vl den_0), none, none, none, none, none, none] [vl (if (w64 den_0) < 0 then (-num_0) else num_0)] σ 0 0 := by
    refine z_lstore (M := M_X12_cutAt) (lv' := [some (vr 277), some (vl num_0), none, some (vl den_0), none, some (vl (if (w64 den_0) < 0 then (-num_0) else num_0)), none, none, none, none]) dX12_cutAt_12 (Nat.le_of_ble_eq_true rfl) rfl rfl ?_
    have J_2 : YY l E M_X12_cutAt 2 0 0 (pS (none) σ') 26 [some (vr 277), some (vl num_0), none, some (vl den_0), none, some (vl (if (w64 den_0) < 0 then (-num_0) else num_0)), none, none, none, none] [vl (if (w64 den_0) < 0 then (-den_0) else den_0)] σ 0 0 := by
      refine z_lstore (M := M_X12_cutAt) (lv' := [some (vr 277), some (vl num_0), none, some (vl den_0), none, some (vl (if (w64 den_0) < 0 then (-num_0) else num_0)), none, some (vl (if (w64 den_0) < 0 then (-den_0) else den_0)), none, none]) dX12_cutAt_26 (Nat.le_of_ble_eq_true rfl) rfl rfl ?_
      refine z_aload_n (M := M_X12_cutAt) dX12_cutAt_28 rfl ?_
      refine z_getI (M := M_X12_cutAt) (ci := 15) (C := RX12) (T := TX12) (Nf := 135) (ty := tyX12) cl15 dX12_cutAt_29 ly_277 116 (by decide) t_2507 rfl rfl ?_
      refine z_istore (M := M_X12_cutAt) (lv' := [some (vr 277), some (vl num_0), none, some (vl den_0), none, some (vl (if (w64 den_0) < 0 then (-num_0) else num_0)), none, some (vl (if (w64 den_0) < 0 then (-den_0) else den_0)), none, some (vi (σ kR_cutsMany 0))]) dX12_cutAt_32 (Nat.le_of_ble_eq_true rfl) rfl rfl ?_
      obtain ⟨rl_8, hw_5, hk_6⟩ := bd_e H
      have J_50 : ∀ k_43 σ_44, rl_8 = (k_43, σ_44) → YY l E M_X12_cutAt 2 0 0 (pS (none) σ') 105 [some (vr 277), some (vl num_0), none, some (vl den_0), none, some (vl (if (w64 den_0) < 0 then (-num_0) else num_0)), none, some (vl (if (w64 den_0) < 0 then (-den_0) else den_0)), none, some (vi k_43)] [] σ_44 0 0 := by
        intro k_43 σ_44 e
        have H := hk_6
        rw [e] at H
        refine z_aload_n (M := M_X12_cutAt) dX12_cutAt_105 rfl ?_
        refine z_getR (M := M_X12_cutAt) (ci := 15) (C := RX12) (T := TX12) (Nf := 135) (ty := tyX12) cl15 dX12_cutAt_106 ly_277 114 (by decide) t_2505 rfl ?_
        refine z_iload (M := M_X12_cutAt) dX12_cutAt_109 rfl ?_
        refine z_lload (M := M_X12_cutAt) dX12_cutAt_111 rfl ?_
        obtain ⟨σ_45, σ_45_e, hi_46, H⟩ := wa_e H
        refine z_last (M := M_X12_cutAt) dX12_cutAt_113 ly_344 rfl rfl rfl hi_46 σ_45_e ?_
        refine z_aload_n (M := M_X12_cutAt) dX12_cutAt_114 rfl ?_
        refine z_getR (M := M_X12_cutAt) (ci := 15) (C := RX12) (T := TX12) (Nf := 135) (ty := tyX12) cl15 dX12_cutAt_115 ly_277 115 (by decide) t_2506 rfl ?_
        refine z_iload (M := M_X12_cutAt) dX12_cutAt_118 rfl ?_
        refine z_lload (M := M_X12_cutAt) dX12_cutAt_120 rfl ?_
        obtain ⟨σ_47, σ_47_e, hi_48, H⟩ := wa_e H
        refine z_last (M := M_X12_cutAt) dX12_cutAt_122 ly_345 rfl rfl rfl hi_48 σ_47_e ?_
        refine z_aload_n (M := M_X12_cutAt) dX12_cutAt_123 rfl ?_
        refine z_dup (M := M_X12_cutAt) dX12_cutAt_124 rfl ?_
        refine z_getI (M := M_X12_cutAt) (ci := 15) (C := RX12) (T := TX12) (Nf := 135) (ty := tyX12) cl15 dX12_cutAt_125 ly_277 116 (by decide) t_2507 rfl rfl ?_
        refine z_iconst (M := M_X12_cutAt) dX12_cutAt_128 ?_
        refine z_iadd (M := M_X12_cutAt) dX12_cutAt_129 ?_
        obtain ⟨σ_49, σ_49_e, H⟩ := wf_e H
        refine z_putI (M := M_X12_cutAt) (ci := 15) (C := RX12) (T := TX12) (Nf := 135) (ty := tyX12) cl15 dX12_cutAt_130 ly_277 116 (by decide) t_2507 rfl rfl rfl rfl σ_49_e ?_
        cases H
        exact z_vret (M := M_X12_cutAt) dX12_cutAt_133 rfl (Nat.le_of_ble_eq_true rfl) (Nat.le_of_ble_eq_true rfl) ⟨rfl, rfl⟩
      refine whl_go hw_5 (fun (k_3, σ_4) => YY l E M_X12_cutAt 2 0 0 (pS (none) σ') 34 [some (vr 277), some (vl num_0), none, some (vl den_0), none, some (vl (if (w64 den_0) < 0 then (-num_0) else num_0)), none, some (vl (if (w64 den_0) < 0 then (-den_0) else den_0)), none, some (vi k_3)] [] σ_4 0 0) ?_
      rintro ⟨k_3, σ_4⟩ o_9 H K_10 K_11
      refine z_iload (M := M_X12_cutAt) dX12_cutAt_34 rfl ?_
      rcases if_e H with ⟨h_24, H⟩ | ⟨h_24, H⟩
      · refine z_if_le_f (M := M_X12_cutAt) (tgt := 105) dX12_cutAt_36 (by decide) rfl h_24 ?_
        refine z_lload (M := M_X12_cutAt) dX12_cutAt_39 rfl ?_
        refine z_lload (M := M_X12_cutAt) dX12_cutAt_41 rfl ?_
        refine z_aload_n (M := M_X12_cutAt) dX12_cutAt_43 rfl ?_
        refine z_getR (M := M_X12_cutAt) (ci := 15) (C := RX12) (T := TX12) (Nf := 135) (ty := tyX12) cl15 dX12_cutAt_44 ly_277 114 (by decide) t_2505 rfl ?_
        refine z_iload (M := M_X12_cutAt) dX12_cutAt_47 rfl ?_
        refine z_iconst (M := M_X12_cutAt) dX12_cutAt_49 ?_
        refine z_isub (M := M_X12_cutAt) dX12_cutAt_50 ?_
        obtain ⟨x_25, x_25_e, hi_26, H⟩ := rd_e H
        refine z_lald (M := M_X12_cutAt) dX12_cutAt_51 ly_344 rfl rfl rfl hi_26 x_25_e ?_
        refine z_aload_n (M := M_X12_cutAt) dX12_cutAt_52 rfl ?_
        refine z_getR (M := M_X12_cutAt) (ci := 15) (C := RX12) (T := TX12) (Nf := 135) (ty := tyX12) cl15 dX12_cutAt_53 ly_277 115 (by decide) t_2506 rfl ?_
        refine z_iload (M := M_X12_cutAt) dX12_cutAt_56 rfl ?_
        refine z_iconst (M := M_X12_cutAt) dX12_cutAt_58 ?_
        refine z_isub (M := M_X12_cutAt) dX12_cutAt_59 ?_
        obtain ⟨x_27, x_27_e, hi_28, H⟩ := rd_e H
        refine z_lald (M := M_X12_cutAt) dX12_cutAt_60 ly_345 rfl rfl rfl hi_28 x_27_e ?_
        obtain ⟨x_30, hc_29, H⟩ := bd_e H
        refine z_callS (M := M_X12_cutAt) (M' := M_X12_order) (as := [vl (if (w64 den_0) < 0 then (-num_0) else num_0), vl (if (w64 den_0) < 0 then (-den_0) else den_0), vl x_25, vl x_27]) (rest := []) rfl rfl dX12_cutAt_61 m_X12_order t_3529 t_3530 (c_X12_order hl  hc_29) rfl rfl (Nat.le_of_ble_eq_true rfl) (Nat.le_of_ble_eq_true rfl) (Nat.le_of_ble_eq_true rfl) (Nat.le_of_ble_eq_true rfl) ?_
        refine z_st (st' := [vi x_30]) rfl ?_
        rcases if_e H with ⟨h_31, H⟩ | ⟨h_31, H⟩
        · refine z_if_ge_f (M := M_X12_cutAt) (tgt := 105) dX12_cutAt_64 (by decide) rfl h_31 ?_
          refine z_aload_n (M := M_X12_cutAt) dX12_cutAt_67 rfl ?_
          refine z_getR (M := M_X12_cutAt) (ci := 15) (C := RX12) (T := TX12) (Nf := 135) (ty := tyX12) cl15 dX12_cutAt_68 ly_277 114 (by decide) t_2505 rfl ?_
          refine z_iload (M := M_X12_cutAt) dX12_cutAt_71 rfl ?_
          refine z_aload_n (M := M_X12_cutAt) dX12_cutAt_73 rfl ?_
          refine z_getR (M := M_X12_cutAt) (ci := 15) (C := RX12) (T := TX12) (Nf := 135) (ty := tyX12) cl15 dX12_cutAt_74 ly_277 114 (by decide) t_2505 rfl ?_
          refine z_iload (M := M_X12_cutAt) dX12_cutAt_77 rfl ?_
          refine z_iconst (M := M_X12_cutAt) dX12_cutAt_79 ?_
          refine z_isub (M := M_X12_cutAt) dX12_cutAt_80 ?_
          obtain ⟨x_32, x_32_e, hi_33, H⟩ := rd_e H
          refine z_lald (M := M_X12_cutAt) dX12_cutAt_81 ly_344 rfl rfl rfl hi_33 x_32_e ?_
          obtain ⟨σ_34, σ_34_e, hi_35, H⟩ := wa_e H
          refine z_last (M := M_X12_cutAt) dX12_cutAt_82 ly_344 rfl rfl rfl hi_35 σ_34_e ?_
          refine z_aload_n (M := M_X12_cutAt) dX12_cutAt_83 rfl ?_
          refine z_getR (M := M_X12_cutAt) (ci := 15) (C := RX12) (T := TX12) (Nf := 135) (ty := tyX12) cl15 dX12_cutAt_84 ly_277 115 (by decide) t_2506 rfl ?_
          refine z_iload (M := M_X12_cutAt) dX12_cutAt_87 rfl ?_
          refine z_aload_n (M := M_X12_cutAt) dX12_cutAt_89 rfl ?_
          refine z_getR (M := M_X12_cutAt) (ci := 15) (C := RX12) (T := TX12) (Nf := 135) (ty := tyX12) cl15 dX12_cutAt_90 ly_277 115 (by decide) t_2506 rfl ?_
          refine z_iload (M := M_X12_cutAt) dX12_cutAt_93 rfl ?_
          refine z_iconst (M := M_X12_cutAt) dX12_cutAt_95 ?_
          refine z_isub (M := M_X12_cutAt) dX12_cutAt_96 ?_
          obtain ⟨x_36, x_36_e, hi_37, H⟩ := rd_e H
          refine z_lald (M := M_X12_cutAt) dX12_cutAt_97 ly_345 rfl rfl rfl hi_37 x_36_e ?_
          obtain ⟨σ_38, σ_38_e, hi_39, H⟩ := wa_e H
          refine z_last (M := M_X12_cutAt) dX12_cutAt_98 ly_345 rfl rfl rfl hi_39 σ_38_e ?_
          refine z_iinc (M := M_X12_cutAt) (lv' := [some (vr 277), some (vl num_0), none, some (vl den_0), none, some (vl (if (w64 den_0) < 0 then (-num_0) else num_0)), none, some (vl (if (w64 den_0) < 0 then (-den_0) else den_0)), none, some (vi (k_3 + (-1)))]) dX12_cutAt_99 rfl (Nat.le_of_ble_eq_true rfl) rfl rfl ?_
          refine z_goto (M := M_X12_cutAt) (tgt := 34) dX12_cutAt_102 (by decide) ?_
          exact K_10 _ (Option.some.inj H).symm
        · refine z_if_ge_t (M := M_X12_cutAt) (tgt := 105) dX12_cutAt_64 (by decide) rfl (Int.not_lt.mp h_31) ?_
          exact J_50 _ _ (K_11 _ (Option.some.inj H).symm).symm
      · refine z_if_le_t (M := M_X12_cutAt) (tgt := 105) dX12_cutAt_36 (by decide) rfl (Int.not_lt.mp h_24) ?_
        exact J_50 _ _ (K_11 _ (Option.some.inj H).symm).symm
    refine z_lload_n (M := M_X12_cutAt) dX12_cutAt_14 rfl ?_
    refine z_lconst (M := M_X12_cutAt) (m := 0) dX12_cutAt_15 (by decide +kernel) ?_
    refine z_lcmp (M := M_X12_cutAt) dX12_cutAt_16 ?_
    by_cases h_51 : (w64 den_0) < 0
    · refine z_lif_ge_f (M := M_X12_cutAt) (tgt := 25) dX12_cutAt_17 (by decide) rfl (by decide +kernel) h_51 ?_
      refine z_lload_n (M := M_X12_cutAt) dX12_cutAt_20 rfl ?_
      refine z_lneg (M := M_X12_cutAt) dX12_cutAt_21 ?_
      refine z_goto (M := M_X12_cutAt) (tgt := 26) dX12_cutAt_22 (by decide) ?_
      exact z_st (by rw [if_pos (c := (w64 den_0) < 0) h_51]) J_2
    · refine z_lif_ge_t (M := M_X12_cutAt) (tgt := 25) dX12_cutAt_17 (by decide) rfl (by decide +kernel) (Int.not_lt.mp h_51) ?_
      refine z_lload_n (M := M_X12_cutAt) dX12_cutAt_25 rfl ?_
      exact z_st (by rw [if_neg (c := (w64 den_0) < 0) h_51]) J_2
  refine z_lload_n (M := M_X12_cutAt) dX12_cutAt_0 rfl ?_
  refine z_lconst (M := M_X12_cutAt) (m := 0) dX12_cutAt_1 (by decide +kernel) ?_
  refine z_lcmp (M := M_X12_cutAt) dX12_cutAt_2 ?_
  by_cases h_52 : (w64 den_0) < 0
  · refine z_lif_ge_f (M := M_X12_cutAt) (tgt := 11) dX12_cutAt_3 (by decide) rfl (by decide +kernel) h_52 ?_
    refine z_lload_n (M := M_X12_cutAt) dX12_cutAt_6 rfl ?_
    refine z_lneg (M := M_X12_cutAt) dX12_cutAt_7 ?_
    refine z_goto (M := M_X12_cutAt) (tgt := 12) dX12_cutAt_8 (by decide) ?_
    exact z_st (by rw [if_pos (c := (w64 den_0) < 0) h_52]) J_1
  · refine z_lif_ge_t (M := M_X12_cutAt) (tgt := 11) dX12_cutAt_3 (by decide) rfl (by decide +kernel) (Int.not_lt.mp h_52) ?_
    refine z_lload_n (M := M_X12_cutAt) dX12_cutAt_11 rfl ?_
    exact z_st (by rw [if_neg (c := (w64 den_0) < 0) h_52]) J_1
theorem c_X12_cutAtPlace (hl : l.stackTraces = false) {σ : SG} {i_0 : Int} {x_0 : Int} {y_0 : Int} {σ' : SG}  (H : fR_cutAtPlace σ i_0 x_0 y_0 = some σ') : en_S l E M_X12_cutAtPlace 3 0 0 [vr 277, vi i_0, vl x_0, vl y_0] σ (pS (none) σ') := by
  unfold fR_cutAtPlace at H
  refine z_mk (lv := [some (vr 277), some (vi i_0), some (vl x_0), none, some (vl y_0), none]) m_X12_cutAtPlace rfl hl (Nat.le_of_ble_eq_true rfl) rfl ?_
  obtain ⟨v_4, he_1, hk_2⟩ := bd_e H
  have J_29 : ∀ σ_28, v_4 = σ_28 → YY l E M_X12_cutAtPlace 3 0 0 (pS (none) σ') 70 [some (vr 277), some (vi i_0), some (vl x_0), none, some (vl y_0), none] [] σ_28 0 0 := by
    intro σ_28 e
    have H := hk_2
    rw [e] at H
    cases H
    exact z_vret (M := M_X12_cutAtPlace) dX12_cutAtPlace_70 rfl (Nat.le_of_ble_eq_true rfl) (Nat.le_of_ble_eq_true rfl) ⟨rfl, rfl⟩
  have H := he_1
  refine z_aload_n (M := M_X12_cutAtPlace) dX12_cutAtPlace_0 rfl ?_
  refine z_getR (M := M_X12_cutAtPlace) (ci := 15) (C := RX12) (T := TX12) (Nf := 135) (ty := tyX12) cl15 dX12_cutAtPlace_1 ly_277 43 (by decide) t_2434 rfl ?_
  refine z_iload_n (M := M_X12_cutAtPlace) dX12_cutAtPlace_4 rfl ?_
  obtain ⟨x_5, x_5_e, hi_6, H⟩ := rd_e H
  refine z_lald (M := M_X12_cutAtPlace) dX12_cutAtPlace_5 ly_301 rfl rfl rfl hi_6 x_5_e ?_
  refine z_aload_n (M := M_X12_cutAtPlace) dX12_cutAtPlace_6 rfl ?_
  refine z_getR (M := M_X12_cutAtPlace) (ci := 15) (C := RX12) (T := TX12) (Nf := 135) (ty := tyX12) cl15 dX12_cutAtPlace_7 ly_277 41 (by decide) t_2432 rfl ?_
  refine z_iload_n (M := M_X12_cutAtPlace) dX12_cutAtPlace_10 rfl ?_
  obtain ⟨x_7, x_7_e, hi_8, H⟩ := rd_e H
  refine z_lald (M := M_X12_cutAtPlace) dX12_cutAtPlace_11 ly_299 rfl rfl rfl hi_8 x_7_e ?_
  refine z_lcmp (M := M_X12_cutAtPlace) dX12_cutAtPlace_12 ?_
  rcases if_e H with ⟨h_9, H⟩ | ⟨h_9, H⟩
  · refine z_lif_eq_f (M := M_X12_cutAtPlace) (tgt := 44) dX12_cutAtPlace_13 (by decide) rfl rfl h_9 ?_
    refine z_aload_n (M := M_X12_cutAtPlace) dX12_cutAtPlace_16 rfl ?_
    refine z_lload_n (M := M_X12_cutAtPlace) dX12_cutAtPlace_17 rfl ?_
    refine z_aload_n (M := M_X12_cutAtPlace) dX12_cutAtPlace_18 rfl ?_
    refine z_getR (M := M_X12_cutAtPlace) (ci := 15) (C := RX12) (T := TX12) (Nf := 135) (ty := tyX12) cl15 dX12_cutAtPlace_19 ly_277 41 (by decide) t_2432 rfl ?_
    refine z_iload_n (M := M_X12_cutAtPlace) dX12_cutAtPlace_22 rfl ?_
    obtain ⟨x_10, x_10_e, hi_11, H⟩ := rd_e H
    refine z_lald (M := M_X12_cutAtPlace) dX12_cutAtPlace_23 ly_299 rfl rfl rfl hi_11 x_10_e ?_
    refine z_lsub (M := M_X12_cutAtPlace) dX12_cutAtPlace_24 ?_
    refine z_aload_n (M := M_X12_cutAtPlace) dX12_cutAtPlace_25 rfl ?_
    refine z_getR (M := M_X12_cutAtPlace) (ci := 15) (C := RX12) (T := TX12) (Nf := 135) (ty := tyX12) cl15 dX12_cutAtPlace_26 ly_277 43 (by decide) t_2434 rfl ?_
    refine z_iload_n (M := M_X12_cutAtPlace) dX12_cutAtPlace_29 rfl ?_
    obtain ⟨x_12, x_12_e, hi_13, H⟩ := rd_e H
    refine z_lald (M := M_X12_cutAtPlace) dX12_cutAtPlace_30 ly_301 rfl rfl rfl hi_13 x_12_e ?_
    refine z_aload_n (M := M_X12_cutAtPlace) dX12_cutAtPlace_31 rfl ?_
    refine z_getR (M := M_X12_cutAtPlace) (ci := 15) (C := RX12) (T := TX12) (Nf := 135) (ty := tyX12) cl15 dX12_cutAtPlace_32 ly_277 41 (by decide) t_2432 rfl ?_
    refine z_iload_n (M := M_X12_cutAtPlace) dX12_cutAtPlace_35 rfl ?_
    obtain ⟨x_14, x_14_e, hi_15, H⟩ := rd_e H
    refine z_lald (M := M_X12_cutAtPlace) dX12_cutAtPlace_36 ly_299 rfl rfl rfl hi_15 x_14_e ?_
    refine z_lsub (M := M_X12_cutAtPlace) dX12_cutAtPlace_37 ?_
    obtain ⟨σ_17, hc_16, H⟩ := bd_e H
    refine z_callV (M := M_X12_cutAtPlace) (M' := M_X12_cutAt) (as := [vl (x_0 - x_10), vl (x_12 - x_14)]) (rest := []) rfl rfl dX12_cutAtPlace_38 m_X12_cutAt t_3525 t_3527 s_288 (c_X12_cutAt hl  hc_16) rfl rfl ly_277 rfl (Nat.le_of_ble_eq_true rfl) (Nat.le_of_ble_eq_true rfl) (Nat.le_of_ble_eq_true rfl) (Nat.le_of_ble_eq_true rfl) ?_
    refine z_st (st' := []) rfl ?_
    refine z_goto (M := M_X12_cutAtPlace) (tgt := 70) dX12_cutAtPlace_41 (by decide) ?_
    exact J_29 _ (Option.some.inj H).symm
  · refine z_lif_eq_t (M := M_X12_cutAtPlace) (tgt := 44) dX12_cutAtPlace_13 (by decide) rfl rfl (Decidable.not_not.mp h_9) ?_
    refine z_aload_n (M := M_X12_cutAtPlace) dX12_cutAtPlace_44 rfl ?_
    refine z_lload (M := M_X12_cutAtPlace) dX12_cutAtPlace_45 rfl ?_
    refine z_aload_n (M := M_X12_cutAtPlace) dX12_cutAtPlace_47 rfl ?_
    refine z_getR (M := M_X12_cutAtPlace) (ci := 15) (C := RX12) (T := TX12) (Nf := 135) (ty := tyX12) cl15 dX12_cutAtPlace_48 ly_277 42 (by decide) t_2433 rfl ?_
    refine z_iload_n (M := M_X12_cutAtPlace) dX12_cutAtPlace_51 rfl ?_
    obtain ⟨x_19, x_19_e, hi_20, H⟩ := rd_e H
    refine z_lald (M := M_X12_cutAtPlace) dX12_cutAtPlace_52 ly_300 rfl rfl rfl hi_20 x_19_e ?_
    refine z_lsub (M := M_X12_cutAtPlace) dX12_cutAtPlace_53 ?_
    refine z_aload_n (M := M_X12_cutAtPlace) dX12_cutAtPlace_54 rfl ?_
    refine z_getR (M := M_X12_cutAtPlace) (ci := 15) (C := RX12) (T := TX12) (Nf := 135) (ty := tyX12) cl15 dX12_cutAtPlace_55 ly_277 44 (by decide) t_2435 rfl ?_
    refine z_iload_n (M := M_X12_cutAtPlace) dX12_cutAtPlace_58 rfl ?_
    obtain ⟨x_21, x_21_e, hi_22, H⟩ := rd_e H
    refine z_lald (M := M_X12_cutAtPlace) dX12_cutAtPlace_59 ly_302 rfl rfl rfl hi_22 x_21_e ?_
    refine z_aload_n (M := M_X12_cutAtPlace) dX12_cutAtPlace_60 rfl ?_
    refine z_getR (M := M_X12_cutAtPlace) (ci := 15) (C := RX12) (T := TX12) (Nf := 135) (ty := tyX12) cl15 dX12_cutAtPlace_61 ly_277 42 (by decide) t_2433 rfl ?_
    refine z_iload_n (M := M_X12_cutAtPlace) dX12_cutAtPlace_64 rfl ?_
    obtain ⟨x_23, x_23_e, hi_24, H⟩ := rd_e H
    refine z_lald (M := M_X12_cutAtPlace) dX12_cutAtPlace_65 ly_300 rfl rfl rfl hi_24 x_23_e ?_
    refine z_lsub (M := M_X12_cutAtPlace) dX12_cutAtPlace_66 ?_
    obtain ⟨σ_26, hc_25, H⟩ := bd_e H
    refine z_callV (M := M_X12_cutAtPlace) (M' := M_X12_cutAt) (as := [vl (y_0 - x_19), vl (x_21 - x_23)]) (rest := []) rfl rfl dX12_cutAtPlace_67 m_X12_cutAt t_3525 t_3527 s_288 (c_X12_cutAt hl  hc_25) rfl rfl ly_277 rfl (Nat.le_of_ble_eq_true rfl) (Nat.le_of_ble_eq_true rfl) (Nat.le_of_ble_eq_true rfl) (Nat.le_of_ble_eq_true rfl) ?_
    refine z_st (st' := []) rfl ?_
    exact J_29 _ (Option.some.inj H).symm
theorem c_X12_cutBy (hl : l.stackTraces = false) {σ : SG} {i_0 : Int} {j_0 : Int} {σ' : SG}  (H : fR_cutBy σ i_0 j_0 = some σ') : en_S l E M_X12_cutBy 4 0 0 [vr 277, vi i_0, vi j_0] σ (pS (none) σ') := by
  unfold fR_cutBy at H
  refine z_mk (lv := [some (vr 277), some (vi i_0), some (vi j_0), none, none, none, none, none]) m_X12_cutBy rfl hl (Nat.le_of_ble_eq_true rfl) rfl ?_
  refine z_aload_n (M := M_X12_cutBy) dX12_cutBy_0 rfl ?_
  refine z_iload_n (M := M_X12_cutBy) dX12_cutBy_1 rfl ?_
  refine z_iload_n (M := M_X12_cutBy) dX12_cutBy_2 rfl ?_
  obtain ⟨⟨x_3, σ_2⟩, hc_1, H⟩ := bd_e H
  refine z_callV (M := M_X12_cutBy) (M' := M_X12_meet) (as := [vi i_0, vi j_0]) (rest := []) rfl rfl dX12_cutBy_3 m_X12_meet t_3258 t_3260 s_233 (c_X12_meet hl  hc_1) rfl rfl ly_277 rfl (Nat.le_of_ble_eq_true rfl) (Nat.le_of_ble_eq_true rfl) (Nat.le_of_ble_eq_true rfl) (Nat.le_of_ble_eq_true rfl) ?_
  refine z_st (st' := [vi x_3]) rfl ?_
  refine z_istore_n (M := M_X12_cutBy) (lv' := [some (vr 277), some (vi i_0), some (vi j_0), some (vi x_3), none, none, none, none]) dX12_cutBy_6 (Nat.le_of_ble_eq_true rfl) rfl rfl ?_
  refine z_iload_n (M := M_X12_cutBy) dX12_cutBy_7 rfl ?_
  rcases if_e H with ⟨h_4, H⟩ | ⟨h_4, H⟩
  · refine z_if_ne_f (M := M_X12_cutBy) (tgt := 12) dX12_cutBy_8 (by decide) rfl h_4 ?_
    cases H
    exact z_vret (M := M_X12_cutBy) dX12_cutBy_11 rfl (Nat.le_of_ble_eq_true rfl) (Nat.le_of_ble_eq_true rfl) ⟨rfl, rfl⟩
  · refine z_if_ne_t (M := M_X12_cutBy) (tgt := 12) dX12_cutBy_8 (by decide) rfl h_4 ?_
    obtain ⟨v_8, he_5, hk_6⟩ := bd_e H
    have J_92 : ∀ σ_91, v_8 = σ_91 → YY l E M_X12_cutBy 4 0 0 (pS (none) σ') 217 [some (vr 277), some (vi i_0), some (vi j_0), some (vi x_3), none, none, none, none] [] σ_91 0 0 := by
      intro σ_91 e
      have H := hk_6
      rw [e] at H
      cases H
      exact z_vret (M := M_X12_cutBy) dX12_cutBy_217 rfl (Nat.le_of_ble_eq_true rfl) (Nat.le_of_ble_eq_true rfl) ⟨rfl, rfl⟩
    have H := he_5
    refine z_iload_n (M := M_X12_cutBy) dX12_cutBy_12 rfl ?_
    refine z_iconst (M := M_X12_cutBy) dX12_cutBy_13 ?_
    rcases if_e H with ⟨h_9, H⟩ | ⟨h_9, H⟩
    · refine z_icmp_ne_f (M := M_X12_cutBy) (tgt := 94) dX12_cutBy_14 (by decide) rfl (by decide +kernel) h_9 ?_
      obtain ⟨v_13, he_10, hk_11⟩ := bd_e H
      have J_52 : ∀ σ_29, v_13 = σ_29 → YY l E M_X12_cutBy 4 0 0 (pS (none) σ') 54 [some (vr 277), some (vi i_0), some (vi j_0), some (vi x_3), none, none, none, none] [] σ_29 0 0 := by
        intro σ_29 e
        have H := hk_11
        rw [e] at H
        obtain ⟨v_33, he_30, hk_31⟩ := bd_e H
        have J_51 : ∀ σ_49, v_33 = σ_49 → YY l E M_X12_cutBy 4 0 0 (pS (none) σ') 217 [some (vr 277), some (vi i_0), some (vi j_0), some (vi x_3), none, none, none, none] [] σ_49 0 0 := by
          intro σ_49 e
          have H := hk_31
          rw [e] at H
          exact J_92 _ (Option.some.inj H).symm
        have H := he_30
        refine z_aload_n (M := M_X12_cutBy) dX12_cutBy_54 rfl ?_
        refine z_iload_n (M := M_X12_cutBy) dX12_cutBy_55 rfl ?_
        refine z_aload_n (M := M_X12_cutBy) dX12_cutBy_56 rfl ?_
        refine z_getR (M := M_X12_cutBy) (ci := 15) (C := RX12) (T := TX12) (Nf := 135) (ty := tyX12) cl15 dX12_cutBy_57 ly_277 43 (by decide) t_2434 rfl ?_
        refine z_iload_n (M := M_X12_cutBy) dX12_cutBy_60 rfl ?_
        obtain ⟨x_34, x_34_e, hi_35, H⟩ := rd_e H
        refine z_lald (M := M_X12_cutBy) dX12_cutBy_61 ly_301 rfl rfl rfl hi_35 x_34_e ?_
        refine z_aload_n (M := M_X12_cutBy) dX12_cutBy_62 rfl ?_
        refine z_getR (M := M_X12_cutBy) (ci := 15) (C := RX12) (T := TX12) (Nf := 135) (ty := tyX12) cl15 dX12_cutBy_63 ly_277 44 (by decide) t_2435 rfl ?_
        refine z_iload_n (M := M_X12_cutBy) dX12_cutBy_66 rfl ?_
        obtain ⟨x_36, x_36_e, hi_37, H⟩ := rd_e H
        refine z_lald (M := M_X12_cutBy) dX12_cutBy_67 ly_302 rfl rfl rfl hi_37 x_36_e ?_
        obtain ⟨x_39, hc_38, H⟩ := bd_e H
        refine z_callV (M := M_X12_cutBy) (M' := M_X12_isOn) (as := [vi i_0, vl x_34, vl x_36]) (rest := []) rfl rfl dX12_cutBy_68 m_X12_isOn t_3309 t_3311 s_242 (c_X12_isOn hl  hc_38) rfl rfl ly_277 rfl (Nat.le_of_ble_eq_true rfl) (Nat.le_of_ble_eq_true rfl) (Nat.le_of_ble_eq_true rfl) (Nat.le_of_ble_eq_true rfl) ?_
        refine z_st (st' := [zv x_39]) rfl ?_
        rcases if_e H with ⟨h_40, H⟩ | ⟨h_40, H⟩
        · refine z_zeq_f (M := M_X12_cutBy) (tgt := 217) dX12_cutBy_71 (by decide) h_40 ?_
          refine z_aload_n (M := M_X12_cutBy) dX12_cutBy_74 rfl ?_
          refine z_iload_n (M := M_X12_cutBy) dX12_cutBy_75 rfl ?_
          refine z_aload_n (M := M_X12_cutBy) dX12_cutBy_76 rfl ?_
          refine z_getR (M := M_X12_cutBy) (ci := 15) (C := RX12) (T := TX12) (Nf := 135) (ty := tyX12) cl15 dX12_cutBy_77 ly_277 43 (by decide) t_2434 rfl ?_
          refine z_iload_n (M := M_X12_cutBy) dX12_cutBy_80 rfl ?_
          obtain ⟨x_41, x_41_e, hi_42, H⟩ := rd_e H
          refine z_lald (M := M_X12_cutBy) dX12_cutBy_81 ly_301 rfl rfl rfl hi_42 x_41_e ?_
          refine z_aload_n (M := M_X12_cutBy) dX12_cutBy_82 rfl ?_
          refine z_getR (M := M_X12_cutBy) (ci := 15) (C := RX12) (T := TX12) (Nf := 135) (ty := tyX12) cl15 dX12_cutBy_83 ly_277 44 (by decide) t_2435 rfl ?_
          refine z_iload_n (M := M_X12_cutBy) dX12_cutBy_86 rfl ?_
          obtain ⟨x_43, x_43_e, hi_44, H⟩ := rd_e H
          refine z_lald (M := M_X12_cutBy) dX12_cutBy_87 ly_302 rfl rfl rfl hi_44 x_43_e ?_
          obtain ⟨σ_46, hc_45, H⟩ := bd_e H
          refine z_callV (M := M_X12_cutBy) (M' := M_X12_cutAtPlace) (as := [vi i_0, vl x_41, vl x_43]) (rest := []) rfl rfl dX12_cutBy_88 m_X12_cutAtPlace t_3536 t_3538 s_290 (c_X12_cutAtPlace hl  hc_45) rfl rfl ly_277 rfl (Nat.le_of_ble_eq_true rfl) (Nat.le_of_ble_eq_true rfl) (Nat.le_of_ble_eq_true rfl) (Nat.le_of_ble_eq_true rfl) ?_
          refine z_st (st' := []) rfl ?_
          refine z_goto (M := M_X12_cutBy) (tgt := 217) dX12_cutBy_91 (by decide) ?_
          exact J_51 _ (Option.some.inj H).symm
        · refine z_zeq_t (M := M_X12_cutBy) (tgt := 217) dX12_cutBy_71 (by decide) h_40 ?_
          exact J_51 _ (Option.some.inj H).symm
      have H := he_10
      refine z_aload_n (M := M_X12_cutBy) dX12_cutBy_17 rfl ?_
      refine z_iload_n (M := M_X12_cutBy) dX12_cutBy_18 rfl ?_
      refine z_aload_n (M := M_X12_cutBy) dX12_cutBy_19 rfl ?_
      refine z_getR (M := M_X12_cutBy) (ci := 15) (C := RX12) (T := TX12) (Nf := 135) (ty := tyX12) cl15 dX12_cutBy_20 ly_277 41 (by decide) t_2432 rfl ?_
      refine z_iload_n (M := M_X12_cutBy) dX12_cutBy_23 rfl ?_
      obtain ⟨x_14, x_14_e, hi_15, H⟩ := rd_e H
      refine z_lald (M := M_X12_cutBy) dX12_cutBy_24 ly_299 rfl rfl rfl hi_15 x_14_e ?_
      refine z_aload_n (M := M_X12_cutBy) dX12_cutBy_25 rfl ?_
      refine z_getR (M := M_X12_cutBy) (ci := 15) (C := RX12) (T := TX12) (Nf := 135) (ty := tyX12) cl15 dX12_cutBy_26 ly_277 42 (by decide) t_2433 rfl ?_
      refine z_iload_n (M := M_X12_cutBy) dX12_cutBy_29 rfl ?_
      obtain ⟨x_16, x_16_e, hi_17, H⟩ := rd_e H
      refine z_lald (M := M_X12_cutBy) dX12_cutBy_30 ly_300 rfl rfl rfl hi_17 x_16_e ?_
      obtain ⟨x_19, hc_18, H⟩ := bd_e H
      refine z_callV (M := M_X12_cutBy) (M' := M_X12_isOn) (as := [vi i_0, vl x_14, vl x_16]) (rest := []) rfl rfl dX12_cutBy_31 m_X12_isOn t_3309 t_3311 s_242 (c_X12_isOn hl  hc_18) rfl rfl ly_277 rfl (Nat.le_of_ble_eq_true rfl) (Nat.le_of_ble_eq_true rfl) (Nat.le_of_ble_eq_true rfl) (Nat.le_of_ble_eq_true rfl) ?_
      refine z_st (st' := [zv x_19]) rfl ?_
      rcases if_e H with ⟨h_20, H⟩ | ⟨h_20, H⟩
      · refine z_zeq_f (M := M_X12_cutBy) (tgt := 54) dX12_cutBy_34 (by decide) h_20 ?_
        refine z_aload_n (M := M_X12_cutBy) dX12_cutBy_37 rfl ?_
        refine z_iload_n (M := M_X12_cutBy) dX12_cutBy_38 rfl ?_
        refine z_aload_n (M := M_X12_cutBy) dX12_cutBy_39 rfl ?_
        refine z_getR (M := M_X12_cutBy) (ci := 15) (C := RX12) (T := TX12) (Nf := 135) (ty := tyX12) cl15 dX12_cutBy_40 ly_277 41 (by decide) t_2432 rfl ?_
        refine z_iload_n (M := M_X12_cutBy) dX12_cutBy_43 rfl ?_
        obtain ⟨x_21, x_21_e, hi_22, H⟩ := rd_e H
        refine z_lald (M := M_X12_cutBy) dX12_cutBy_44 ly_299 rfl rfl rfl hi_22 x_21_e ?_
        refine z_aload_n (M := M_X12_cutBy) dX12_cutBy_45 rfl ?_
        refine z_getR (M := M_X12_cutBy) (ci := 15) (C := RX12) (T := TX12) (Nf := 135) (ty := tyX12) cl15 dX12_cutBy_46 ly_277 42 (by decide) t_2433 rfl ?_
        refine z_iload_n (M := M_X12_cutBy) dX12_cutBy_49 rfl ?_
        obtain ⟨x_23, x_23_e, hi_24, H⟩ := rd_e H
        refine z_lald (M := M_X12_cutBy) dX12_cutBy_50 ly_300 rfl rfl rfl hi_24 x_23_e ?_
        obtain ⟨σ_26, hc_25, H⟩ := bd_e H
        refine z_callV (M := M_X12_cutBy) (M' := M_X12_cutAtPlace) (as := [vi i_0, vl x_21, vl x_23]) (rest := []) rfl rfl dX12_cutBy_51 m_X12_cutAtPlace t_3536 t_3538 s_290 (c_X12_cutAtPlace hl  hc_25) rfl rfl ly_277 rfl (Nat.le_of_ble_eq_true rfl) (Nat.le_of_ble_eq_true rfl) (Nat.le_of_ble_eq_true rfl) (Nat.le_of_ble_eq_true rfl) ?_
        refine z_st (st' := []) rfl ?_
        exact J_52 _ (Option.some.inj H).symm
      · refine z_zeq_t (M := M_X12_cutBy) (tgt := 54) dX12_cutBy_34 (by decide) h_20 ?_
        exact J_52 _ (Option.some.inj H).symm
    · refine z_icmp_ne_t (M := M_X12_cutBy) (tgt := 94) dX12_cutBy_14 (by decide) rfl (by decide +kernel) h_9 ?_
      obtain ⟨v_56, he_53, hk_54⟩ := bd_e H
      have J_90 : ∀ σ_88, v_56 = σ_88 → YY l E M_X12_cutBy 4 0 0 (pS (none) σ') 217 [some (vr 277), some (vi i_0), some (vi j_0), some (vi x_3), none, none, none, none] [] σ_88 0 0 := by
        intro σ_88 e
        have H := hk_54
        rw [e] at H
        exact J_92 _ (Option.some.inj H).symm
      have H := he_53
      refine z_aload_n (M := M_X12_cutBy) dX12_cutBy_94 rfl ?_
      refine z_getZ (M := M_X12_cutBy) (ci := 15) (C := RX12) (T := TX12) (Nf := 135) (ty := tyX12) cl15 dX12_cutBy_95 ly_277 49 (by decide) t_2440 rfl rfl ?_
      rcases if_e H with ⟨h_57, H⟩ | ⟨h_57, H⟩
      · refine z_zne_t (M := M_X12_cutBy) (tgt := 117) dX12_cutBy_98 (by decide) h_57 ?_
        refine z_aload_n (M := M_X12_cutBy) dX12_cutBy_117 rfl ?_
        refine z_getR (M := M_X12_cutBy) (ci := 15) (C := RX12) (T := TX12) (Nf := 135) (ty := tyX12) cl15 dX12_cutBy_118 ly_277 43 (by decide) t_2434 rfl ?_
        refine z_iload_n (M := M_X12_cutBy) dX12_cutBy_121 rfl ?_
        obtain ⟨x_58, x_58_e, hi_59, H⟩ := rd_e H
        refine z_lald (M := M_X12_cutBy) dX12_cutBy_122 ly_301 rfl rfl rfl hi_59 x_58_e ?_
        refine z_aload_n (M := M_X12_cutBy) dX12_cutBy_123 rfl ?_
        refine z_getR (M := M_X12_cutBy) (ci := 15) (C := RX12) (T := TX12) (Nf := 135) (ty := tyX12) cl15 dX12_cutBy_124 ly_277 41 (by decide) t_2432 rfl ?_
        refine z_iload_n (M := M_X12_cutBy) dX12_cutBy_127 rfl ?_
        obtain ⟨x_60, x_60_e, hi_61, H⟩ := rd_e H
        refine z_lald (M := M_X12_cutBy) dX12_cutBy_128 ly_299 rfl rfl rfl hi_61 x_60_e ?_
        refine z_lsub (M := M_X12_cutBy) dX12_cutBy_129 ?_
        refine z_lstore (M := M_X12_cutBy) (lv' := [some (vr 277), some (vi i_0), some (vi j_0), some (vi x_3), some (vl (x_58 - x_60)), none, none, none]) dX12_cutBy_130 (Nat.le_of_ble_eq_true rfl) rfl rfl ?_
        refine z_aload_n (M := M_X12_cutBy) dX12_cutBy_132 rfl ?_
        refine z_getR (M := M_X12_cutBy) (ci := 15) (C := RX12) (T := TX12) (Nf := 135) (ty := tyX12) cl15 dX12_cutBy_133 ly_277 44 (by decide) t_2435 rfl ?_
        refine z_iload_n (M := M_X12_cutBy) dX12_cutBy_136 rfl ?_
        obtain ⟨x_62, x_62_e, hi_63, H⟩ := rd_e H
        refine z_lald (M := M_X12_cutBy) dX12_cutBy_137 ly_302 rfl rfl rfl hi_63 x_62_e ?_
        refine z_aload_n (M := M_X12_cutBy) dX12_cutBy_138 rfl ?_
        refine z_getR (M := M_X12_cutBy) (ci := 15) (C := RX12) (T := TX12) (Nf := 135) (ty := tyX12) cl15 dX12_cutBy_139 ly_277 42 (by decide) t_2433 rfl ?_
        refine z_iload_n (M := M_X12_cutBy) dX12_cutBy_142 rfl ?_
        obtain ⟨x_64, x_64_e, hi_65, H⟩ := rd_e H
        refine z_lald (M := M_X12_cutBy) dX12_cutBy_143 ly_300 rfl rfl rfl hi_65 x_64_e ?_
        refine z_lsub (M := M_X12_cutBy) dX12_cutBy_144 ?_
        refine z_lstore (M := M_X12_cutBy) (lv' := [some (vr 277), some (vi i_0), some (vi j_0), some (vi x_3), some (vl (x_58 - x_60)), none, some (vl (x_62 - x_64)), none]) dX12_cutBy_145 (Nat.le_of_ble_eq_true rfl) rfl rfl ?_
        refine z_aload_n (M := M_X12_cutBy) dX12_cutBy_147 rfl ?_
        refine z_aload_n (M := M_X12_cutBy) dX12_cutBy_148 rfl ?_
        refine z_getR (M := M_X12_cutBy) (ci := 15) (C := RX12) (T := TX12) (Nf := 135) (ty := tyX12) cl15 dX12_cutBy_149 ly_277 41 (by decide) t_2432 rfl ?_
        refine z_iload_n (M := M_X12_cutBy) dX12_cutBy_152 rfl ?_
        obtain ⟨x_66, x_66_e, hi_67, H⟩ := rd_e H
        refine z_lald (M := M_X12_cutBy) dX12_cutBy_153 ly_299 rfl rfl rfl hi_67 x_66_e ?_
        refine z_aload_n (M := M_X12_cutBy) dX12_cutBy_154 rfl ?_
        refine z_getR (M := M_X12_cutBy) (ci := 15) (C := RX12) (T := TX12) (Nf := 135) (ty := tyX12) cl15 dX12_cutBy_155 ly_277 41 (by decide) t_2432 rfl ?_
        refine z_iload_n (M := M_X12_cutBy) dX12_cutBy_158 rfl ?_
        obtain ⟨x_68, x_68_e, hi_69, H⟩ := rd_e H
        refine z_lald (M := M_X12_cutBy) dX12_cutBy_159 ly_299 rfl rfl rfl hi_69 x_68_e ?_
        refine z_lsub (M := M_X12_cutBy) dX12_cutBy_160 ?_
        refine z_aload_n (M := M_X12_cutBy) dX12_cutBy_161 rfl ?_
        refine z_getR (M := M_X12_cutBy) (ci := 15) (C := RX12) (T := TX12) (Nf := 135) (ty := tyX12) cl15 dX12_cutBy_162 ly_277 42 (by decide) t_2433 rfl ?_
        refine z_iload_n (M := M_X12_cutBy) dX12_cutBy_165 rfl ?_
        obtain ⟨x_70, x_70_e, hi_71, H⟩ := rd_e H
        refine z_lald (M := M_X12_cutBy) dX12_cutBy_166 ly_300 rfl rfl rfl hi_71 x_70_e ?_
        refine z_aload_n (M := M_X12_cutBy) dX12_cutBy_167 rfl ?_
        refine z_getR (M := M_X12_cutBy) (ci := 15) (C := RX12) (T := TX12) (Nf := 135) (ty := tyX12) cl15 dX12_cutBy_168 ly_277 42 (by decide) t_2433 rfl ?_
        refine z_iload_n (M := M_X12_cutBy) dX12_cutBy_171 rfl ?_
        obtain ⟨x_72, x_72_e, hi_73, H⟩ := rd_e H
        refine z_lald (M := M_X12_cutBy) dX12_cutBy_172 ly_300 rfl rfl rfl hi_73 x_72_e ?_
        refine z_lsub (M := M_X12_cutBy) dX12_cutBy_173 ?_
        refine z_lload (M := M_X12_cutBy) dX12_cutBy_174 rfl ?_
        refine z_lload (M := M_X12_cutBy) dX12_cutBy_176 rfl ?_
        refine z_callS (M := M_X12_cutBy) (M' := M_X12_cross) (as := [vl (x_66 - x_68), vl (x_70 - x_72), vl (x_58 - x_60), vl (x_62 - x_64)]) (rest := [vr 277]) rfl rfl dX12_cutBy_178 m_X12_cross t_3265 t_3266 (c_X12_cross hl  rfl) rfl rfl (Nat.le_of_ble_eq_true rfl) (Nat.le_of_ble_eq_true rfl) (Nat.le_of_ble_eq_true rfl) (Nat.le_of_ble_eq_true rfl) ?_
        refine z_st (st' := [vl (fR_cross (x_66 - x_68) (x_70 - x_72) (x_58 - x_60) (x_62 - x_64)), vr 277]) rfl ?_
        refine z_aload_n (M := M_X12_cutBy) dX12_cutBy_181 rfl ?_
        refine z_getR (M := M_X12_cutBy) (ci := 15) (C := RX12) (T := TX12) (Nf := 135) (ty := tyX12) cl15 dX12_cutBy_182 ly_277 43 (by decide) t_2434 rfl ?_
        refine z_iload_n (M := M_X12_cutBy) dX12_cutBy_185 rfl ?_
        obtain ⟨x_74, x_74_e, hi_75, H⟩ := rd_e H
        refine z_lald (M := M_X12_cutBy) dX12_cutBy_186 ly_301 rfl rfl rfl hi_75 x_74_e ?_
        refine z_aload_n (M := M_X12_cutBy) dX12_cutBy_187 rfl ?_
        refine z_getR (M := M_X12_cutBy) (ci := 15) (C := RX12) (T := TX12) (Nf := 135) (ty := tyX12) cl15 dX12_cutBy_188 ly_277 41 (by decide) t_2432 rfl ?_
        refine z_iload_n (M := M_X12_cutBy) dX12_cutBy_191 rfl ?_
        obtain ⟨x_76, x_76_e, hi_77, H⟩ := rd_e H
        refine z_lald (M := M_X12_cutBy) dX12_cutBy_192 ly_299 rfl rfl rfl hi_77 x_76_e ?_
        refine z_lsub (M := M_X12_cutBy) dX12_cutBy_193 ?_
        refine z_aload_n (M := M_X12_cutBy) dX12_cutBy_194 rfl ?_
        refine z_getR (M := M_X12_cutBy) (ci := 15) (C := RX12) (T := TX12) (Nf := 135) (ty := tyX12) cl15 dX12_cutBy_195 ly_277 44 (by decide) t_2435 rfl ?_
        refine z_iload_n (M := M_X12_cutBy) dX12_cutBy_198 rfl ?_
        obtain ⟨x_78, x_78_e, hi_79, H⟩ := rd_e H
        refine z_lald (M := M_X12_cutBy) dX12_cutBy_199 ly_302 rfl rfl rfl hi_79 x_78_e ?_
        refine z_aload_n (M := M_X12_cutBy) dX12_cutBy_200 rfl ?_
        refine z_getR (M := M_X12_cutBy) (ci := 15) (C := RX12) (T := TX12) (Nf := 135) (ty := tyX12) cl15 dX12_cutBy_201 ly_277 42 (by decide) t_2433 rfl ?_
        refine z_iload_n (M := M_X12_cutBy) dX12_cutBy_204 rfl ?_
        obtain ⟨x_80, x_80_e, hi_81, H⟩ := rd_e H
        refine z_lald (M := M_X12_cutBy) dX12_cutBy_205 ly_300 rfl rfl rfl hi_81 x_80_e ?_
        refine z_lsub (M := M_X12_cutBy) dX12_cutBy_206 ?_
        refine z_lload (M := M_X12_cutBy) dX12_cutBy_207 rfl ?_
        refine z_lload (M := M_X12_cutBy) dX12_cutBy_209 rfl ?_
        refine z_callS (M := M_X12_cutBy) (M' := M_X12_cross) (as := [vl (x_74 - x_76), vl (x_78 - x_80), vl (x_58 - x_60), vl (x_62 - x_64)]) (rest := [vl (fR_cross (x_66 - x_68) (x_70 - x_72) (x_58 - x_60) (x_62 - x_64)), vr 277]) rfl rfl dX12_cutBy_211 m_X12_cross t_3265 t_3266 (c_X12_cross hl  rfl) rfl rfl (Nat.le_of_ble_eq_true rfl) (Nat.le_of_ble_eq_true rfl) (Nat.le_of_ble_eq_true rfl) (Nat.le_of_ble_eq_true rfl) ?_
        refine z_st (st' := [vl (fR_cross (x_74 - x_76) (x_78 - x_80) (x_58 - x_60) (x_62 - x_64)), vl (fR_cross (x_66 - x_68) (x_70 - x_72) (x_58 - x_60) (x_62 - x_64)), vr 277]) rfl ?_
        obtain ⟨σ_83, hc_82, H⟩ := bd_e H
        refine z_callV (M := M_X12_cutBy) (M' := M_X12_cutAt) (as := [vl (fR_cross (x_66 - x_68) (x_70 - x_72) (x_58 - x_60) (x_62 - x_64)), vl (fR_cross (x_74 - x_76) (x_78 - x_80) (x_58 - x_60) (x_62 - x_64))]) (rest := []) rfl rfl dX12_cutBy_214 m_X12_cutAt t_3525 t_3527 s_288 (c_X12_cutAt hl  hc_82) rfl rfl ly_277 rfl (Nat.le_of_ble_eq_true rfl) (Nat.le_of_ble_eq_true rfl) (Nat.le_of_ble_eq_true rfl) (Nat.le_of_ble_eq_true rfl) ?_
        refine z_st (st' := []) rfl ?_
        refine z_le (lv' := [some (vr 277), some (vi i_0), some (vi j_0), some (vi x_3), none, none, none, none]) ⟨Or.inr rfl, Or.inr rfl, Or.inr rfl, Or.inr rfl, Or.inl rfl, Or.inl rfl, Or.inl rfl, Or.inl rfl, trivial⟩ ?_
        exact J_90 _ (Option.some.inj H).symm
      · refine z_zne_f (M := M_X12_cutBy) (tgt := 117) dX12_cutBy_98 (by decide) h_57 ?_
        refine z_aload_n (M := M_X12_cutBy) dX12_cutBy_101 rfl ?_
        refine z_iload_n (M := M_X12_cutBy) dX12_cutBy_102 rfl ?_
        refine z_aload_n (M := M_X12_cutBy) dX12_cutBy_103 rfl ?_
        refine z_getL (M := M_X12_cutBy) (ci := 15) (C := RX12) (T := TX12) (Nf := 135) (ty := tyX12) cl15 dX12_cutBy_104 ly_277 50 (by decide) t_2441 rfl rfl ?_
        refine z_aload_n (M := M_X12_cutBy) dX12_cutBy_107 rfl ?_
        refine z_getL (M := M_X12_cutBy) (ci := 15) (C := RX12) (T := TX12) (Nf := 135) (ty := tyX12) cl15 dX12_cutBy_108 ly_277 51 (by decide) t_2442 rfl rfl ?_
        obtain ⟨σ_86, hc_85, H⟩ := bd_e H
        refine z_callV (M := M_X12_cutBy) (M' := M_X12_cutAtPlace) (as := [vi i_0, vl (σ_2 kR_meetX 0), vl (σ_2 kR_meetY 0)]) (rest := []) rfl rfl dX12_cutBy_111 m_X12_cutAtPlace t_3536 t_3538 s_290 (c_X12_cutAtPlace hl  hc_85) rfl rfl ly_277 rfl (Nat.le_of_ble_eq_true rfl) (Nat.le_of_ble_eq_true rfl) (Nat.le_of_ble_eq_true rfl) (Nat.le_of_ble_eq_true rfl) ?_
        refine z_st (st' := []) rfl ?_
        refine z_goto (M := M_X12_cutBy) (tgt := 217) dX12_cutBy_114 (by decide) ?_
        exact J_90 _ (Option.some.inj H).symm
theorem c_X12_cutAll (hl : l.stackTraces = false) {σ : SG} {i_0 : Int} {σ' : SG}  (H : fR_cutAll σ i_0 = some σ') : en_S l E M_X12_cutAll 5 0 0 [vr 277, vi i_0] σ (pS (none) σ') := by
  unfold fR_cutAll at H
  refine z_mk (lv := [some (vr 277), some (vi i_0), none, none, none]) m_X12_cutAll rfl hl (Nat.le_of_ble_eq_true rfl) rfl ?_
  refine z_aload_n (M := M_X12_cutAll) dX12_cutAll_0 rfl ?_
  refine z_iconst (M := M_X12_cutAll) dX12_cutAll_1 ?_
  obtain ⟨σ_1, σ_1_e, H⟩ := wf_e H
  refine z_putI (M := M_X12_cutAll) (ci := 15) (C := RX12) (T := TX12) (Nf := 135) (ty := tyX12) cl15 dX12_cutAll_2 ly_277 116 (by decide) t_2507 rfl rfl rfl rfl σ_1_e ?_
  refine z_aload_n (M := M_X12_cutAll) dX12_cutAll_5 rfl ?_
  refine z_lconst (M := M_X12_cutAll) (m := 0) dX12_cutAll_6 (by decide +kernel) ?_
  refine z_lconst (M := M_X12_cutAll) (m := 1) dX12_cutAll_7 (by decide +kernel) ?_
  obtain ⟨σ_3, hc_2, H⟩ := bd_e H
  refine z_callV (M := M_X12_cutAll) (M' := M_X12_cutAt) (as := [vl 0, vl 1]) (rest := []) rfl rfl dX12_cutAll_8 m_X12_cutAt t_3525 t_3527 s_288 (c_X12_cutAt hl  hc_2) rfl rfl ly_277 rfl (Nat.le_of_ble_eq_true rfl) (Nat.le_of_ble_eq_true rfl) (Nat.le_of_ble_eq_true rfl) (Nat.le_of_ble_eq_true rfl) ?_
  refine z_st (st' := []) rfl ?_
  refine z_aload_n (M := M_X12_cutAll) dX12_cutAll_11 rfl ?_
  refine z_lconst (M := M_X12_cutAll) (m := 1) dX12_cutAll_12 (by decide +kernel) ?_
  refine z_lconst (M := M_X12_cutAll) (m := 1) dX12_cutAll_13 (by decide +kernel) ?_
  obtain ⟨σ_5, hc_4, H⟩ := bd_e H
  refine z_callV (M := M_X12_cutAll) (M' := M_X12_cutAt) (as := [vl 1, vl 1]) (rest := []) rfl rfl dX12_cutAll_14 m_X12_cutAt t_3525 t_3527 s_288 (c_X12_cutAt hl  hc_4) rfl rfl ly_277 rfl (Nat.le_of_ble_eq_true rfl) (Nat.le_of_ble_eq_true rfl) (Nat.le_of_ble_eq_true rfl) (Nat.le_of_ble_eq_true rfl) ?_
  refine z_st (st' := []) rfl ?_
  refine z_iconst (M := M_X12_cutAll) dX12_cutAll_17 ?_
  refine z_istore_n (M := M_X12_cutAll) (lv' := [some (vr 277), some (vi i_0), some (vi 0), none, none]) dX12_cutAll_18 (Nat.le_of_ble_eq_true rfl) rfl rfl ?_
  obtain ⟨rl_11, hw_8, hk_9⟩ := bd_e H
  have J_92 : ∀ j_29 σ_30, rl_11 = (j_29, σ_30) → YY l E M_X12_cutAll 5 0 0 (pS (none) σ') 44 [some (vr 277), some (vi i_0), some (vi j_29), none, none] [] σ_30 0 0 := by
    intro j_29 σ_30 e
    have H := hk_9
    rw [e] at H
    refine z_iconst (M := M_X12_cutAll) dX12_cutAll_44 ?_
    refine z_istore_n (M := M_X12_cutAll) (lv' := [some (vr 277), some (vi i_0), some (vi 0), none, none]) dX12_cutAll_45 (Nat.le_of_ble_eq_true rfl) rfl rfl ?_
    obtain ⟨rl_36, hw_33, hk_34⟩ := bd_e H
    have J_91 : ∀ s_89 σ_90, rl_36 = (s_89, σ_90) → YY l E M_X12_cutAll 5 0 0 (pS (none) σ') 152 [some (vr 277), some (vi i_0), some (vi s_89), none, none] [] σ_90 0 0 := by
      intro s_89 σ_90 e
      have H := hk_34
      rw [e] at H
      cases H
      exact z_vret (M := M_X12_cutAll) dX12_cutAll_152 rfl (Nat.le_of_ble_eq_true rfl) (Nat.le_of_ble_eq_true rfl) ⟨rfl, rfl⟩
    refine whl_go hw_33 (fun (s_31, σ_32) => YY l E M_X12_cutAll 5 0 0 (pS (none) σ') 46 [some (vr 277), some (vi i_0), some (vi s_31), none, none] [] σ_32 0 0) ?_
    rintro ⟨s_31, σ_32⟩ o_37 H K_38 K_39
    refine z_iload_n (M := M_X12_cutAll) dX12_cutAll_46 rfl ?_
    refine z_iconst (M := M_X12_cutAll) dX12_cutAll_47 ?_
    rcases if_e H with ⟨h_40, H⟩ | ⟨h_40, H⟩
    · refine z_icmp_ge_f (M := M_X12_cutAll) (tgt := 152) dX12_cutAll_48 (by decide) rfl (by decide +kernel) h_40 ?_
      refine z_aload_n (M := M_X12_cutAll) dX12_cutAll_51 rfl ?_
      refine z_getR (M := M_X12_cutAll) (ci := 15) (C := RX12) (T := TX12) (Nf := 135) (ty := tyX12) cl15 dX12_cutAll_52 ly_277 101 (by decide) t_2492 rfl ?_
      refine z_iload_n (M := M_X12_cutAll) dX12_cutAll_55 rfl ?_
      obtain ⟨x_41, x_41_e, hi_42, H⟩ := rd_e H
      refine z_iald (M := M_X12_cutAll) dX12_cutAll_56 ly_337 rfl rfl rfl hi_42 x_41_e ?_
      rcases if_e H with ⟨h_43, H⟩ | ⟨h_43, H⟩
      · refine z_if_le_f (M := M_X12_cutAll) (tgt := 63) dX12_cutAll_57 (by decide) rfl h_43 ?_
        refine z_goto (M := M_X12_cutAll) (tgt := 146) dX12_cutAll_60 (by decide) ?_
        refine z_iinc (M := M_X12_cutAll) (lv' := [some (vr 277), some (vi i_0), some (vi (s_31 + 1)), none, none]) dX12_cutAll_146 rfl (Nat.le_of_ble_eq_true rfl) rfl rfl ?_
        refine z_goto (M := M_X12_cutAll) (tgt := 46) dX12_cutAll_149 (by decide) ?_
        exact K_38 _ (Option.some.inj H).symm
      · refine z_if_le_t (M := M_X12_cutAll) (tgt := 63) dX12_cutAll_57 (by decide) rfl (Int.not_lt.mp h_43) ?_
        refine z_sipush (M := M_X12_cutAll) dX12_cutAll_63 (by decide +kernel) ?_
        refine z_aload_n (M := M_X12_cutAll) dX12_cutAll_66 rfl ?_
        refine z_getR (M := M_X12_cutAll) (ci := 15) (C := RX12) (T := TX12) (Nf := 135) (ty := tyX12) cl15 dX12_cutAll_67 ly_277 100 (by decide) t_2491 rfl ?_
        refine z_iload_n (M := M_X12_cutAll) dX12_cutAll_70 rfl ?_
        obtain ⟨x_45, x_45_e, hi_46, H⟩ := rd_e H
        refine z_iald (M := M_X12_cutAll) dX12_cutAll_71 ly_336 rfl rfl rfl hi_46 x_45_e ?_
        refine z_imul (M := M_X12_cutAll) dX12_cutAll_72 ?_
        refine z_istore_n (M := M_X12_cutAll) (lv' := [some (vr 277), some (vi i_0), some (vi s_31), some (vi (2048 * x_45)), none]) dX12_cutAll_73 (Nat.le_of_ble_eq_true rfl) rfl rfl ?_
        refine z_iload_n (M := M_X12_cutAll) dX12_cutAll_74 rfl ?_
        refine z_istore (M := M_X12_cutAll) (lv' := [some (vr 277), some (vi i_0), some (vi s_31), some (vi (2048 * x_45)), some (vi (2048 * x_45))]) dX12_cutAll_75 (Nat.le_of_ble_eq_true rfl) rfl rfl ?_
        obtain ⟨rl_52, hw_49, hk_50⟩ := bd_e H
        have J_87 : ∀ k_84 σ_85, rl_52 = (k_84, σ_85) → YY l E M_X12_cutAll 5 0 0 (pS (none) σ') 146 [some (vr 277), some (vi i_0), some (vi s_31), some (vi (2048 * x_45)), some (vi k_84)] [] σ_85 0 0 := by
          intro k_84 σ_85 e
          have H := hk_50
          rw [e] at H
          refine z_iinc (M := M_X12_cutAll) (lv' := [some (vr 277), some (vi i_0), some (vi (s_31 + 1)), some (vi (2048 * x_45)), some (vi k_84)]) dX12_cutAll_146 rfl (Nat.le_of_ble_eq_true rfl) rfl rfl ?_
          refine z_goto (M := M_X12_cutAll) (tgt := 46) dX12_cutAll_149 (by decide) ?_
          refine z_le (lv' := [some (vr 277), some (vi i_0), some (vi (s_31 + 1)), none, none]) ⟨Or.inr rfl, Or.inr rfl, Or.inr rfl, Or.inl rfl, Or.inl rfl, trivial⟩ ?_
          exact K_38 _ (Option.some.inj H).symm
        refine whl_go hw_49 (fun (k_47, σ_48) => YY l E M_X12_cutAll 5 0 0 (pS (none) σ') 77 [some (vr 277), some (vi i_0), some (vi s_31), some (vi (2048 * x_45)), some (vi k_47)] [] σ_48 0 0) ?_
        rintro ⟨k_47, σ_48⟩ o_53 H K_54 K_55
        refine z_iload (M := M_X12_cutAll) dX12_cutAll_77 rfl ?_
        refine z_iload_n (M := M_X12_cutAll) dX12_cutAll_79 rfl ?_
        refine z_aload_n (M := M_X12_cutAll) dX12_cutAll_80 rfl ?_
        refine z_getR (M := M_X12_cutAll) (ci := 15) (C := RX12) (T := TX12) (Nf := 135) (ty := tyX12) cl15 dX12_cutAll_81 ly_277 11 (by decide) t_2402 rfl ?_
        refine z_aload_n (M := M_X12_cutAll) dX12_cutAll_84 rfl ?_
        refine z_getR (M := M_X12_cutAll) (ci := 15) (C := RX12) (T := TX12) (Nf := 135) (ty := tyX12) cl15 dX12_cutAll_85 ly_277 100 (by decide) t_2491 rfl ?_
        refine z_iload_n (M := M_X12_cutAll) dX12_cutAll_88 rfl ?_
        obtain ⟨x_56, x_56_e, hi_57, H⟩ := rd_e H
        refine z_iald (M := M_X12_cutAll) dX12_cutAll_89 ly_336 rfl rfl rfl hi_57 x_56_e ?_
        obtain ⟨x_58, x_58_e, hi_59, H⟩ := rd_e H
        refine z_iald (M := M_X12_cutAll) dX12_cutAll_90 ly_282 rfl rfl rfl hi_59 x_58_e ?_
        refine z_iadd (M := M_X12_cutAll) dX12_cutAll_91 ?_
        rcases if_e H with ⟨h_60, H⟩ | ⟨h_60, H⟩
        · refine z_icmp_ge_f (M := M_X12_cutAll) (tgt := 146) dX12_cutAll_92 (by decide) rfl rfl h_60 ?_
          obtain ⟨v_64, he_61, hk_62⟩ := bd_e H
          have J_82 : ∀ σ_80, v_64 = σ_80 → YY l E M_X12_cutAll 5 0 0 (pS (none) σ') 140 [some (vr 277), some (vi i_0), some (vi s_31), some (vi (2048 * x_45)), some (vi k_47)] [] σ_80 0 0 := by
            intro σ_80 e
            have H := hk_62
            rw [e] at H
            refine z_iinc (M := M_X12_cutAll) (lv' := [some (vr 277), some (vi i_0), some (vi s_31), some (vi (2048 * x_45)), some (vi (k_47 + 1))]) dX12_cutAll_140 rfl (Nat.le_of_ble_eq_true rfl) rfl rfl ?_
            refine z_goto (M := M_X12_cutAll) (tgt := 77) dX12_cutAll_143 (by decide) ?_
            exact K_54 _ (Option.some.inj H).symm
          have H := he_61
          refine z_aload_n (M := M_X12_cutAll) dX12_cutAll_95 rfl ?_
          refine z_iload_n (M := M_X12_cutAll) dX12_cutAll_96 rfl ?_
          refine z_aload_n (M := M_X12_cutAll) dX12_cutAll_97 rfl ?_
          refine z_getR (M := M_X12_cutAll) (ci := 15) (C := RX12) (T := TX12) (Nf := 135) (ty := tyX12) cl15 dX12_cutAll_98 ly_277 12 (by decide) t_2403 rfl ?_
          refine z_iload (M := M_X12_cutAll) dX12_cutAll_101 rfl ?_
          obtain ⟨x_65, x_65_e, hi_66, H⟩ := rd_e H
          refine z_iald (M := M_X12_cutAll) dX12_cutAll_103 ly_283 rfl rfl rfl hi_66 x_65_e ?_
          refine z_i2l (M := M_X12_cutAll) dX12_cutAll_104 ?_
          refine z_aload_n (M := M_X12_cutAll) dX12_cutAll_105 rfl ?_
          refine z_getR (M := M_X12_cutAll) (ci := 15) (C := RX12) (T := TX12) (Nf := 135) (ty := tyX12) cl15 dX12_cutAll_106 ly_277 13 (by decide) t_2404 rfl ?_
          refine z_iload (M := M_X12_cutAll) dX12_cutAll_109 rfl ?_
          obtain ⟨x_67, x_67_e, hi_68, H⟩ := rd_e H
          refine z_iald (M := M_X12_cutAll) dX12_cutAll_111 ly_284 rfl rfl rfl hi_68 x_67_e ?_
          refine z_i2l (M := M_X12_cutAll) dX12_cutAll_112 ?_
          obtain ⟨x_70, hc_69, H⟩ := bd_e H
          refine z_callV (M := M_X12_cutAll) (M' := M_X12_isOn) (as := [vi i_0, vl (w32 x_65), vl (w32 x_67)]) (rest := []) rfl rfl dX12_cutAll_113 m_X12_isOn t_3309 t_3311 s_242 (c_X12_isOn hl  hc_69) rfl rfl ly_277 rfl (Nat.le_of_ble_eq_true rfl) (Nat.le_of_ble_eq_true rfl) (Nat.le_of_ble_eq_true rfl) (Nat.le_of_ble_eq_true rfl) ?_
          refine z_st (st' := [zv x_70]) rfl ?_
          rcases if_e H with ⟨h_71, H⟩ | ⟨h_71, H⟩
          · refine z_zeq_f (M := M_X12_cutAll) (tgt := 140) dX12_cutAll_116 (by decide) h_71 ?_
            refine z_aload_n (M := M_X12_cutAll) dX12_cutAll_119 rfl ?_
            refine z_iload_n (M := M_X12_cutAll) dX12_cutAll_120 rfl ?_
            refine z_aload_n (M := M_X12_cutAll) dX12_cutAll_121 rfl ?_
            refine z_getR (M := M_X12_cutAll) (ci := 15) (C := RX12) (T := TX12) (Nf := 135) (ty := tyX12) cl15 dX12_cutAll_122 ly_277 12 (by decide) t_2403 rfl ?_
            refine z_iload (M := M_X12_cutAll) dX12_cutAll_125 rfl ?_
            obtain ⟨x_72, x_72_e, hi_73, H⟩ := rd_e H
            refine z_iald (M := M_X12_cutAll) dX12_cutAll_127 ly_283 rfl rfl rfl hi_73 x_72_e ?_
            refine z_i2l (M := M_X12_cutAll) dX12_cutAll_128 ?_
            refine z_aload_n (M := M_X12_cutAll) dX12_cutAll_129 rfl ?_
            refine z_getR (M := M_X12_cutAll) (ci := 15) (C := RX12) (T := TX12) (Nf := 135) (ty := tyX12) cl15 dX12_cutAll_130 ly_277 13 (by decide) t_2404 rfl ?_
            refine z_iload (M := M_X12_cutAll) dX12_cutAll_133 rfl ?_
            obtain ⟨x_74, x_74_e, hi_75, H⟩ := rd_e H
            refine z_iald (M := M_X12_cutAll) dX12_cutAll_135 ly_284 rfl rfl rfl hi_75 x_74_e ?_
            refine z_i2l (M := M_X12_cutAll) dX12_cutAll_136 ?_
            obtain ⟨σ_77, hc_76, H⟩ := bd_e H
            refine z_callV (M := M_X12_cutAll) (M' := M_X12_cutAtPlace) (as := [vi i_0, vl (w32 x_72), vl (w32 x_74)]) (rest := []) rfl rfl dX12_cutAll_137 m_X12_cutAtPlace t_3536 t_3538 s_290 (c_X12_cutAtPlace hl  hc_76) rfl rfl ly_277 rfl (Nat.le_of_ble_eq_true rfl) (Nat.le_of_ble_eq_true rfl) (Nat.le_of_ble_eq_true rfl) (Nat.le_of_ble_eq_true rfl) ?_
            refine z_st (st' := []) rfl ?_
            exact J_82 _ (Option.some.inj H).symm
          · refine z_zeq_t (M := M_X12_cutAll) (tgt := 140) dX12_cutAll_116 (by decide) h_71 ?_
            exact J_82 _ (Option.some.inj H).symm
        · refine z_icmp_ge_t (M := M_X12_cutAll) (tgt := 146) dX12_cutAll_92 (by decide) rfl rfl (Int.not_lt.mp h_60) ?_
          exact J_87 _ _ (K_55 _ (Option.some.inj H).symm).symm
    · refine z_icmp_ge_t (M := M_X12_cutAll) (tgt := 152) dX12_cutAll_48 (by decide) rfl (by decide +kernel) (Int.not_lt.mp h_40) ?_
      exact J_91 _ _ (K_39 _ (Option.some.inj H).symm).symm
  refine whl_go hw_8 (fun (j_6, σ_7) => YY l E M_X12_cutAll 5 0 0 (pS (none) σ') 19 [some (vr 277), some (vi i_0), some (vi j_6), none, none] [] σ_7 0 0) ?_
  rintro ⟨j_6, σ_7⟩ o_12 H K_13 K_14
  refine z_iload_n (M := M_X12_cutAll) dX12_cutAll_19 rfl ?_
  refine z_aload_n (M := M_X12_cutAll) dX12_cutAll_20 rfl ?_
  refine z_getI (M := M_X12_cutAll) (ci := 15) (C := RX12) (T := TX12) (Nf := 135) (ty := tyX12) cl15 dX12_cutAll_21 ly_277 48 (by decide) t_2439 rfl rfl ?_
  rcases if_e H with ⟨h_15, H⟩ | ⟨h_15, H⟩
  · refine z_icmp_ge_f (M := M_X12_cutAll) (tgt := 44) dX12_cutAll_24 (by decide) rfl rfl h_15 ?_
    obtain ⟨v_19, he_16, hk_17⟩ := bd_e H
    have J_27 : ∀ σ_25, v_19 = σ_25 → YY l E M_X12_cutAll 5 0 0 (pS (none) σ') 38 [some (vr 277), some (vi i_0), some (vi j_6), none, none] [] σ_25 0 0 := by
      intro σ_25 e
      have H := hk_17
      rw [e] at H
      refine z_iinc (M := M_X12_cutAll) (lv' := [some (vr 277), some (vi i_0), some (vi (j_6 + 1)), none, none]) dX12_cutAll_38 rfl (Nat.le_of_ble_eq_true rfl) rfl rfl ?_
      refine z_goto (M := M_X12_cutAll) (tgt := 19) dX12_cutAll_41 (by decide) ?_
      exact K_13 _ (Option.some.inj H).symm
    have H := he_16
    refine z_iload_n (M := M_X12_cutAll) dX12_cutAll_27 rfl ?_
    refine z_iload_n (M := M_X12_cutAll) dX12_cutAll_28 rfl ?_
    rcases if_e H with ⟨h_20, H⟩ | ⟨h_20, H⟩
    · refine z_icmp_eq_f (M := M_X12_cutAll) (tgt := 38) dX12_cutAll_29 (by decide) rfl rfl h_20 ?_
      refine z_aload_n (M := M_X12_cutAll) dX12_cutAll_32 rfl ?_
      refine z_iload_n (M := M_X12_cutAll) dX12_cutAll_33 rfl ?_
      refine z_iload_n (M := M_X12_cutAll) dX12_cutAll_34 rfl ?_
      obtain ⟨σ_22, hc_21, H⟩ := bd_e H
      refine z_callV (M := M_X12_cutAll) (M' := M_X12_cutBy) (as := [vi i_0, vi j_6]) (rest := []) rfl rfl dX12_cutAll_35 m_X12_cutBy t_3532 t_3534 s_289 (c_X12_cutBy hl  hc_21) rfl rfl ly_277 rfl (Nat.le_of_ble_eq_true rfl) (Nat.le_of_ble_eq_true rfl) (Nat.le_of_ble_eq_true rfl) (Nat.le_of_ble_eq_true rfl) ?_
      refine z_st (st' := []) rfl ?_
      exact J_27 _ (Option.some.inj H).symm
    · refine z_icmp_eq_t (M := M_X12_cutAll) (tgt := 38) dX12_cutAll_29 (by decide) rfl rfl (Decidable.not_not.mp h_20) ?_
      exact J_27 _ (Option.some.inj H).symm
  · refine z_icmp_ge_t (M := M_X12_cutAll) (tgt := 44) dX12_cutAll_24 (by decide) rfl rfl (Int.not_lt.mp h_15) ?_
    exact J_92 _ _ (K_14 _ (Option.some.inj H).symm).symm
theorem c_X12_middle (hl : l.stackTraces = false) {σ : SG} {k_0 : Int} {σ' : SG}  (H : fR_middle σ k_0 = some σ') : en_S l E M_X12_middle 4 0 0 [vr 277, vi k_0] σ (pS (none) σ') := by
  unfold fR_middle at H
  refine z_mk (lv := [some (vr 277), some (vi k_0)]) m_X12_middle rfl hl (Nat.le_of_ble_eq_true rfl) rfl ?_
  refine z_aload_n (M := M_X12_middle) dX12_middle_0 rfl ?_
  refine z_bipush (M := M_X12_middle) dX12_middle_1 (by decide +kernel) ?_
  refine z_aload_n (M := M_X12_middle) dX12_middle_3 rfl ?_
  refine z_getR (M := M_X12_middle) (ci := 15) (C := RX12) (T := TX12) (Nf := 135) (ty := tyX12) cl15 dX12_middle_4 ly_277 114 (by decide) t_2505 rfl ?_
  refine z_iload_n (M := M_X12_middle) dX12_middle_7 rfl ?_
  obtain ⟨x_1, x_1_e, hi_2, H⟩ := rd_e H
  refine z_lald (M := M_X12_middle) dX12_middle_8 ly_344 rfl rfl rfl hi_2 x_1_e ?_
  obtain ⟨σ_4, hc_3, H⟩ := bd_e H
  refine z_callV (M := M_X12_middle) (M' := M_X12_set) (as := [vi 7, vl x_1]) (rest := []) rfl rfl dX12_middle_9 m_X12_set t_3210 t_3212 s_222 (c_X12_set hl  hc_3) rfl rfl ly_277 rfl (Nat.le_of_ble_eq_true rfl) (Nat.le_of_ble_eq_true rfl) (Nat.le_of_ble_eq_true rfl) (Nat.le_of_ble_eq_true rfl) ?_
  refine z_st (st' := []) rfl ?_
  refine z_aload_n (M := M_X12_middle) dX12_middle_12 rfl ?_
  refine z_bipush (M := M_X12_middle) dX12_middle_13 (by decide +kernel) ?_
  refine z_aload_n (M := M_X12_middle) dX12_middle_15 rfl ?_
  refine z_getR (M := M_X12_middle) (ci := 15) (C := RX12) (T := TX12) (Nf := 135) (ty := tyX12) cl15 dX12_middle_16 ly_277 115 (by decide) t_2506 rfl ?_
  refine z_iload_n (M := M_X12_middle) dX12_middle_19 rfl ?_
  refine z_iconst (M := M_X12_middle) dX12_middle_20 ?_
  refine z_iadd (M := M_X12_middle) dX12_middle_21 ?_
  obtain ⟨x_5, x_5_e, hi_6, H⟩ := rd_e H
  refine z_lald (M := M_X12_middle) dX12_middle_22 ly_345 rfl rfl rfl hi_6 x_5_e ?_
  obtain ⟨σ_8, hc_7, H⟩ := bd_e H
  refine z_callV (M := M_X12_middle) (M' := M_X12_set) (as := [vi 8, vl x_5]) (rest := []) rfl rfl dX12_middle_23 m_X12_set t_3210 t_3212 s_222 (c_X12_set hl  hc_7) rfl rfl ly_277 rfl (Nat.le_of_ble_eq_true rfl) (Nat.le_of_ble_eq_true rfl) (Nat.le_of_ble_eq_true rfl) (Nat.le_of_ble_eq_true rfl) ?_
  refine z_st (st' := []) rfl ?_
  refine z_aload_n (M := M_X12_middle) dX12_middle_26 rfl ?_
  refine z_bipush (M := M_X12_middle) dX12_middle_27 (by decide +kernel) ?_
  refine z_bipush (M := M_X12_middle) dX12_middle_29 (by decide +kernel) ?_
  refine z_bipush (M := M_X12_middle) dX12_middle_31 (by decide +kernel) ?_
  obtain ⟨σ_10, hc_9, H⟩ := bd_e H
  refine z_callV (M := M_X12_middle) (M' := M_X12_times) (as := [vi 9, vi 7, vi 8]) (rest := []) rfl rfl dX12_middle_33 m_X12_times t_3194 t_3196 s_219 (c_X12_times hl  hc_9) rfl rfl ly_277 rfl (Nat.le_of_ble_eq_true rfl) (Nat.le_of_ble_eq_true rfl) (Nat.le_of_ble_eq_true rfl) (Nat.le_of_ble_eq_true rfl) ?_
  refine z_st (st' := []) rfl ?_
  refine z_aload_n (M := M_X12_middle) dX12_middle_36 rfl ?_
  refine z_bipush (M := M_X12_middle) dX12_middle_37 (by decide +kernel) ?_
  refine z_aload_n (M := M_X12_middle) dX12_middle_39 rfl ?_
  refine z_getR (M := M_X12_middle) (ci := 15) (C := RX12) (T := TX12) (Nf := 135) (ty := tyX12) cl15 dX12_middle_40 ly_277 114 (by decide) t_2505 rfl ?_
  refine z_iload_n (M := M_X12_middle) dX12_middle_43 rfl ?_
  refine z_iconst (M := M_X12_middle) dX12_middle_44 ?_
  refine z_iadd (M := M_X12_middle) dX12_middle_45 ?_
  obtain ⟨x_11, x_11_e, hi_12, H⟩ := rd_e H
  refine z_lald (M := M_X12_middle) dX12_middle_46 ly_344 rfl rfl rfl hi_12 x_11_e ?_
  obtain ⟨σ_14, hc_13, H⟩ := bd_e H
  refine z_callV (M := M_X12_middle) (M' := M_X12_set) (as := [vi 7, vl x_11]) (rest := []) rfl rfl dX12_middle_47 m_X12_set t_3210 t_3212 s_222 (c_X12_set hl  hc_13) rfl rfl ly_277 rfl (Nat.le_of_ble_eq_true rfl) (Nat.le_of_ble_eq_true rfl) (Nat.le_of_ble_eq_true rfl) (Nat.le_of_ble_eq_true rfl) ?_
  refine z_st (st' := []) rfl ?_
  refine z_aload_n (M := M_X12_middle) dX12_middle_50 rfl ?_
  refine z_bipush (M := M_X12_middle) dX12_middle_51 (by decide +kernel) ?_
  refine z_aload_n (M := M_X12_middle) dX12_middle_53 rfl ?_
  refine z_getR (M := M_X12_middle) (ci := 15) (C := RX12) (T := TX12) (Nf := 135) (ty := tyX12) cl15 dX12_middle_54 ly_277 115 (by decide) t_2506 rfl ?_
  refine z_iload_n (M := M_X12_middle) dX12_middle_57 rfl ?_
  obtain ⟨x_15, x_15_e, hi_16, H⟩ := rd_e H
  refine z_lald (M := M_X12_middle) dX12_middle_58 ly_345 rfl rfl rfl hi_16 x_15_e ?_
  obtain ⟨σ_18, hc_17, H⟩ := bd_e H
  refine z_callV (M := M_X12_middle) (M' := M_X12_set) (as := [vi 8, vl x_15]) (rest := []) rfl rfl dX12_middle_59 m_X12_set t_3210 t_3212 s_222 (c_X12_set hl  hc_17) rfl rfl ly_277 rfl (Nat.le_of_ble_eq_true rfl) (Nat.le_of_ble_eq_true rfl) (Nat.le_of_ble_eq_true rfl) (Nat.le_of_ble_eq_true rfl) ?_
  refine z_st (st' := []) rfl ?_
  refine z_aload_n (M := M_X12_middle) dX12_middle_62 rfl ?_
  refine z_bipush (M := M_X12_middle) dX12_middle_63 (by decide +kernel) ?_
  refine z_bipush (M := M_X12_middle) dX12_middle_65 (by decide +kernel) ?_
  refine z_bipush (M := M_X12_middle) dX12_middle_67 (by decide +kernel) ?_
  obtain ⟨σ_20, hc_19, H⟩ := bd_e H
  refine z_callV (M := M_X12_middle) (M' := M_X12_times) (as := [vi 10, vi 7, vi 8]) (rest := []) rfl rfl dX12_middle_69 m_X12_times t_3194 t_3196 s_219 (c_X12_times hl  hc_19) rfl rfl ly_277 rfl (Nat.le_of_ble_eq_true rfl) (Nat.le_of_ble_eq_true rfl) (Nat.le_of_ble_eq_true rfl) (Nat.le_of_ble_eq_true rfl) ?_
  refine z_st (st' := []) rfl ?_
  refine z_aload_n (M := M_X12_middle) dX12_middle_72 rfl ?_
  refine z_iconst (M := M_X12_middle) dX12_middle_73 ?_
  refine z_bipush (M := M_X12_middle) dX12_middle_74 (by decide +kernel) ?_
  refine z_bipush (M := M_X12_middle) dX12_middle_76 (by decide +kernel) ?_
  refine z_zconst (M := M_X12_middle) (b := false) dX12_middle_78 rfl ?_
  obtain ⟨σ_22, hc_21, H⟩ := bd_e H
  refine z_callV (M := M_X12_middle) (M' := M_X12_add) (as := [vi 0, vi 9, vi 10, zv false]) (rest := []) rfl rfl dX12_middle_79 m_X12_add t_3174 t_3176 s_214 (c_X12_add hl  hc_21) rfl rfl ly_277 rfl (Nat.le_of_ble_eq_true rfl) (Nat.le_of_ble_eq_true rfl) (Nat.le_of_ble_eq_true rfl) (Nat.le_of_ble_eq_true rfl) ?_
  refine z_st (st' := []) rfl ?_
  refine z_aload_n (M := M_X12_middle) dX12_middle_82 rfl ?_
  refine z_bipush (M := M_X12_middle) dX12_middle_83 (by decide +kernel) ?_
  refine z_aload_n (M := M_X12_middle) dX12_middle_85 rfl ?_
  refine z_getR (M := M_X12_middle) (ci := 15) (C := RX12) (T := TX12) (Nf := 135) (ty := tyX12) cl15 dX12_middle_86 ly_277 115 (by decide) t_2506 rfl ?_
  refine z_iload_n (M := M_X12_middle) dX12_middle_89 rfl ?_
  obtain ⟨x_23, x_23_e, hi_24, H⟩ := rd_e H
  refine z_lald (M := M_X12_middle) dX12_middle_90 ly_345 rfl rfl rfl hi_24 x_23_e ?_
  obtain ⟨σ_26, hc_25, H⟩ := bd_e H
  refine z_callV (M := M_X12_middle) (M' := M_X12_set) (as := [vi 7, vl x_23]) (rest := []) rfl rfl dX12_middle_91 m_X12_set t_3210 t_3212 s_222 (c_X12_set hl  hc_25) rfl rfl ly_277 rfl (Nat.le_of_ble_eq_true rfl) (Nat.le_of_ble_eq_true rfl) (Nat.le_of_ble_eq_true rfl) (Nat.le_of_ble_eq_true rfl) ?_
  refine z_st (st' := []) rfl ?_
  refine z_aload_n (M := M_X12_middle) dX12_middle_94 rfl ?_
  refine z_bipush (M := M_X12_middle) dX12_middle_95 (by decide +kernel) ?_
  refine z_aload_n (M := M_X12_middle) dX12_middle_97 rfl ?_
  refine z_getR (M := M_X12_middle) (ci := 15) (C := RX12) (T := TX12) (Nf := 135) (ty := tyX12) cl15 dX12_middle_98 ly_277 115 (by decide) t_2506 rfl ?_
  refine z_iload_n (M := M_X12_middle) dX12_middle_101 rfl ?_
  refine z_iconst (M := M_X12_middle) dX12_middle_102 ?_
  refine z_iadd (M := M_X12_middle) dX12_middle_103 ?_
  obtain ⟨x_27, x_27_e, hi_28, H⟩ := rd_e H
  refine z_lald (M := M_X12_middle) dX12_middle_104 ly_345 rfl rfl rfl hi_28 x_27_e ?_
  obtain ⟨σ_30, hc_29, H⟩ := bd_e H
  refine z_callV (M := M_X12_middle) (M' := M_X12_set) (as := [vi 8, vl x_27]) (rest := []) rfl rfl dX12_middle_105 m_X12_set t_3210 t_3212 s_222 (c_X12_set hl  hc_29) rfl rfl ly_277 rfl (Nat.le_of_ble_eq_true rfl) (Nat.le_of_ble_eq_true rfl) (Nat.le_of_ble_eq_true rfl) (Nat.le_of_ble_eq_true rfl) ?_
  refine z_st (st' := []) rfl ?_
  refine z_aload_n (M := M_X12_middle) dX12_middle_108 rfl ?_
  refine z_bipush (M := M_X12_middle) dX12_middle_109 (by decide +kernel) ?_
  refine z_bipush (M := M_X12_middle) dX12_middle_111 (by decide +kernel) ?_
  refine z_bipush (M := M_X12_middle) dX12_middle_113 (by decide +kernel) ?_
  obtain ⟨σ_32, hc_31, H⟩ := bd_e H
  refine z_callV (M := M_X12_middle) (M' := M_X12_times) (as := [vi 9, vi 7, vi 8]) (rest := []) rfl rfl dX12_middle_115 m_X12_times t_3194 t_3196 s_219 (c_X12_times hl  hc_31) rfl rfl ly_277 rfl (Nat.le_of_ble_eq_true rfl) (Nat.le_of_ble_eq_true rfl) (Nat.le_of_ble_eq_true rfl) (Nat.le_of_ble_eq_true rfl) ?_
  refine z_st (st' := []) rfl ?_
  refine z_aload_n (M := M_X12_middle) dX12_middle_118 rfl ?_
  refine z_bipush (M := M_X12_middle) dX12_middle_119 (by decide +kernel) ?_
  refine z_ldc2 (M := M_X12_middle) (n := 2) dX12_middle_121 t_3091 (by decide +kernel) ?_
  obtain ⟨σ_34, hc_33, H⟩ := bd_e H
  refine z_callV (M := M_X12_middle) (M' := M_X12_set) (as := [vi 8, vl 2]) (rest := []) rfl rfl dX12_middle_124 m_X12_set t_3210 t_3212 s_222 (c_X12_set hl  hc_33) rfl rfl ly_277 rfl (Nat.le_of_ble_eq_true rfl) (Nat.le_of_ble_eq_true rfl) (Nat.le_of_ble_eq_true rfl) (Nat.le_of_ble_eq_true rfl) ?_
  refine z_st (st' := []) rfl ?_
  refine z_aload_n (M := M_X12_middle) dX12_middle_127 rfl ?_
  refine z_iconst (M := M_X12_middle) dX12_middle_128 ?_
  refine z_bipush (M := M_X12_middle) dX12_middle_129 (by decide +kernel) ?_
  refine z_bipush (M := M_X12_middle) dX12_middle_131 (by decide +kernel) ?_
  obtain ⟨σ_36, hc_35, H⟩ := bd_e H
  refine z_callV (M := M_X12_middle) (M' := M_X12_times) (as := [vi 1, vi 9, vi 8]) (rest := []) rfl rfl dX12_middle_133 m_X12_times t_3194 t_3196 s_219 (c_X12_times hl  hc_35) rfl rfl ly_277 rfl (Nat.le_of_ble_eq_true rfl) (Nat.le_of_ble_eq_true rfl) (Nat.le_of_ble_eq_true rfl) (Nat.le_of_ble_eq_true rfl) ?_
  refine z_st (st' := []) rfl ?_
  cases H
  exact z_vret (M := M_X12_middle) dX12_middle_136 rfl (Nat.le_of_ble_eq_true rfl) (Nat.le_of_ble_eq_true rfl) ⟨rfl, rfl⟩
theorem c_X12_relateAlong (hl : l.stackTraces = false) {σ : SG} {i_0 : Int} {σ' : SG}  (H : fR_relateAlong σ i_0 = some σ') : en_S l E M_X12_relateAlong 9 0 0 [vr 277, vi i_0] σ (pS (none) σ') := by
  unfold fR_relateAlong at H
  refine z_mk (lv := [some (vr 277), some (vi i_0), none, none, none]) m_X12_relateAlong rfl hl (Nat.le_of_ble_eq_true rfl) rfl ?_
  refine z_aload_n (M := M_X12_relateAlong) dX12_relateAlong_0 rfl ?_
  refine z_iload_n (M := M_X12_relateAlong) dX12_relateAlong_1 rfl ?_
  obtain ⟨σ_2, hc_1, H⟩ := bd_e H
  refine z_callV (M := M_X12_relateAlong) (M' := M_X12_cutAll) (as := [vi i_0]) (rest := []) rfl rfl dX12_relateAlong_2 m_X12_cutAll t_3521 t_3523 s_287 (c_X12_cutAll hl  hc_1) rfl rfl ly_277 rfl (Nat.le_of_ble_eq_true rfl) (Nat.le_of_ble_eq_true rfl) (Nat.le_of_ble_eq_true rfl) (Nat.le_of_ble_eq_true rfl) ?_
  refine z_st (st' := []) rfl ?_
  refine z_aload_n (M := M_X12_relateAlong) dX12_relateAlong_5 rfl ?_
  refine z_aload_n (M := M_X12_relateAlong) dX12_relateAlong_6 rfl ?_
  refine z_getR (M := M_X12_relateAlong) (ci := 15) (C := RX12) (T := TX12) (Nf := 135) (ty := tyX12) cl15 dX12_relateAlong_7 ly_277 41 (by decide) t_2432 rfl ?_
  refine z_iload_n (M := M_X12_relateAlong) dX12_relateAlong_10 rfl ?_
  obtain ⟨x_3, x_3_e, hi_4, H⟩ := rd_e H
  refine z_lald (M := M_X12_relateAlong) dX12_relateAlong_11 ly_299 rfl rfl rfl hi_4 x_3_e ?_
  obtain ⟨σ_5, σ_5_e, H⟩ := wf_e H
  refine z_putL (M := M_X12_relateAlong) (ci := 15) (C := RX12) (T := TX12) (Nf := 135) (ty := tyX12) cl15 dX12_relateAlong_12 ly_277 108 (by decide) t_2499 rfl rfl rfl rfl σ_5_e ?_
  refine z_aload_n (M := M_X12_relateAlong) dX12_relateAlong_15 rfl ?_
  refine z_aload_n (M := M_X12_relateAlong) dX12_relateAlong_16 rfl ?_
  refine z_getR (M := M_X12_relateAlong) (ci := 15) (C := RX12) (T := TX12) (Nf := 135) (ty := tyX12) cl15 dX12_relateAlong_17 ly_277 42 (by decide) t_2433 rfl ?_
  refine z_iload_n (M := M_X12_relateAlong) dX12_relateAlong_20 rfl ?_
  obtain ⟨x_6, x_6_e, hi_7, H⟩ := rd_e H
  refine z_lald (M := M_X12_relateAlong) dX12_relateAlong_21 ly_300 rfl rfl rfl hi_7 x_6_e ?_
  obtain ⟨σ_8, σ_8_e, H⟩ := wf_e H
  refine z_putL (M := M_X12_relateAlong) (ci := 15) (C := RX12) (T := TX12) (Nf := 135) (ty := tyX12) cl15 dX12_relateAlong_22 ly_277 109 (by decide) t_2500 rfl rfl rfl rfl σ_8_e ?_
  refine z_aload_n (M := M_X12_relateAlong) dX12_relateAlong_25 rfl ?_
  refine z_aload_n (M := M_X12_relateAlong) dX12_relateAlong_26 rfl ?_
  refine z_getR (M := M_X12_relateAlong) (ci := 15) (C := RX12) (T := TX12) (Nf := 135) (ty := tyX12) cl15 dX12_relateAlong_27 ly_277 43 (by decide) t_2434 rfl ?_
  refine z_iload_n (M := M_X12_relateAlong) dX12_relateAlong_30 rfl ?_
  obtain ⟨x_9, x_9_e, hi_10, H⟩ := rd_e H
  refine z_lald (M := M_X12_relateAlong) dX12_relateAlong_31 ly_301 rfl rfl rfl hi_10 x_9_e ?_
  refine z_aload_n (M := M_X12_relateAlong) dX12_relateAlong_32 rfl ?_
  refine z_getR (M := M_X12_relateAlong) (ci := 15) (C := RX12) (T := TX12) (Nf := 135) (ty := tyX12) cl15 dX12_relateAlong_33 ly_277 41 (by decide) t_2432 rfl ?_
  refine z_iload_n (M := M_X12_relateAlong) dX12_relateAlong_36 rfl ?_
  obtain ⟨x_11, x_11_e, hi_12, H⟩ := rd_e H
  refine z_lald (M := M_X12_relateAlong) dX12_relateAlong_37 ly_299 rfl rfl rfl hi_12 x_11_e ?_
  refine z_lsub (M := M_X12_relateAlong) dX12_relateAlong_38 ?_
  obtain ⟨σ_13, σ_13_e, H⟩ := wf_e H
  refine z_putL (M := M_X12_relateAlong) (ci := 15) (C := RX12) (T := TX12) (Nf := 135) (ty := tyX12) cl15 dX12_relateAlong_39 ly_277 110 (by decide) t_2501 rfl rfl rfl rfl σ_13_e ?_
  refine z_aload_n (M := M_X12_relateAlong) dX12_relateAlong_42 rfl ?_
  refine z_aload_n (M := M_X12_relateAlong) dX12_relateAlong_43 rfl ?_
  refine z_getR (M := M_X12_relateAlong) (ci := 15) (C := RX12) (T := TX12) (Nf := 135) (ty := tyX12) cl15 dX12_relateAlong_44 ly_277 44 (by decide) t_2435 rfl ?_
  refine z_iload_n (M := M_X12_relateAlong) dX12_relateAlong_47 rfl ?_
  obtain ⟨x_14, x_14_e, hi_15, H⟩ := rd_e H
  refine z_lald (M := M_X12_relateAlong) dX12_relateAlong_48 ly_302 rfl rfl rfl hi_15 x_14_e ?_
  refine z_aload_n (M := M_X12_relateAlong) dX12_relateAlong_49 rfl ?_
  refine z_getR (M := M_X12_relateAlong) (ci := 15) (C := RX12) (T := TX12) (Nf := 135) (ty := tyX12) cl15 dX12_relateAlong_50 ly_277 42 (by decide) t_2433 rfl ?_
  refine z_iload_n (M := M_X12_relateAlong) dX12_relateAlong_53 rfl ?_
  obtain ⟨x_16, x_16_e, hi_17, H⟩ := rd_e H
  refine z_lald (M := M_X12_relateAlong) dX12_relateAlong_54 ly_300 rfl rfl rfl hi_17 x_16_e ?_
  refine z_lsub (M := M_X12_relateAlong) dX12_relateAlong_55 ?_
  obtain ⟨σ_18, σ_18_e, H⟩ := wf_e H
  refine z_putL (M := M_X12_relateAlong) (ci := 15) (C := RX12) (T := TX12) (Nf := 135) (ty := tyX12) cl15 dX12_relateAlong_56 ly_277 111 (by decide) t_2502 rfl rfl rfl rfl σ_18_e ?_
  refine z_iconst (M := M_X12_relateAlong) dX12_relateAlong_59 ?_
  refine z_istore_n (M := M_X12_relateAlong) (lv' := [some (vr 277), some (vi i_0), some (vi 0), none, none]) dX12_relateAlong_60 (Nat.le_of_ble_eq_true rfl) rfl rfl ?_
  obtain ⟨rl_24, hw_21, hk_22⟩ := bd_e H
  have J_109 : ∀ k_107 σ_108, rl_24 = (k_107, σ_108) → YY l E M_X12_relateAlong 9 0 0 (pS (none) σ') 259 [some (vr 277), some (vi i_0), some (vi k_107), none, none] [] σ_108 0 0 := by
    intro k_107 σ_108 e
    have H := hk_22
    rw [e] at H
    cases H
    exact z_vret (M := M_X12_relateAlong) dX12_relateAlong_259 rfl (Nat.le_of_ble_eq_true rfl) (Nat.le_of_ble_eq_true rfl) ⟨rfl, rfl⟩
  refine whl_go hw_21 (fun (k_19, σ_20) => YY l E M_X12_relateAlong 9 0 0 (pS (none) σ') 61 [some (vr 277), some (vi i_0), some (vi k_19), none, none] [] σ_20 0 0) ?_
  rintro ⟨k_19, σ_20⟩ o_25 H K_26 K_27
  refine z_iload_n (M := M_X12_relateAlong) dX12_relateAlong_61 rfl ?_
  refine z_aload_n (M := M_X12_relateAlong) dX12_relateAlong_62 rfl ?_
  refine z_getI (M := M_X12_relateAlong) (ci := 15) (C := RX12) (T := TX12) (Nf := 135) (ty := tyX12) cl15 dX12_relateAlong_63 ly_277 116 (by decide) t_2507 rfl rfl ?_
  rcases if_e H with ⟨h_28, H⟩ | ⟨h_28, H⟩
  · refine z_icmp_ge_f (M := M_X12_relateAlong) (tgt := 259) dX12_relateAlong_66 (by decide) rfl rfl h_28 ?_
    refine z_aload_n (M := M_X12_relateAlong) dX12_relateAlong_69 rfl ?_
    refine z_iconst (M := M_X12_relateAlong) dX12_relateAlong_70 ?_
    refine z_aload_n (M := M_X12_relateAlong) dX12_relateAlong_71 rfl ?_
    refine z_getR (M := M_X12_relateAlong) (ci := 15) (C := RX12) (T := TX12) (Nf := 135) (ty := tyX12) cl15 dX12_relateAlong_72 ly_277 114 (by decide) t_2505 rfl ?_
    refine z_iload_n (M := M_X12_relateAlong) dX12_relateAlong_75 rfl ?_
    obtain ⟨x_29, x_29_e, hi_30, H⟩ := rd_e H
    refine z_lald (M := M_X12_relateAlong) dX12_relateAlong_76 ly_344 rfl rfl rfl hi_30 x_29_e ?_
    obtain ⟨σ_32, hc_31, H⟩ := bd_e H
    refine z_callV (M := M_X12_relateAlong) (M' := M_X12_set) (as := [vi 0, vl x_29]) (rest := []) rfl rfl dX12_relateAlong_77 m_X12_set t_3210 t_3212 s_222 (c_X12_set hl  hc_31) rfl rfl ly_277 rfl (Nat.le_of_ble_eq_true rfl) (Nat.le_of_ble_eq_true rfl) (Nat.le_of_ble_eq_true rfl) (Nat.le_of_ble_eq_true rfl) ?_
    refine z_st (st' := []) rfl ?_
    refine z_aload_n (M := M_X12_relateAlong) dX12_relateAlong_80 rfl ?_
    refine z_iconst (M := M_X12_relateAlong) dX12_relateAlong_81 ?_
    refine z_aload_n (M := M_X12_relateAlong) dX12_relateAlong_82 rfl ?_
    refine z_getR (M := M_X12_relateAlong) (ci := 15) (C := RX12) (T := TX12) (Nf := 135) (ty := tyX12) cl15 dX12_relateAlong_83 ly_277 115 (by decide) t_2506 rfl ?_
    refine z_iload_n (M := M_X12_relateAlong) dX12_relateAlong_86 rfl ?_
    obtain ⟨x_33, x_33_e, hi_34, H⟩ := rd_e H
    refine z_lald (M := M_X12_relateAlong) dX12_relateAlong_87 ly_345 rfl rfl rfl hi_34 x_33_e ?_
    obtain ⟨σ_36, hc_35, H⟩ := bd_e H
    refine z_callV (M := M_X12_relateAlong) (M' := M_X12_set) (as := [vi 1, vl x_33]) (rest := []) rfl rfl dX12_relateAlong_88 m_X12_set t_3210 t_3212 s_222 (c_X12_set hl  hc_35) rfl rfl ly_277 rfl (Nat.le_of_ble_eq_true rfl) (Nat.le_of_ble_eq_true rfl) (Nat.le_of_ble_eq_true rfl) (Nat.le_of_ble_eq_true rfl) ?_
    refine z_st (st' := []) rfl ?_
    refine z_aload_n (M := M_X12_relateAlong) dX12_relateAlong_91 rfl ?_
    refine z_aload_n (M := M_X12_relateAlong) dX12_relateAlong_92 rfl ?_
    refine z_iconst (M := M_X12_relateAlong) dX12_relateAlong_93 ?_
    refine z_zconst (M := M_X12_relateAlong) (b := false) dX12_relateAlong_94 rfl ?_
    obtain ⟨⟨x_39, σ_38⟩, hc_37, H⟩ := bd_e H
    refine z_callV (M := M_X12_relateAlong) (M' := M_X12_where) (as := [vi 0, zv false]) (rest := [vr 277]) rfl rfl dX12_relateAlong_95 m_X12_where t_3540 t_3542 s_291 (c_X12_where hl  hc_37) rfl rfl ly_277 rfl (Nat.le_of_ble_eq_true rfl) (Nat.le_of_ble_eq_true rfl) (Nat.le_of_ble_eq_true rfl) (Nat.le_of_ble_eq_true rfl) ?_
    refine z_st (st' := [vi x_39, vr 277]) rfl ?_
    refine z_aload_n (M := M_X12_relateAlong) dX12_relateAlong_98 rfl ?_
    refine z_iconst (M := M_X12_relateAlong) dX12_relateAlong_99 ?_
    refine z_zconst (M := M_X12_relateAlong) (b := false) dX12_relateAlong_100 rfl ?_
    obtain ⟨⟨x_42, σ_41⟩, hc_40, H⟩ := bd_e H
    refine z_callV (M := M_X12_relateAlong) (M' := M_X12_where) (as := [vi 1, zv false]) (rest := [vi x_39, vr 277]) rfl rfl dX12_relateAlong_101 m_X12_where t_3540 t_3542 s_291 (c_X12_where hl  hc_40) rfl rfl ly_277 rfl (Nat.le_of_ble_eq_true rfl) (Nat.le_of_ble_eq_true rfl) (Nat.le_of_ble_eq_true rfl) (Nat.le_of_ble_eq_true rfl) ?_
    refine z_st (st' := [vi x_42, vi x_39, vr 277]) rfl ?_
    refine z_iconst (M := M_X12_relateAlong) dX12_relateAlong_104 ?_
    obtain ⟨σ_44, hc_43, H⟩ := bd_e H
    refine z_callV (M := M_X12_relateAlong) (M' := M_X12_mark) (as := [vi x_39, vi x_42, vi 0]) (rest := []) rfl rfl dX12_relateAlong_105 m_X12_mark t_3580 t_3582 s_301 (c_X12_mark hl  hc_43) rfl rfl ly_277 rfl (Nat.le_of_ble_eq_true rfl) (Nat.le_of_ble_eq_true rfl) (Nat.le_of_ble_eq_true rfl) (Nat.le_of_ble_eq_true rfl) ?_
    refine z_st (st' := []) rfl ?_
    refine z_iload_n (M := M_X12_relateAlong) dX12_relateAlong_108 rfl ?_
    refine z_iconst (M := M_X12_relateAlong) dX12_relateAlong_109 ?_
    refine z_iadd (M := M_X12_relateAlong) dX12_relateAlong_110 ?_
    refine z_aload_n (M := M_X12_relateAlong) dX12_relateAlong_111 rfl ?_
    refine z_getI (M := M_X12_relateAlong) (ci := 15) (C := RX12) (T := TX12) (Nf := 135) (ty := tyX12) cl15 dX12_relateAlong_112 ly_277 116 (by decide) t_2507 rfl rfl ?_
    rcases if_e H with ⟨h_61, H⟩ | ⟨h_61, H⟩
    · refine z_icmp_eq_t (M := M_X12_relateAlong) (tgt := 253) dX12_relateAlong_115 (by decide) rfl rfl h_61 ?_
      refine z_iinc (M := M_X12_relateAlong) (lv' := [some (vr 277), some (vi i_0), some (vi (k_19 + 1)), none, none]) dX12_relateAlong_253 rfl (Nat.le_of_ble_eq_true rfl) rfl rfl ?_
      refine z_goto (M := M_X12_relateAlong) (tgt := 61) dX12_relateAlong_256 (by decide) ?_
      exact K_26 _ (Option.some.inj H).symm
    · refine z_icmp_eq_f (M := M_X12_relateAlong) (tgt := 253) dX12_relateAlong_115 (by decide) rfl rfl h_61 ?_
      refine z_aload_n (M := M_X12_relateAlong) dX12_relateAlong_118 rfl ?_
      refine z_getR (M := M_X12_relateAlong) (ci := 15) (C := RX12) (T := TX12) (Nf := 135) (ty := tyX12) cl15 dX12_relateAlong_119 ly_277 114 (by decide) t_2505 rfl ?_
      refine z_iload_n (M := M_X12_relateAlong) dX12_relateAlong_122 rfl ?_
      obtain ⟨x_63, x_63_e, hi_64, H⟩ := rd_e H
      refine z_lald (M := M_X12_relateAlong) dX12_relateAlong_123 ly_344 rfl rfl rfl hi_64 x_63_e ?_
      refine z_aload_n (M := M_X12_relateAlong) dX12_relateAlong_124 rfl ?_
      refine z_getR (M := M_X12_relateAlong) (ci := 15) (C := RX12) (T := TX12) (Nf := 135) (ty := tyX12) cl15 dX12_relateAlong_125 ly_277 115 (by decide) t_2506 rfl ?_
      refine z_iload_n (M := M_X12_relateAlong) dX12_relateAlong_128 rfl ?_
      obtain ⟨x_65, x_65_e, hi_66, H⟩ := rd_e H
      refine z_lald (M := M_X12_relateAlong) dX12_relateAlong_129 ly_345 rfl rfl rfl hi_66 x_65_e ?_
      refine z_aload_n (M := M_X12_relateAlong) dX12_relateAlong_130 rfl ?_
      refine z_getR (M := M_X12_relateAlong) (ci := 15) (C := RX12) (T := TX12) (Nf := 135) (ty := tyX12) cl15 dX12_relateAlong_131 ly_277 114 (by decide) t_2505 rfl ?_
      refine z_iload_n (M := M_X12_relateAlong) dX12_relateAlong_134 rfl ?_
      refine z_iconst (M := M_X12_relateAlong) dX12_relateAlong_135 ?_
      refine z_iadd (M := M_X12_relateAlong) dX12_relateAlong_136 ?_
      obtain ⟨x_67, x_67_e, hi_68, H⟩ := rd_e H
      refine z_lald (M := M_X12_relateAlong) dX12_relateAlong_137 ly_344 rfl rfl rfl hi_68 x_67_e ?_
      refine z_aload_n (M := M_X12_relateAlong) dX12_relateAlong_138 rfl ?_
      refine z_getR (M := M_X12_relateAlong) (ci := 15) (C := RX12) (T := TX12) (Nf := 135) (ty := tyX12) cl15 dX12_relateAlong_139 ly_277 115 (by decide) t_2506 rfl ?_
      refine z_iload_n (M := M_X12_relateAlong) dX12_relateAlong_142 rfl ?_
      refine z_iconst (M := M_X12_relateAlong) dX12_relateAlong_143 ?_
      refine z_iadd (M := M_X12_relateAlong) dX12_relateAlong_144 ?_
      obtain ⟨x_69, x_69_e, hi_70, H⟩ := rd_e H
      refine z_lald (M := M_X12_relateAlong) dX12_relateAlong_145 ly_345 rfl rfl rfl hi_70 x_69_e ?_
      obtain ⟨x_72, hc_71, H⟩ := bd_e H
      refine z_callS (M := M_X12_relateAlong) (M' := M_X12_order) (as := [vl x_63, vl x_65, vl x_67, vl x_69]) (rest := []) rfl rfl dX12_relateAlong_146 m_X12_order t_3529 t_3530 (c_X12_order hl  hc_71) rfl rfl (Nat.le_of_ble_eq_true rfl) (Nat.le_of_ble_eq_true rfl) (Nat.le_of_ble_eq_true rfl) (Nat.le_of_ble_eq_true rfl) ?_
      refine z_st (st' := [vi x_72]) rfl ?_
      rcases if_e H with ⟨h_73, H⟩ | ⟨h_73, H⟩
      · refine z_if_ne_f (M := M_X12_relateAlong) (tgt := 155) dX12_relateAlong_149 (by decide) rfl h_73 ?_
        refine z_goto (M := M_X12_relateAlong) (tgt := 253) dX12_relateAlong_152 (by decide) ?_
        refine z_iinc (M := M_X12_relateAlong) (lv' := [some (vr 277), some (vi i_0), some (vi (k_19 + 1)), none, none]) dX12_relateAlong_253 rfl (Nat.le_of_ble_eq_true rfl) rfl rfl ?_
        refine z_goto (M := M_X12_relateAlong) (tgt := 61) dX12_relateAlong_256 (by decide) ?_
        exact K_26 _ (Option.some.inj H).symm
      · refine z_if_ne_t (M := M_X12_relateAlong) (tgt := 155) dX12_relateAlong_149 (by decide) rfl h_73 ?_
        refine z_aload_n (M := M_X12_relateAlong) dX12_relateAlong_155 rfl ?_
        refine z_iload_n (M := M_X12_relateAlong) dX12_relateAlong_156 rfl ?_
        obtain ⟨σ_76, hc_75, H⟩ := bd_e H
        refine z_callV (M := M_X12_relateAlong) (M' := M_X12_middle) (as := [vi k_19]) (rest := []) rfl rfl dX12_relateAlong_157 m_X12_middle t_3584 t_3586 s_302 (c_X12_middle hl  hc_75) rfl rfl ly_277 rfl (Nat.le_of_ble_eq_true rfl) (Nat.le_of_ble_eq_true rfl) (Nat.le_of_ble_eq_true rfl) (Nat.le_of_ble_eq_true rfl) ?_
        refine z_st (st' := []) rfl ?_
        refine z_aload_n (M := M_X12_relateAlong) dX12_relateAlong_160 rfl ?_
        refine z_iconst (M := M_X12_relateAlong) dX12_relateAlong_161 ?_
        refine z_zconst (M := M_X12_relateAlong) (b := true) dX12_relateAlong_162 rfl ?_
        obtain ⟨⟨x_79, σ_78⟩, hc_77, H⟩ := bd_e H
        refine z_callV (M := M_X12_relateAlong) (M' := M_X12_where) (as := [vi 0, zv true]) (rest := []) rfl rfl dX12_relateAlong_163 m_X12_where t_3540 t_3542 s_291 (c_X12_where hl  hc_77) rfl rfl ly_277 rfl (Nat.le_of_ble_eq_true rfl) (Nat.le_of_ble_eq_true rfl) (Nat.le_of_ble_eq_true rfl) (Nat.le_of_ble_eq_true rfl) ?_
        refine z_st (st' := [vi x_79]) rfl ?_
        refine z_istore_n (M := M_X12_relateAlong) (lv' := [some (vr 277), some (vi i_0), some (vi k_19), some (vi x_79), none]) dX12_relateAlong_166 (Nat.le_of_ble_eq_true rfl) rfl rfl ?_
        refine z_aload_n (M := M_X12_relateAlong) dX12_relateAlong_167 rfl ?_
        refine z_iconst (M := M_X12_relateAlong) dX12_relateAlong_168 ?_
        refine z_zconst (M := M_X12_relateAlong) (b := true) dX12_relateAlong_169 rfl ?_
        obtain ⟨⟨x_82, σ_81⟩, hc_80, H⟩ := bd_e H
        refine z_callV (M := M_X12_relateAlong) (M' := M_X12_where) (as := [vi 1, zv true]) (rest := []) rfl rfl dX12_relateAlong_170 m_X12_where t_3540 t_3542 s_291 (c_X12_where hl  hc_80) rfl rfl ly_277 rfl (Nat.le_of_ble_eq_true rfl) (Nat.le_of_ble_eq_true rfl) (Nat.le_of_ble_eq_true rfl) (Nat.le_of_ble_eq_true rfl) ?_
        refine z_st (st' := [vi x_82]) rfl ?_
        refine z_istore (M := M_X12_relateAlong) (lv' := [some (vr 277), some (vi i_0), some (vi k_19), some (vi x_79), some (vi x_82)]) dX12_relateAlong_173 (Nat.le_of_ble_eq_true rfl) rfl rfl ?_
        refine z_aload_n (M := M_X12_relateAlong) dX12_relateAlong_175 rfl ?_
        refine z_iload_n (M := M_X12_relateAlong) dX12_relateAlong_176 rfl ?_
        refine z_iload (M := M_X12_relateAlong) dX12_relateAlong_177 rfl ?_
        refine z_iconst (M := M_X12_relateAlong) dX12_relateAlong_179 ?_
        obtain ⟨σ_84, hc_83, H⟩ := bd_e H
        refine z_callV (M := M_X12_relateAlong) (M' := M_X12_mark) (as := [vi x_79, vi x_82, vi 1]) (rest := []) rfl rfl dX12_relateAlong_180 m_X12_mark t_3580 t_3582 s_301 (c_X12_mark hl  hc_83) rfl rfl ly_277 rfl (Nat.le_of_ble_eq_true rfl) (Nat.le_of_ble_eq_true rfl) (Nat.le_of_ble_eq_true rfl) (Nat.le_of_ble_eq_true rfl) ?_
        refine z_st (st' := []) rfl ?_
        refine z_aload_n (M := M_X12_relateAlong) dX12_relateAlong_183 rfl ?_
        refine z_aload_n (M := M_X12_relateAlong) dX12_relateAlong_184 rfl ?_
        refine z_getL (M := M_X12_relateAlong) (ci := 15) (C := RX12) (T := TX12) (Nf := 135) (ty := tyX12) cl15 dX12_relateAlong_185 ly_277 111 (by decide) t_2502 rfl rfl ?_
        refine z_lneg (M := M_X12_relateAlong) dX12_relateAlong_188 ?_
        obtain ⟨σ_85, σ_85_e, H⟩ := wf_e H
        refine z_putL (M := M_X12_relateAlong) (ci := 15) (C := RX12) (T := TX12) (Nf := 135) (ty := tyX12) cl15 dX12_relateAlong_189 ly_277 112 (by decide) t_2503 rfl rfl rfl rfl σ_85_e ?_
        refine z_aload_n (M := M_X12_relateAlong) dX12_relateAlong_192 rfl ?_
        refine z_aload_n (M := M_X12_relateAlong) dX12_relateAlong_193 rfl ?_
        refine z_getL (M := M_X12_relateAlong) (ci := 15) (C := RX12) (T := TX12) (Nf := 135) (ty := tyX12) cl15 dX12_relateAlong_194 ly_277 110 (by decide) t_2501 rfl rfl ?_
        obtain ⟨σ_86, σ_86_e, H⟩ := wf_e H
        refine z_putL (M := M_X12_relateAlong) (ci := 15) (C := RX12) (T := TX12) (Nf := 135) (ty := tyX12) cl15 dX12_relateAlong_197 ly_277 113 (by decide) t_2504 rfl rfl rfl rfl σ_86_e ?_
        refine z_aload_n (M := M_X12_relateAlong) dX12_relateAlong_200 rfl ?_
        refine z_aload_n (M := M_X12_relateAlong) dX12_relateAlong_201 rfl ?_
        refine z_iconst (M := M_X12_relateAlong) dX12_relateAlong_202 ?_
        refine z_iload_n (M := M_X12_relateAlong) dX12_relateAlong_203 rfl ?_
        obtain ⟨⟨x_89, σ_88⟩, hc_87, H⟩ := bd_e H
        refine z_callV (M := M_X12_relateAlong) (M' := M_X12_beside) (as := [vi 0, vi x_79]) (rest := [vr 277]) rfl rfl dX12_relateAlong_204 m_X12_beside t_3588 t_3590 s_303 (c_X12_beside hl  hc_87) rfl rfl ly_277 rfl (Nat.le_of_ble_eq_true rfl) (Nat.le_of_ble_eq_true rfl) (Nat.le_of_ble_eq_true rfl) (Nat.le_of_ble_eq_true rfl) ?_
        refine z_st (st' := [vi x_89, vr 277]) rfl ?_
        refine z_aload_n (M := M_X12_relateAlong) dX12_relateAlong_207 rfl ?_
        refine z_iconst (M := M_X12_relateAlong) dX12_relateAlong_208 ?_
        refine z_iload (M := M_X12_relateAlong) dX12_relateAlong_209 rfl ?_
        obtain ⟨⟨x_92, σ_91⟩, hc_90, H⟩ := bd_e H
        refine z_callV (M := M_X12_relateAlong) (M' := M_X12_beside) (as := [vi 1, vi x_82]) (rest := [vi x_89, vr 277]) rfl rfl dX12_relateAlong_211 m_X12_beside t_3588 t_3590 s_303 (c_X12_beside hl  hc_90) rfl rfl ly_277 rfl (Nat.le_of_ble_eq_true rfl) (Nat.le_of_ble_eq_true rfl) (Nat.le_of_ble_eq_true rfl) (Nat.le_of_ble_eq_true rfl) ?_
        refine z_st (st' := [vi x_92, vi x_89, vr 277]) rfl ?_
        refine z_iconst (M := M_X12_relateAlong) dX12_relateAlong_214 ?_
        obtain ⟨σ_94, hc_93, H⟩ := bd_e H
        refine z_callV (M := M_X12_relateAlong) (M' := M_X12_mark) (as := [vi x_89, vi x_92, vi 2]) (rest := []) rfl rfl dX12_relateAlong_215 m_X12_mark t_3580 t_3582 s_301 (c_X12_mark hl  hc_93) rfl rfl ly_277 rfl (Nat.le_of_ble_eq_true rfl) (Nat.le_of_ble_eq_true rfl) (Nat.le_of_ble_eq_true rfl) (Nat.le_of_ble_eq_true rfl) ?_
        refine z_st (st' := []) rfl ?_
        refine z_aload_n (M := M_X12_relateAlong) dX12_relateAlong_218 rfl ?_
        refine z_aload_n (M := M_X12_relateAlong) dX12_relateAlong_219 rfl ?_
        refine z_getL (M := M_X12_relateAlong) (ci := 15) (C := RX12) (T := TX12) (Nf := 135) (ty := tyX12) cl15 dX12_relateAlong_220 ly_277 111 (by decide) t_2502 rfl rfl ?_
        obtain ⟨σ_95, σ_95_e, H⟩ := wf_e H
        refine z_putL (M := M_X12_relateAlong) (ci := 15) (C := RX12) (T := TX12) (Nf := 135) (ty := tyX12) cl15 dX12_relateAlong_223 ly_277 112 (by decide) t_2503 rfl rfl rfl rfl σ_95_e ?_
        refine z_aload_n (M := M_X12_relateAlong) dX12_relateAlong_226 rfl ?_
        refine z_aload_n (M := M_X12_relateAlong) dX12_relateAlong_227 rfl ?_
        refine z_getL (M := M_X12_relateAlong) (ci := 15) (C := RX12) (T := TX12) (Nf := 135) (ty := tyX12) cl15 dX12_relateAlong_228 ly_277 110 (by decide) t_2501 rfl rfl ?_
        refine z_lneg (M := M_X12_relateAlong) dX12_relateAlong_231 ?_
        obtain ⟨σ_96, σ_96_e, H⟩ := wf_e H
        refine z_putL (M := M_X12_relateAlong) (ci := 15) (C := RX12) (T := TX12) (Nf := 135) (ty := tyX12) cl15 dX12_relateAlong_232 ly_277 113 (by decide) t_2504 rfl rfl rfl rfl σ_96_e ?_
        refine z_aload_n (M := M_X12_relateAlong) dX12_relateAlong_235 rfl ?_
        refine z_aload_n (M := M_X12_relateAlong) dX12_relateAlong_236 rfl ?_
        refine z_iconst (M := M_X12_relateAlong) dX12_relateAlong_237 ?_
        refine z_iload_n (M := M_X12_relateAlong) dX12_relateAlong_238 rfl ?_
        obtain ⟨⟨x_99, σ_98⟩, hc_97, H⟩ := bd_e H
        refine z_callV (M := M_X12_relateAlong) (M' := M_X12_beside) (as := [vi 0, vi x_79]) (rest := [vr 277]) rfl rfl dX12_relateAlong_239 m_X12_beside t_3588 t_3590 s_303 (c_X12_beside hl  hc_97) rfl rfl ly_277 rfl (Nat.le_of_ble_eq_true rfl) (Nat.le_of_ble_eq_true rfl) (Nat.le_of_ble_eq_true rfl) (Nat.le_of_ble_eq_true rfl) ?_
        refine z_st (st' := [vi x_99, vr 277]) rfl ?_
        refine z_aload_n (M := M_X12_relateAlong) dX12_relateAlong_242 rfl ?_
        refine z_iconst (M := M_X12_relateAlong) dX12_relateAlong_243 ?_
        refine z_iload (M := M_X12_relateAlong) dX12_relateAlong_244 rfl ?_
        obtain ⟨⟨x_102, σ_101⟩, hc_100, H⟩ := bd_e H
        refine z_callV (M := M_X12_relateAlong) (M' := M_X12_beside) (as := [vi 1, vi x_82]) (rest := [vi x_99, vr 277]) rfl rfl dX12_relateAlong_246 m_X12_beside t_3588 t_3590 s_303 (c_X12_beside hl  hc_100) rfl rfl ly_277 rfl (Nat.le_of_ble_eq_true rfl) (Nat.le_of_ble_eq_true rfl) (Nat.le_of_ble_eq_true rfl) (Nat.le_of_ble_eq_true rfl) ?_
        refine z_st (st' := [vi x_102, vi x_99, vr 277]) rfl ?_
        refine z_iconst (M := M_X12_relateAlong) dX12_relateAlong_249 ?_
        obtain ⟨σ_104, hc_103, H⟩ := bd_e H
        refine z_callV (M := M_X12_relateAlong) (M' := M_X12_mark) (as := [vi x_99, vi x_102, vi 2]) (rest := []) rfl rfl dX12_relateAlong_250 m_X12_mark t_3580 t_3582 s_301 (c_X12_mark hl  hc_103) rfl rfl ly_277 rfl (Nat.le_of_ble_eq_true rfl) (Nat.le_of_ble_eq_true rfl) (Nat.le_of_ble_eq_true rfl) (Nat.le_of_ble_eq_true rfl) ?_
        refine z_st (st' := []) rfl ?_
        refine z_iinc (M := M_X12_relateAlong) (lv' := [some (vr 277), some (vi i_0), some (vi (k_19 + 1)), some (vi x_79), some (vi x_82)]) dX12_relateAlong_253 rfl (Nat.le_of_ble_eq_true rfl) rfl rfl ?_
        refine z_goto (M := M_X12_relateAlong) (tgt := 61) dX12_relateAlong_256 (by decide) ?_
        refine z_le (lv' := [some (vr 277), some (vi i_0), some (vi (k_19 + 1)), none, none]) ⟨Or.inr rfl, Or.inr rfl, Or.inr rfl, Or.inl rfl, Or.inl rfl, trivial⟩ ?_
        exact K_26 _ (Option.some.inj H).symm
  · refine z_icmp_ge_t (M := M_X12_relateAlong) (tgt := 259) dX12_relateAlong_66 (by decide) rfl rfl (Int.not_lt.mp h_28) ?_
    exact J_109 _ _ (K_27 _ (Option.some.inj H).symm).symm
theorem c_X12_isTooMuch (hl : l.stackTraces = false) {σ : SG} {r : Bool} {σ' : SG}  (H : fR_isTooMuch σ = some (r, σ')) : en_S l E M_X12_isTooMuch 4 0 0 [vr 277] σ (pS (some (zv r)) σ') := by
  unfold fR_isTooMuch at H
  refine z_mk (lv := [some (vr 277), none, none, none]) m_X12_isTooMuch rfl hl (Nat.le_of_ble_eq_true rfl) rfl ?_
  refine z_iconst (M := M_X12_isTooMuch) dX12_isTooMuch_0 ?_
  refine z_istore_n (M := M_X12_isTooMuch) (lv' := [some (vr 277), some (vi 0), none, none]) dX12_isTooMuch_1 (Nat.le_of_ble_eq_true rfl) rfl rfl ?_
  obtain ⟨rl_5, hw_2, hk_3, hk_4⟩ := bx_e H
  have J_79 : ∀ s_29, rl_5 = (.inl s_29) → YY l E M_X12_isTooMuch 4 0 0 (pS (some (zv r)) σ') 36 [some (vr 277), some (vi s_29), none, none] [] σ 0 0 := by
    intro s_29 e
    have H := hk_3 _ e
    refine z_aload_n (M := M_X12_isTooMuch) dX12_isTooMuch_36 rfl ?_
    refine z_getI (M := M_X12_isTooMuch) (ci := 15) (C := RX12) (T := TX12) (Nf := 135) (ty := tyX12) cl15 dX12_isTooMuch_37 ly_277 48 (by decide) t_2439 rfl rfl ?_
    refine z_sipush (M := M_X12_isTooMuch) dX12_isTooMuch_40 (by decide +kernel) ?_
    rcases if_e H with ⟨h_30, H⟩ | ⟨h_30, H⟩
    · refine z_icmp_le_f (M := M_X12_isTooMuch) (tgt := 48) dX12_isTooMuch_43 (by decide) rfl (by decide +kernel) h_30 ?_
      refine z_zconst (M := M_X12_isTooMuch) (b := true) dX12_isTooMuch_46 rfl ?_
      cases H
      exact z_zret (M := M_X12_isTooMuch) dX12_isTooMuch_47 rfl (Nat.le_of_ble_eq_true rfl) (Nat.le_of_ble_eq_true rfl) ⟨rfl, rfl⟩
    · refine z_icmp_le_t (M := M_X12_isTooMuch) (tgt := 48) dX12_isTooMuch_43 (by decide) rfl (by decide +kernel) (Int.not_lt.mp h_30) ?_
      refine z_iconst (M := M_X12_isTooMuch) dX12_isTooMuch_48 ?_
      refine z_istore_n (M := M_X12_isTooMuch) (lv' := [some (vr 277), some (vi 0), none, none]) dX12_isTooMuch_49 (Nat.le_of_ble_eq_true rfl) rfl rfl ?_
      refine z_iconst (M := M_X12_isTooMuch) dX12_isTooMuch_50 ?_
      refine z_istore_n (M := M_X12_isTooMuch) (lv' := [some (vr 277), some (vi 0), some (vi 0), none]) dX12_isTooMuch_51 (Nat.le_of_ble_eq_true rfl) rfl rfl ?_
      obtain ⟨rl_37, hw_34, hk_35⟩ := bd_e H
      have J_78 : ∀ n_73 i_74 σ_75, rl_37 = (n_73, i_74, σ_75) → YY l E M_X12_isTooMuch 4 0 0 (pS (some (zv r)) σ') 101 [some (vr 277), some (vi n_73), some (vi i_74), none] [] σ_75 0 0 := by
        intro n_73 i_74 σ_75 e
        have H := hk_35
        rw [e] at H
        have J_76 : YY l E M_X12_isTooMuch 4 0 0 (pS (some (zv r)) σ') 113 [some (vr 277), some (vi n_73), some (vi i_74), none] [zv (decide (1024 < (w32 n_73)))] σ_75 0 0 := by
          cases H
          exact z_zret (M := M_X12_isTooMuch) dX12_isTooMuch_113 rfl (Nat.le_of_ble_eq_true rfl) (Nat.le_of_ble_eq_true rfl) ⟨rfl, rfl⟩
        refine z_iload_n (M := M_X12_isTooMuch) dX12_isTooMuch_101 rfl ?_
        refine z_sipush (M := M_X12_isTooMuch) dX12_isTooMuch_102 (by decide +kernel) ?_
        by_cases h_77 : 1024 < (w32 n_73)
        · refine z_icmp_le_f (M := M_X12_isTooMuch) (tgt := 112) dX12_isTooMuch_105 (by decide) rfl (by decide +kernel) h_77 ?_
          refine z_iconst (M := M_X12_isTooMuch) dX12_isTooMuch_108 ?_
          refine z_goto (M := M_X12_isTooMuch) (tgt := 113) dX12_isTooMuch_109 (by decide) ?_
          exact z_st (by rw [zv_t (p := 1024 < (w32 n_73)) h_77]) J_76
        · refine z_icmp_le_t (M := M_X12_isTooMuch) (tgt := 112) dX12_isTooMuch_105 (by decide) rfl (by decide +kernel) (Int.not_lt.mp h_77) ?_
          refine z_iconst (M := M_X12_isTooMuch) dX12_isTooMuch_112 ?_
          exact z_st (by rw [zv_f (p := 1024 < (w32 n_73)) h_77]) J_76
      refine whl_go hw_34 (fun (n_31, i_32, σ_33) => YY l E M_X12_isTooMuch 4 0 0 (pS (some (zv r)) σ') 52 [some (vr 277), some (vi n_31), some (vi i_32), none] [] σ_33 0 0) ?_
      rintro ⟨n_31, i_32, σ_33⟩ o_38 H K_39 K_40
      refine z_iload_n (M := M_X12_isTooMuch) dX12_isTooMuch_52 rfl ?_
      refine z_aload_n (M := M_X12_isTooMuch) dX12_isTooMuch_53 rfl ?_
      refine z_getI (M := M_X12_isTooMuch) (ci := 15) (C := RX12) (T := TX12) (Nf := 135) (ty := tyX12) cl15 dX12_isTooMuch_54 ly_277 48 (by decide) t_2439 rfl rfl ?_
      rcases if_e H with ⟨h_41, H⟩ | ⟨h_41, H⟩
      · refine z_icmp_ge_f (M := M_X12_isTooMuch) (tgt := 101) dX12_isTooMuch_57 (by decide) rfl rfl h_41 ?_
        refine z_iload_n (M := M_X12_isTooMuch) dX12_isTooMuch_60 rfl ?_
        refine z_iconst (M := M_X12_isTooMuch) dX12_isTooMuch_61 ?_
        refine z_iadd (M := M_X12_isTooMuch) dX12_isTooMuch_62 ?_
        refine z_istore_n (M := M_X12_isTooMuch) (lv' := [some (vr 277), some (vi n_31), some (vi i_32), some (vi (i_32 + 1))]) dX12_isTooMuch_63 (Nat.le_of_ble_eq_true rfl) rfl rfl ?_
        obtain ⟨rl_48, hw_45, hk_46⟩ := bd_e H
        have J_71 : ∀ n_67 j_68 σ_69, rl_48 = (n_67, j_68, σ_69) → YY l E M_X12_isTooMuch 4 0 0 (pS (some (zv r)) σ') 95 [some (vr 277), some (vi n_67), some (vi i_32), some (vi j_68)] [] σ_69 0 0 := by
          intro n_67 j_68 σ_69 e
          have H := hk_46
          rw [e] at H
          refine z_iinc (M := M_X12_isTooMuch) (lv' := [some (vr 277), some (vi n_67), some (vi (i_32 + 1)), some (vi j_68)]) dX12_isTooMuch_95 rfl (Nat.le_of_ble_eq_true rfl) rfl rfl ?_
          refine z_goto (M := M_X12_isTooMuch) (tgt := 52) dX12_isTooMuch_98 (by decide) ?_
          refine z_le (lv' := [some (vr 277), some (vi n_67), some (vi (i_32 + 1)), none]) ⟨Or.inr rfl, Or.inr rfl, Or.inr rfl, Or.inl rfl, trivial⟩ ?_
          exact K_39 _ (Option.some.inj H).symm
        refine whl_go hw_45 (fun (n_42, j_43, σ_44) => YY l E M_X12_isTooMuch 4 0 0 (pS (some (zv r)) σ') 64 [some (vr 277), some (vi n_42), some (vi i_32), some (vi j_43)] [] σ_44 0 0) ?_
        rintro ⟨n_42, j_43, σ_44⟩ o_49 H K_50 K_51
        refine z_iload_n (M := M_X12_isTooMuch) dX12_isTooMuch_64 rfl ?_
        refine z_aload_n (M := M_X12_isTooMuch) dX12_isTooMuch_65 rfl ?_
        refine z_getI (M := M_X12_isTooMuch) (ci := 15) (C := RX12) (T := TX12) (Nf := 135) (ty := tyX12) cl15 dX12_isTooMuch_66 ly_277 48 (by decide) t_2439 rfl rfl ?_
        rcases if_e H with ⟨h_52, H⟩ | ⟨h_52, H⟩
        · refine z_icmp_ge_f (M := M_X12_isTooMuch) (tgt := 95) dX12_isTooMuch_69 (by decide) rfl rfl h_52 ?_
          obtain ⟨v_62, he_63, hk_64⟩ := bd_e H
          have J_65 : ∀ x_59 σ_60, v_62 = (x_59, σ_60) → YY l E M_X12_isTooMuch 4 0 0 (pS (some (zv r)) σ') 88 [some (vr 277), some (vi n_42), some (vi i_32), some (vi j_43)] [vi x_59] σ_60 0 0 := by
            intro x_59 σ_60 e
            have H := hk_64
            rw [e] at H
            refine z_istore_n (M := M_X12_isTooMuch) (lv' := [some (vr 277), some (vi x_59), some (vi i_32), some (vi j_43)]) dX12_isTooMuch_88 (Nat.le_of_ble_eq_true rfl) rfl rfl ?_
            refine z_iinc (M := M_X12_isTooMuch) (lv' := [some (vr 277), some (vi x_59), some (vi i_32), some (vi (j_43 + 1))]) dX12_isTooMuch_89 rfl (Nat.le_of_ble_eq_true rfl) rfl rfl ?_
            refine z_goto (M := M_X12_isTooMuch) (tgt := 64) dX12_isTooMuch_92 (by decide) ?_
            exact K_50 _ (Option.some.inj H).symm
          have H := he_63
          refine z_aload_n (M := M_X12_isTooMuch) dX12_isTooMuch_72 rfl ?_
          refine z_iload_n (M := M_X12_isTooMuch) dX12_isTooMuch_73 rfl ?_
          refine z_iload_n (M := M_X12_isTooMuch) dX12_isTooMuch_74 rfl ?_
          obtain ⟨⟨x_55, σ_54⟩, hc_53, H⟩ := bd_e H
          refine z_callV (M := M_X12_isTooMuch) (M' := M_X12_meet) (as := [vi i_32, vi j_43]) (rest := []) rfl rfl dX12_isTooMuch_75 m_X12_meet t_3258 t_3260 s_233 (c_X12_meet hl  hc_53) rfl rfl ly_277 rfl (Nat.le_of_ble_eq_true rfl) (Nat.le_of_ble_eq_true rfl) (Nat.le_of_ble_eq_true rfl) (Nat.le_of_ble_eq_true rfl) ?_
          refine z_st (st' := [vi x_55]) rfl ?_
          rcases if_e H with ⟨h_56, H⟩ | ⟨h_56, H⟩
          · refine z_if_le_f (M := M_X12_isTooMuch) (tgt := 87) dX12_isTooMuch_78 (by decide) rfl h_56 ?_
            refine z_iload_n (M := M_X12_isTooMuch) dX12_isTooMuch_81 rfl ?_
            refine z_iconst (M := M_X12_isTooMuch) dX12_isTooMuch_82 ?_
            refine z_iadd (M := M_X12_isTooMuch) dX12_isTooMuch_83 ?_
            refine z_goto (M := M_X12_isTooMuch) (tgt := 88) dX12_isTooMuch_84 (by decide) ?_
            exact J_65 _ _ (Option.some.inj H).symm
          · refine z_if_le_t (M := M_X12_isTooMuch) (tgt := 87) dX12_isTooMuch_78 (by decide) rfl (Int.not_lt.mp h_56) ?_
            refine z_iload_n (M := M_X12_isTooMuch) dX12_isTooMuch_87 rfl ?_
            exact J_65 _ _ (Option.some.inj H).symm
        · refine z_icmp_ge_t (M := M_X12_isTooMuch) (tgt := 95) dX12_isTooMuch_69 (by decide) rfl rfl (Int.not_lt.mp h_52) ?_
          exact J_71 _ _ _ (K_51 _ (Option.some.inj H).symm).symm
      · refine z_icmp_ge_t (M := M_X12_isTooMuch) (tgt := 101) dX12_isTooMuch_57 (by decide) rfl rfl (Int.not_lt.mp h_41) ?_
        exact J_78 _ _ _ (K_40 _ (Option.some.inj H).symm).symm
  refine whl_go hw_2 (fun s_1 => YY l E M_X12_isTooMuch 4 0 0 (pS (some (zv r)) σ') 2 [some (vr 277), some (vi s_1), none, none] [] σ 0 0) ?_
  rintro s_1 o_6 H K_7 K_8
  refine z_iload_n (M := M_X12_isTooMuch) dX12_isTooMuch_2 rfl ?_
  refine z_iconst (M := M_X12_isTooMuch) dX12_isTooMuch_3 ?_
  rcases if_e H with ⟨h_9, H⟩ | ⟨h_9, H⟩
  · refine z_icmp_ge_f (M := M_X12_isTooMuch) (tgt := 36) dX12_isTooMuch_4 (by decide) rfl (by decide +kernel) h_9 ?_
    refine z_aload_n (M := M_X12_isTooMuch) dX12_isTooMuch_7 rfl ?_
    refine z_getR (M := M_X12_isTooMuch) (ci := 15) (C := RX12) (T := TX12) (Nf := 135) (ty := tyX12) cl15 dX12_isTooMuch_8 ly_277 101 (by decide) t_2492 rfl ?_
    refine z_iload_n (M := M_X12_isTooMuch) dX12_isTooMuch_11 rfl ?_
    obtain ⟨x_20, x_20_e, hi_21, H⟩ := rd_e H
    refine z_iald (M := M_X12_isTooMuch) dX12_isTooMuch_12 ly_337 rfl rfl rfl hi_21 x_20_e ?_
    rcases if_e H with ⟨h_22, H⟩ | ⟨h_22, H⟩
    · refine z_if_le_f (M := M_X12_isTooMuch) (tgt := 30) dX12_isTooMuch_13 (by decide) rfl h_22 ?_
      refine z_aload_n (M := M_X12_isTooMuch) dX12_isTooMuch_16 rfl ?_
      refine z_getR (M := M_X12_isTooMuch) (ci := 15) (C := RX12) (T := TX12) (Nf := 135) (ty := tyX12) cl15 dX12_isTooMuch_17 ly_277 102 (by decide) t_2493 rfl ?_
      refine z_iload_n (M := M_X12_isTooMuch) dX12_isTooMuch_20 rfl ?_
      obtain ⟨x_23, x_23_e, hi_24, H⟩ := rd_e H
      refine z_iald (M := M_X12_isTooMuch) dX12_isTooMuch_21 ly_338 rfl rfl rfl hi_24 x_23_e ?_
      refine z_sipush (M := M_X12_isTooMuch) dX12_isTooMuch_22 (by decide +kernel) ?_
      rcases if_e H with ⟨h_25, H⟩ | ⟨h_25, H⟩
      · refine z_icmp_le_f (M := M_X12_isTooMuch) (tgt := 30) dX12_isTooMuch_25 (by decide) rfl (by decide +kernel) h_25 ?_
        refine z_zconst (M := M_X12_isTooMuch) (b := true) dX12_isTooMuch_28 rfl ?_
        have H := congrArg some (hk_4 _ ((K_8 _ (Option.some.inj H).symm).symm))
        cases H
        exact z_zret (M := M_X12_isTooMuch) dX12_isTooMuch_29 rfl (Nat.le_of_ble_eq_true rfl) (Nat.le_of_ble_eq_true rfl) ⟨rfl, rfl⟩
      · refine z_icmp_le_t (M := M_X12_isTooMuch) (tgt := 30) dX12_isTooMuch_25 (by decide) rfl (by decide +kernel) (Int.not_lt.mp h_25) ?_
        refine z_iinc (M := M_X12_isTooMuch) (lv' := [some (vr 277), some (vi (s_1 + 1)), none, none]) dX12_isTooMuch_30 rfl (Nat.le_of_ble_eq_true rfl) rfl rfl ?_
        refine z_goto (M := M_X12_isTooMuch) (tgt := 2) dX12_isTooMuch_33 (by decide) ?_
        exact K_7 _ (Option.some.inj H).symm
    · refine z_if_le_t (M := M_X12_isTooMuch) (tgt := 30) dX12_isTooMuch_13 (by decide) rfl (Int.not_lt.mp h_22) ?_
      refine z_iinc (M := M_X12_isTooMuch) (lv' := [some (vr 277), some (vi (s_1 + 1)), none, none]) dX12_isTooMuch_30 rfl (Nat.le_of_ble_eq_true rfl) rfl rfl ?_
      refine z_goto (M := M_X12_isTooMuch) (tgt := 2) dX12_isTooMuch_33 (by decide) ?_
      exact K_7 _ (Option.some.inj H).symm
  · refine z_icmp_ge_t (M := M_X12_isTooMuch) (tgt := 36) dX12_isTooMuch_4 (by decide) rfl (by decide +kernel) (Int.not_lt.mp h_9) ?_
    exact J_79 _ (K_8 _ (Option.some.inj H).symm).symm
theorem c_X12_relates (hl : l.stackTraces = false) {σ : SG} {slot_0 : Int} {other_0 : Int} {r : Bool} {σ' : SG}  (H : fR_relates σ slot_0 other_0 = some (r, σ')) : en_S l E M_X12_relates 10 0 0 [vr 277, vi slot_0, vi other_0] σ (pS (some (zv r)) σ') := by
  unfold fR_relates at H
  refine z_mk (lv := [some (vr 277), some (vi slot_0), some (vi other_0), none, none, none]) m_X12_relates rfl hl (Nat.le_of_ble_eq_true rfl) rfl ?_
  refine z_aload_n (M := M_X12_relates) dX12_relates_0 rfl ?_
  refine z_iconst (M := M_X12_relates) dX12_relates_1 ?_
  obtain ⟨σ_1, σ_1_e, H⟩ := wf_e H
  refine z_putI (M := M_X12_relates) (ci := 15) (C := RX12) (T := TX12) (Nf := 135) (ty := tyX12) cl15 dX12_relates_2 ly_277 48 (by decide) t_2439 rfl rfl rfl rfl σ_1_e ?_
  refine z_aload_n (M := M_X12_relates) dX12_relates_5 rfl ?_
  refine z_iload_n (M := M_X12_relates) dX12_relates_6 rfl ?_
  refine z_iconst (M := M_X12_relates) dX12_relates_7 ?_
  obtain ⟨σ_3, hc_2, H⟩ := bd_e H
  refine z_callV (M := M_X12_relates) (M' := M_X12_gatherShape) (as := [vi slot_0, vi 0]) (rest := []) rfl rfl dX12_relates_8 m_X12_gatherShape t_3498 t_3500 s_282 (c_X12_gatherShape hl  hc_2) rfl rfl ly_277 rfl (Nat.le_of_ble_eq_true rfl) (Nat.le_of_ble_eq_true rfl) (Nat.le_of_ble_eq_true rfl) (Nat.le_of_ble_eq_true rfl) ?_
  refine z_st (st' := []) rfl ?_
  refine z_aload_n (M := M_X12_relates) dX12_relates_11 rfl ?_
  refine z_iload_n (M := M_X12_relates) dX12_relates_12 rfl ?_
  refine z_iconst (M := M_X12_relates) dX12_relates_13 ?_
  obtain ⟨σ_5, hc_4, H⟩ := bd_e H
  refine z_callV (M := M_X12_relates) (M' := M_X12_gatherShape) (as := [vi other_0, vi 1]) (rest := []) rfl rfl dX12_relates_14 m_X12_gatherShape t_3498 t_3500 s_282 (c_X12_gatherShape hl  hc_4) rfl rfl ly_277 rfl (Nat.le_of_ble_eq_true rfl) (Nat.le_of_ble_eq_true rfl) (Nat.le_of_ble_eq_true rfl) (Nat.le_of_ble_eq_true rfl) ?_
  refine z_st (st' := []) rfl ?_
  refine z_aload_n (M := M_X12_relates) dX12_relates_17 rfl ?_
  obtain ⟨⟨x_8, σ_7⟩, hc_6, H⟩ := bd_e H
  refine z_callV (M := M_X12_relates) (M' := M_X12_isTooMuch) (as := []) (rest := []) rfl rfl dX12_relates_18 m_X12_isTooMuch t_3513 t_3515 s_285 (c_X12_isTooMuch hl  hc_6) rfl rfl ly_277 rfl (Nat.le_of_ble_eq_true rfl) (Nat.le_of_ble_eq_true rfl) (Nat.le_of_ble_eq_true rfl) (Nat.le_of_ble_eq_true rfl) ?_
  refine z_st (st' := [zv x_8]) rfl ?_
  rcases if_e H with ⟨h_9, H⟩ | ⟨h_9, H⟩
  · refine z_zeq_f (M := M_X12_relates) (tgt := 26) dX12_relates_21 (by decide) h_9 ?_
    refine z_zconst (M := M_X12_relates) (b := false) dX12_relates_24 rfl ?_
    cases H
    exact z_zret (M := M_X12_relates) dX12_relates_25 rfl (Nat.le_of_ble_eq_true rfl) (Nat.le_of_ble_eq_true rfl) ⟨rfl, rfl⟩
  · refine z_zeq_t (M := M_X12_relates) (tgt := 26) dX12_relates_21 (by decide) h_9 ?_
    refine z_iconst (M := M_X12_relates) dX12_relates_26 ?_
    refine z_istore_n (M := M_X12_relates) (lv' := [some (vr 277), some (vi slot_0), some (vi other_0), some (vi 0), none, none]) dX12_relates_27 (Nat.le_of_ble_eq_true rfl) rfl rfl ?_
    obtain ⟨rl_15, hw_12, hk_13⟩ := bd_e H
    have J_111 : ∀ k_24 σ_25, rl_15 = (k_24, σ_25) → YY l E M_X12_relates 10 0 0 (pS (some (zv r)) σ') 47 [some (vr 277), some (vi slot_0), some (vi other_0), some (vi k_24), none, none] [] σ_25 0 0 := by
      intro k_24 σ_25 e
      have H := hk_13
      rw [e] at H
      refine z_aload_n (M := M_X12_relates) dX12_relates_47 rfl ?_
      refine z_getR (M := M_X12_relates) (ci := 15) (C := RX12) (T := TX12) (Nf := 135) (ty := tyX12) cl15 dX12_relates_48 ly_277 107 (by decide) t_2498 rfl ?_
      refine z_bipush (M := M_X12_relates) dX12_relates_51 (by decide +kernel) ?_
      refine z_iconst (M := M_X12_relates) dX12_relates_53 ?_
      obtain ⟨σ_26, σ_26_e, hi_27, H⟩ := wa_e H
      refine z_iast (M := M_X12_relates) dX12_relates_54 ly_343 rfl (by decide +kernel) rfl hi_27 σ_26_e ?_
      refine z_iconst (M := M_X12_relates) dX12_relates_55 ?_
      refine z_istore_n (M := M_X12_relates) (lv' := [some (vr 277), some (vi slot_0), some (vi other_0), some (vi 0), none, none]) dX12_relates_56 (Nat.le_of_ble_eq_true rfl) rfl rfl ?_
      obtain ⟨rl_33, hw_30, hk_31⟩ := bd_e H
      have J_110 : ∀ i_42 σ_43, rl_33 = (i_42, σ_43) → YY l E M_X12_relates 10 0 0 (pS (some (zv r)) σ') 76 [some (vr 277), some (vi slot_0), some (vi other_0), some (vi i_42), none, none] [] σ_43 0 0 := by
        intro i_42 σ_43 e
        have H := hk_31
        rw [e] at H
        refine z_iconst (M := M_X12_relates) dX12_relates_76 ?_
        refine z_istore_n (M := M_X12_relates) (lv' := [some (vr 277), some (vi slot_0), some (vi other_0), some (vi 0), none, none]) dX12_relates_77 (Nat.le_of_ble_eq_true rfl) rfl rfl ?_
        obtain ⟨rl_49, hw_46, hk_47⟩ := bd_e H
        have J_109 : ∀ s_107 σ_108, rl_49 = (s_107, σ_108) → YY l E M_X12_relates 10 0 0 (pS (some (zv r)) σ') 176 [some (vr 277), some (vi slot_0), some (vi other_0), some (vi s_107), none, none] [] σ_108 0 0 := by
          intro s_107 σ_108 e
          have H := hk_47
          rw [e] at H
          refine z_zconst (M := M_X12_relates) (b := true) dX12_relates_176 rfl ?_
          cases H
          exact z_zret (M := M_X12_relates) dX12_relates_177 rfl (Nat.le_of_ble_eq_true rfl) (Nat.le_of_ble_eq_true rfl) ⟨rfl, rfl⟩
        refine whl_go hw_46 (fun (s_44, σ_45) => YY l E M_X12_relates 10 0 0 (pS (some (zv r)) σ') 78 [some (vr 277), some (vi slot_0), some (vi other_0), some (vi s_44), none, none] [] σ_45 0 0) ?_
        rintro ⟨s_44, σ_45⟩ o_50 H K_51 K_52
        refine z_iload_n (M := M_X12_relates) dX12_relates_78 rfl ?_
        refine z_iconst (M := M_X12_relates) dX12_relates_79 ?_
        rcases if_e H with ⟨h_53, H⟩ | ⟨h_53, H⟩
        · refine z_icmp_ge_f (M := M_X12_relates) (tgt := 176) dX12_relates_80 (by decide) rfl (by decide +kernel) h_53 ?_
          refine z_sipush (M := M_X12_relates) dX12_relates_83 (by decide +kernel) ?_
          refine z_aload_n (M := M_X12_relates) dX12_relates_86 rfl ?_
          refine z_getR (M := M_X12_relates) (ci := 15) (C := RX12) (T := TX12) (Nf := 135) (ty := tyX12) cl15 dX12_relates_87 ly_277 100 (by decide) t_2491 rfl ?_
          refine z_iload_n (M := M_X12_relates) dX12_relates_90 rfl ?_
          obtain ⟨x_54, x_54_e, hi_55, H⟩ := rd_e H
          refine z_iald (M := M_X12_relates) dX12_relates_91 ly_336 rfl rfl rfl hi_55 x_54_e ?_
          refine z_imul (M := M_X12_relates) dX12_relates_92 ?_
          refine z_istore (M := M_X12_relates) (lv' := [some (vr 277), some (vi slot_0), some (vi other_0), some (vi s_44), some (vi (2048 * x_54)), none]) dX12_relates_93 (Nat.le_of_ble_eq_true rfl) rfl rfl ?_
          refine z_iload (M := M_X12_relates) dX12_relates_95 rfl ?_
          refine z_istore (M := M_X12_relates) (lv' := [some (vr 277), some (vi slot_0), some (vi other_0), some (vi s_44), some (vi (2048 * x_54)), some (vi (2048 * x_54))]) dX12_relates_97 (Nat.le_of_ble_eq_true rfl) rfl rfl ?_
          obtain ⟨rl_61, hw_58, hk_59⟩ := bd_e H
          have J_105 : ∀ k_102 σ_103, rl_61 = (k_102, σ_103) → YY l E M_X12_relates 10 0 0 (pS (some (zv r)) σ') 170 [some (vr 277), some (vi slot_0), some (vi other_0), some (vi s_44), some (vi (2048 * x_54)), some (vi k_102)] [] σ_103 0 0 := by
            intro k_102 σ_103 e
            have H := hk_59
            rw [e] at H
            refine z_iinc (M := M_X12_relates) (lv' := [some (vr 277), some (vi slot_0), some (vi other_0), some (vi (s_44 + 1)), some (vi (2048 * x_54)), some (vi k_102)]) dX12_relates_170 rfl (Nat.le_of_ble_eq_true rfl) rfl rfl ?_
            refine z_goto (M := M_X12_relates) (tgt := 78) dX12_relates_173 (by decide) ?_
            refine z_le (lv' := [some (vr 277), some (vi slot_0), some (vi other_0), some (vi (s_44 + 1)), none, none]) ⟨Or.inr rfl, Or.inr rfl, Or.inr rfl, Or.inr rfl, Or.inl rfl, Or.inl rfl, trivial⟩ ?_
            exact K_51 _ (Option.some.inj H).symm
          refine whl_go hw_58 (fun (k_56, σ_57) => YY l E M_X12_relates 10 0 0 (pS (some (zv r)) σ') 99 [some (vr 277), some (vi slot_0), some (vi other_0), some (vi s_44), some (vi (2048 * x_54)), some (vi k_56)] [] σ_57 0 0) ?_
          rintro ⟨k_56, σ_57⟩ o_62 H K_63 K_64
          refine z_aload_n (M := M_X12_relates) dX12_relates_99 rfl ?_
          refine z_getR (M := M_X12_relates) (ci := 15) (C := RX12) (T := TX12) (Nf := 135) (ty := tyX12) cl15 dX12_relates_100 ly_277 101 (by decide) t_2492 rfl ?_
          refine z_iload_n (M := M_X12_relates) dX12_relates_103 rfl ?_
          obtain ⟨x_77, x_77_e, hi_78, H⟩ := rd_e H
          refine z_iald (M := M_X12_relates) dX12_relates_104 ly_337 rfl rfl rfl hi_78 x_77_e ?_
          rcases if_e H with ⟨h_79, H⟩ | ⟨h_79, H⟩
          · refine z_if_ne_f (M := M_X12_relates) (tgt := 170) dX12_relates_105 (by decide) rfl h_79 ?_
            refine z_iload (M := M_X12_relates) dX12_relates_108 rfl ?_
            refine z_iload (M := M_X12_relates) dX12_relates_110 rfl ?_
            refine z_aload_n (M := M_X12_relates) dX12_relates_112 rfl ?_
            refine z_getR (M := M_X12_relates) (ci := 15) (C := RX12) (T := TX12) (Nf := 135) (ty := tyX12) cl15 dX12_relates_113 ly_277 11 (by decide) t_2402 rfl ?_
            refine z_aload_n (M := M_X12_relates) dX12_relates_116 rfl ?_
            refine z_getR (M := M_X12_relates) (ci := 15) (C := RX12) (T := TX12) (Nf := 135) (ty := tyX12) cl15 dX12_relates_117 ly_277 100 (by decide) t_2491 rfl ?_
            refine z_iload_n (M := M_X12_relates) dX12_relates_120 rfl ?_
            obtain ⟨x_80, x_80_e, hi_81, H⟩ := rd_e H
            refine z_iald (M := M_X12_relates) dX12_relates_121 ly_336 rfl rfl rfl hi_81 x_80_e ?_
            obtain ⟨x_82, x_82_e, hi_83, H⟩ := rd_e H
            refine z_iald (M := M_X12_relates) dX12_relates_122 ly_282 rfl rfl rfl hi_83 x_82_e ?_
            refine z_iadd (M := M_X12_relates) dX12_relates_123 ?_
            rcases if_e H with ⟨h_84, H⟩ | ⟨h_84, H⟩
            · refine z_icmp_ge_f (M := M_X12_relates) (tgt := 170) dX12_relates_124 (by decide) rfl rfl h_84 ?_
              refine z_aload_n (M := M_X12_relates) dX12_relates_127 rfl ?_
              refine z_aload_n (M := M_X12_relates) dX12_relates_128 rfl ?_
              refine z_getR (M := M_X12_relates) (ci := 15) (C := RX12) (T := TX12) (Nf := 135) (ty := tyX12) cl15 dX12_relates_129 ly_277 12 (by decide) t_2403 rfl ?_
              refine z_iload (M := M_X12_relates) dX12_relates_132 rfl ?_
              obtain ⟨x_85, x_85_e, hi_86, H⟩ := rd_e H
              refine z_iald (M := M_X12_relates) dX12_relates_134 ly_283 rfl rfl rfl hi_86 x_85_e ?_
              refine z_i2l (M := M_X12_relates) dX12_relates_135 ?_
              refine z_aload_n (M := M_X12_relates) dX12_relates_136 rfl ?_
              refine z_getR (M := M_X12_relates) (ci := 15) (C := RX12) (T := TX12) (Nf := 135) (ty := tyX12) cl15 dX12_relates_137 ly_277 13 (by decide) t_2404 rfl ?_
              refine z_iload (M := M_X12_relates) dX12_relates_140 rfl ?_
              obtain ⟨x_87, x_87_e, hi_88, H⟩ := rd_e H
              refine z_iald (M := M_X12_relates) dX12_relates_142 ly_284 rfl rfl rfl hi_88 x_87_e ?_
              refine z_i2l (M := M_X12_relates) dX12_relates_143 ?_
              obtain ⟨σ_90, hc_89, H⟩ := bd_e H
              refine z_callV (M := M_X12_relates) (M' := M_X12_wholePlace) (as := [vl (w32 x_85), vl (w32 x_87)]) (rest := []) rfl rfl dX12_relates_144 m_X12_wholePlace t_3592 t_3594 s_304 (c_X12_wholePlace hl  hc_89) rfl rfl ly_277 rfl (Nat.le_of_ble_eq_true rfl) (Nat.le_of_ble_eq_true rfl) (Nat.le_of_ble_eq_true rfl) (Nat.le_of_ble_eq_true rfl) ?_
              refine z_st (st' := []) rfl ?_
              refine z_aload_n (M := M_X12_relates) dX12_relates_147 rfl ?_
              refine z_aload_n (M := M_X12_relates) dX12_relates_148 rfl ?_
              refine z_iconst (M := M_X12_relates) dX12_relates_149 ?_
              refine z_zconst (M := M_X12_relates) (b := false) dX12_relates_150 rfl ?_
              obtain ⟨⟨x_93, σ_92⟩, hc_91, H⟩ := bd_e H
              refine z_callV (M := M_X12_relates) (M' := M_X12_where) (as := [vi 0, zv false]) (rest := [vr 277]) rfl rfl dX12_relates_151 m_X12_where t_3540 t_3542 s_291 (c_X12_where hl  hc_91) rfl rfl ly_277 rfl (Nat.le_of_ble_eq_true rfl) (Nat.le_of_ble_eq_true rfl) (Nat.le_of_ble_eq_true rfl) (Nat.le_of_ble_eq_true rfl) ?_
              refine z_st (st' := [vi x_93, vr 277]) rfl ?_
              refine z_aload_n (M := M_X12_relates) dX12_relates_154 rfl ?_
              refine z_iconst (M := M_X12_relates) dX12_relates_155 ?_
              refine z_zconst (M := M_X12_relates) (b := false) dX12_relates_156 rfl ?_
              obtain ⟨⟨x_96, σ_95⟩, hc_94, H⟩ := bd_e H
              refine z_callV (M := M_X12_relates) (M' := M_X12_where) (as := [vi 1, zv false]) (rest := [vi x_93, vr 277]) rfl rfl dX12_relates_157 m_X12_where t_3540 t_3542 s_291 (c_X12_where hl  hc_94) rfl rfl ly_277 rfl (Nat.le_of_ble_eq_true rfl) (Nat.le_of_ble_eq_true rfl) (Nat.le_of_ble_eq_true rfl) (Nat.le_of_ble_eq_true rfl) ?_
              refine z_st (st' := [vi x_96, vi x_93, vr 277]) rfl ?_
              refine z_iconst (M := M_X12_relates) dX12_relates_160 ?_
              obtain ⟨σ_98, hc_97, H⟩ := bd_e H
              refine z_callV (M := M_X12_relates) (M' := M_X12_mark) (as := [vi x_93, vi x_96, vi 0]) (rest := []) rfl rfl dX12_relates_161 m_X12_mark t_3580 t_3582 s_301 (c_X12_mark hl  hc_97) rfl rfl ly_277 rfl (Nat.le_of_ble_eq_true rfl) (Nat.le_of_ble_eq_true rfl) (Nat.le_of_ble_eq_true rfl) (Nat.le_of_ble_eq_true rfl) ?_
              refine z_st (st' := []) rfl ?_
              refine z_iinc (M := M_X12_relates) (lv' := [some (vr 277), some (vi slot_0), some (vi other_0), some (vi s_44), some (vi (2048 * x_54)), some (vi (k_56 + 1))]) dX12_relates_164 rfl (Nat.le_of_ble_eq_true rfl) rfl rfl ?_
              refine z_goto (M := M_X12_relates) (tgt := 99) dX12_relates_167 (by decide) ?_
              exact K_63 _ (Option.some.inj H).symm
            · refine z_icmp_ge_t (M := M_X12_relates) (tgt := 170) dX12_relates_124 (by decide) rfl rfl (Int.not_lt.mp h_84) ?_
              exact J_105 _ _ (K_64 _ (Option.some.inj H).symm).symm
          · refine z_if_ne_t (M := M_X12_relates) (tgt := 170) dX12_relates_105 (by decide) rfl h_79 ?_
            exact J_105 _ _ (K_64 _ (Option.some.inj H).symm).symm
        · refine z_icmp_ge_t (M := M_X12_relates) (tgt := 176) dX12_relates_80 (by decide) rfl (by decide +kernel) (Int.not_lt.mp h_53) ?_
          exact J_109 _ _ (K_52 _ (Option.some.inj H).symm).symm
      refine whl_go hw_30 (fun (i_28, σ_29) => YY l E M_X12_relates 10 0 0 (pS (some (zv r)) σ') 57 [some (vr 277), some (vi slot_0), some (vi other_0), some (vi i_28), none, none] [] σ_29 0 0) ?_
      rintro ⟨i_28, σ_29⟩ o_34 H K_35 K_36
      refine z_iload_n (M := M_X12_relates) dX12_relates_57 rfl ?_
      refine z_aload_n (M := M_X12_relates) dX12_relates_58 rfl ?_
      refine z_getI (M := M_X12_relates) (ci := 15) (C := RX12) (T := TX12) (Nf := 135) (ty := tyX12) cl15 dX12_relates_59 ly_277 48 (by decide) t_2439 rfl rfl ?_
      rcases if_e H with ⟨h_37, H⟩ | ⟨h_37, H⟩
      · refine z_icmp_ge_f (M := M_X12_relates) (tgt := 76) dX12_relates_62 (by decide) rfl rfl h_37 ?_
        refine z_aload_n (M := M_X12_relates) dX12_relates_65 rfl ?_
        refine z_iload_n (M := M_X12_relates) dX12_relates_66 rfl ?_
        obtain ⟨σ_39, hc_38, H⟩ := bd_e H
        refine z_callV (M := M_X12_relates) (M' := M_X12_relateAlong) (as := [vi i_28]) (rest := []) rfl rfl dX12_relates_67 m_X12_relateAlong t_3517 t_3519 s_286 (c_X12_relateAlong hl  hc_38) rfl rfl ly_277 rfl (Nat.le_of_ble_eq_true rfl) (Nat.le_of_ble_eq_true rfl) (Nat.le_of_ble_eq_true rfl) (Nat.le_of_ble_eq_true rfl) ?_
        refine z_st (st' := []) rfl ?_
        refine z_iinc (M := M_X12_relates) (lv' := [some (vr 277), some (vi slot_0), some (vi other_0), some (vi (i_28 + 1)), none, none]) dX12_relates_70 rfl (Nat.le_of_ble_eq_true rfl) rfl rfl ?_
        refine z_goto (M := M_X12_relates) (tgt := 57) dX12_relates_73 (by decide) ?_
        exact K_35 _ (Option.some.inj H).symm
      · refine z_icmp_ge_t (M := M_X12_relates) (tgt := 76) dX12_relates_62 (by decide) rfl rfl (Int.not_lt.mp h_37) ?_
        exact J_110 _ _ (K_36 _ (Option.some.inj H).symm).symm
    refine whl_go hw_12 (fun (k_10, σ_11) => YY l E M_X12_relates 10 0 0 (pS (some (zv r)) σ') 28 [some (vr 277), some (vi slot_0), some (vi other_0), some (vi k_10), none, none] [] σ_11 0 0) ?_
    rintro ⟨k_10, σ_11⟩ o_16 H K_17 K_18
    refine z_iload_n (M := M_X12_relates) dX12_relates_28 rfl ?_
    refine z_bipush (M := M_X12_relates) dX12_relates_29 (by decide +kernel) ?_
    rcases if_e H with ⟨h_19, H⟩ | ⟨h_19, H⟩
    · refine z_icmp_ge_f (M := M_X12_relates) (tgt := 47) dX12_relates_31 (by decide) rfl (by decide +kernel) h_19 ?_
      refine z_aload_n (M := M_X12_relates) dX12_relates_34 rfl ?_
      refine z_getR (M := M_X12_relates) (ci := 15) (C := RX12) (T := TX12) (Nf := 135) (ty := tyX12) cl15 dX12_relates_35 ly_277 107 (by decide) t_2498 rfl ?_
      refine z_iload_n (M := M_X12_relates) dX12_relates_38 rfl ?_
      refine z_iconst (M := M_X12_relates) dX12_relates_39 ?_
      obtain ⟨σ_20, σ_20_e, hi_21, H⟩ := wa_e H
      refine z_iast (M := M_X12_relates) dX12_relates_40 ly_343 rfl rfl rfl hi_21 σ_20_e ?_
      refine z_iinc (M := M_X12_relates) (lv' := [some (vr 277), some (vi slot_0), some (vi other_0), some (vi (k_10 + 1)), none, none]) dX12_relates_41 rfl (Nat.le_of_ble_eq_true rfl) rfl rfl ?_
      refine z_goto (M := M_X12_relates) (tgt := 28) dX12_relates_44 (by decide) ?_
      exact K_17 _ (Option.some.inj H).symm
    · refine z_icmp_ge_t (M := M_X12_relates) (tgt := 47) dX12_relates_31 (by decide) rfl (by decide +kernel) (Int.not_lt.mp h_19) ?_
      exact J_111 _ _ (K_18 _ (Option.some.inj H).symm).symm
theorem c_X12_relate (hl : l.stackTraces = false) {σ : SG} {slot_0 : Int} {other_0 : Int} {r : Int} {σ' : SG}  (H : fR_relate σ slot_0 other_0 = some (r, σ')) : en_S l E M_X12_relate 11 0 0 [vr 277, vi slot_0, vi other_0] σ (pS (some (vi r)) σ') := by
  unfold fR_relate at H
  refine z_mk (lv := [some (vr 277), some (vi slot_0), some (vi other_0), none, none]) m_X12_relate rfl hl (Nat.le_of_ble_eq_true rfl) rfl ?_
  refine z_aload_n (M := M_X12_relate) dX12_relate_0 rfl ?_
  refine z_iconst (M := M_X12_relate) dX12_relate_1 ?_
  obtain ⟨σ_1, σ_1_e, H⟩ := wf_e H
  refine z_putI (M := M_X12_relate) (ci := 15) (C := RX12) (T := TX12) (Nf := 135) (ty := tyX12) cl15 dX12_relate_2 ly_277 0 (by decide) t_2391 rfl rfl rfl rfl σ_1_e ?_
  refine z_aload_n (M := M_X12_relate) dX12_relate_5 rfl ?_
  have J_30 : YY l E M_X12_relate 11 0 0 (pS (some (vi r)) σ') 25 [some (vr 277), some (vi slot_0), some (vi other_0), none, none] [zv (decide ((¬ ((fR_isSlot slot_0) = true)) ∨ (¬ ((fR_isSlot other_0) = true)))), vr 277] σ_1 0 0 := by
    refine z_iconst (M := M_X12_relate) dX12_relate_25 ?_
    obtain ⟨⟨x_33, σ_32⟩, hc_31, H⟩ := bd_e H
    refine z_callV (M := M_X12_relate) (M' := M_X12_fails) (as := [zv (decide ((¬ ((fR_isSlot slot_0) = true)) ∨ (¬ ((fR_isSlot other_0) = true)))), vi 1]) (rest := []) rfl rfl dX12_relate_26 m_X12_fails t_2805 t_2807 s_157 (c_X12_fails hl  hc_31) rfl rfl ly_277 rfl (Nat.le_of_ble_eq_true rfl) (Nat.le_of_ble_eq_true rfl) (Nat.le_of_ble_eq_true rfl) (Nat.le_of_ble_eq_true rfl) ?_
    refine z_st (st' := [zv x_33]) rfl ?_
    rcases if_e H with ⟨h_34, H⟩ | ⟨h_34, H⟩
    · refine z_zne_t (M := M_X12_relate) (tgt := 61) dX12_relate_29 (by decide) h_34 ?_
      refine z_iconst (M := M_X12_relate) dX12_relate_61 ?_
      cases H
      exact z_iret (M := M_X12_relate) dX12_relate_62 rfl (Nat.le_of_ble_eq_true rfl) (Nat.le_of_ble_eq_true rfl) ⟨rfl, rfl⟩
    · refine z_zne_f (M := M_X12_relate) (tgt := 61) dX12_relate_29 (by decide) h_34 ?_
      refine z_aload_n (M := M_X12_relate) dX12_relate_32 rfl ?_
      obtain ⟨v_137, he_138, hk_139⟩ := bd_e H
      have J_140 : ∀ x_44, v_137 = x_44 → YY l E M_X12_relate 11 0 0 (pS (some (vi r)) σ') 54 [some (vr 277), some (vi slot_0), some (vi other_0), none, none] [zv x_44, vr 277] σ_32 0 0 := by
        intro x_44 e
        have H := hk_139
        rw [e] at H
        refine z_iconst (M := M_X12_relate) dX12_relate_54 ?_
        obtain ⟨⟨x_47, σ_46⟩, hc_45, H⟩ := bd_e H
        refine z_callV (M := M_X12_relate) (M' := M_X12_fails) (as := [zv x_44, vi 2]) (rest := []) rfl rfl dX12_relate_55 m_X12_fails t_2805 t_2807 s_157 (c_X12_fails hl  hc_45) rfl rfl ly_277 rfl (Nat.le_of_ble_eq_true rfl) (Nat.le_of_ble_eq_true rfl) (Nat.le_of_ble_eq_true rfl) (Nat.le_of_ble_eq_true rfl) ?_
        refine z_st (st' := [zv x_47]) rfl ?_
        rcases if_e H with ⟨h_48, H⟩ | ⟨h_48, H⟩
        · refine z_zeq_f (M := M_X12_relate) (tgt := 63) dX12_relate_58 (by decide) h_48 ?_
          refine z_iconst (M := M_X12_relate) dX12_relate_61 ?_
          cases H
          exact z_iret (M := M_X12_relate) dX12_relate_62 rfl (Nat.le_of_ble_eq_true rfl) (Nat.le_of_ble_eq_true rfl) ⟨rfl, rfl⟩
        · refine z_zeq_t (M := M_X12_relate) (tgt := 63) dX12_relate_58 (by decide) h_48 ?_
          refine z_aload_n (M := M_X12_relate) dX12_relate_63 rfl ?_
          obtain ⟨v_133, he_134, hk_135⟩ := bd_e H
          have J_136 : ∀ x_95, v_133 = x_95 → YY l E M_X12_relate 11 0 0 (pS (some (vi r)) σ') 85 [some (vr 277), some (vi slot_0), some (vi other_0), none, none] [zv x_95, vr 277] σ_46 0 0 := by
            intro x_95 e
            have H := hk_135
            rw [e] at H
            refine z_iconst (M := M_X12_relate) dX12_relate_85 ?_
            obtain ⟨⟨x_98, σ_97⟩, hc_96, H⟩ := bd_e H
            refine z_callV (M := M_X12_relate) (M' := M_X12_fails) (as := [zv x_95, vi 3]) (rest := []) rfl rfl dX12_relate_86 m_X12_fails t_2805 t_2807 s_157 (c_X12_fails hl  hc_96) rfl rfl ly_277 rfl (Nat.le_of_ble_eq_true rfl) (Nat.le_of_ble_eq_true rfl) (Nat.le_of_ble_eq_true rfl) (Nat.le_of_ble_eq_true rfl) ?_
            refine z_st (st' := [zv x_98]) rfl ?_
            rcases if_e H with ⟨h_99, H⟩ | ⟨h_99, H⟩
            · refine z_zne_t (M := M_X12_relate) (tgt := 114) dX12_relate_89 (by decide) h_99 ?_
              refine z_iconst (M := M_X12_relate) dX12_relate_114 ?_
              cases H
              exact z_iret (M := M_X12_relate) dX12_relate_115 rfl (Nat.le_of_ble_eq_true rfl) (Nat.le_of_ble_eq_true rfl) ⟨rfl, rfl⟩
            · refine z_zne_f (M := M_X12_relate) (tgt := 114) dX12_relate_89 (by decide) h_99 ?_
              refine z_aload_n (M := M_X12_relate) dX12_relate_92 rfl ?_
              obtain ⟨v_129, he_130, hk_131⟩ := bd_e H
              have J_132 : ∀ x_106 σ_107, v_129 = (x_106, σ_107) → YY l E M_X12_relate 11 0 0 (pS (some (vi r)) σ') 107 [some (vr 277), some (vi slot_0), some (vi other_0), none, none] [zv x_106, vr 277] σ_107 0 0 := by
                intro x_106 σ_107 e
                have H := hk_131
                rw [e] at H
                refine z_iconst (M := M_X12_relate) dX12_relate_107 ?_
                obtain ⟨⟨x_110, σ_109⟩, hc_108, H⟩ := bd_e H
                refine z_callV (M := M_X12_relate) (M' := M_X12_fails) (as := [zv x_106, vi 4]) (rest := []) rfl rfl dX12_relate_108 m_X12_fails t_2805 t_2807 s_157 (c_X12_fails hl  hc_108) rfl rfl ly_277 rfl (Nat.le_of_ble_eq_true rfl) (Nat.le_of_ble_eq_true rfl) (Nat.le_of_ble_eq_true rfl) (Nat.le_of_ble_eq_true rfl) ?_
                refine z_st (st' := [zv x_110]) rfl ?_
                rcases if_e H with ⟨h_111, H⟩ | ⟨h_111, H⟩
                · refine z_zeq_f (M := M_X12_relate) (tgt := 116) dX12_relate_111 (by decide) h_111 ?_
                  refine z_iconst (M := M_X12_relate) dX12_relate_114 ?_
                  cases H
                  exact z_iret (M := M_X12_relate) dX12_relate_115 rfl (Nat.le_of_ble_eq_true rfl) (Nat.le_of_ble_eq_true rfl) ⟨rfl, rfl⟩
                · refine z_zeq_t (M := M_X12_relate) (tgt := 116) dX12_relate_111 (by decide) h_111 ?_
                  refine z_iconst (M := M_X12_relate) dX12_relate_116 ?_
                  refine z_istore_n (M := M_X12_relate) (lv' := [some (vr 277), some (vi slot_0), some (vi other_0), some (vi 0), none]) dX12_relate_117 (Nat.le_of_ble_eq_true rfl) rfl rfl ?_
                  refine z_iconst (M := M_X12_relate) dX12_relate_118 ?_
                  refine z_istore (M := M_X12_relate) (lv' := [some (vr 277), some (vi slot_0), some (vi other_0), some (vi 0), some (vi 0)]) dX12_relate_119 (Nat.le_of_ble_eq_true rfl) rfl rfl ?_
                  obtain ⟨rl_117, hw_114, hk_115⟩ := bd_e H
                  have J_128 : ∀ v_126 k_127, rl_117 = (v_126, k_127) → YY l E M_X12_relate 11 0 0 (pS (some (vi r)) σ') 148 [some (vr 277), some (vi slot_0), some (vi other_0), some (vi v_126), some (vi k_127)] [] σ_109 0 0 := by
                    intro v_126 k_127 e
                    have H := hk_115
                    rw [e] at H
                    refine z_iload_n (M := M_X12_relate) dX12_relate_148 rfl ?_
                    cases H
                    exact z_iret (M := M_X12_relate) dX12_relate_149 rfl (Nat.le_of_ble_eq_true rfl) (Nat.le_of_ble_eq_true rfl) ⟨rfl, rfl⟩
                  refine whl_go hw_114 (fun (v_112, k_113) => YY l E M_X12_relate 11 0 0 (pS (some (vi r)) σ') 121 [some (vr 277), some (vi slot_0), some (vi other_0), some (vi v_112), some (vi k_113)] [] σ_109 0 0) ?_
                  rintro ⟨v_112, k_113⟩ o_118 H K_119 K_120
                  refine z_iload (M := M_X12_relate) dX12_relate_121 rfl ?_
                  refine z_bipush (M := M_X12_relate) dX12_relate_123 (by decide +kernel) ?_
                  rcases if_e H with ⟨h_121, H⟩ | ⟨h_121, H⟩
                  · refine z_icmp_ge_f (M := M_X12_relate) (tgt := 148) dX12_relate_125 (by decide) rfl (by decide +kernel) h_121 ?_
                    refine z_iconst (M := M_X12_relate) dX12_relate_128 ?_
                    refine z_iload_n (M := M_X12_relate) dX12_relate_129 rfl ?_
                    refine z_imul (M := M_X12_relate) dX12_relate_130 ?_
                    refine z_aload_n (M := M_X12_relate) dX12_relate_131 rfl ?_
                    refine z_getR (M := M_X12_relate) (ci := 15) (C := RX12) (T := TX12) (Nf := 135) (ty := tyX12) cl15 dX12_relate_132 ly_277 107 (by decide) t_2498 rfl ?_
                    refine z_iload (M := M_X12_relate) dX12_relate_135 rfl ?_
                    obtain ⟨x_122, x_122_e, hi_123, H⟩ := rd_e H
                    refine z_iald (M := M_X12_relate) dX12_relate_137 ly_343 rfl rfl rfl hi_123 x_122_e ?_
                    refine z_iadd (M := M_X12_relate) dX12_relate_138 ?_
                    refine z_iconst (M := M_X12_relate) dX12_relate_139 ?_
                    refine z_iadd (M := M_X12_relate) dX12_relate_140 ?_
                    refine z_istore_n (M := M_X12_relate) (lv' := [some (vr 277), some (vi slot_0), some (vi other_0), some (vi (((4 * v_112) + x_122) + 1)), some (vi k_113)]) dX12_relate_141 (Nat.le_of_ble_eq_true rfl) rfl rfl ?_
                    refine z_iinc (M := M_X12_relate) (lv' := [some (vr 277), some (vi slot_0), some (vi other_0), some (vi (((4 * v_112) + x_122) + 1)), some (vi (k_113 + 1))]) dX12_relate_142 rfl (Nat.le_of_ble_eq_true rfl) rfl rfl ?_
                    refine z_goto (M := M_X12_relate) (tgt := 121) dX12_relate_145 (by decide) ?_
                    exact K_119 _ (Option.some.inj H).symm
                  · refine z_icmp_ge_t (M := M_X12_relate) (tgt := 148) dX12_relate_125 (by decide) rfl (by decide +kernel) (Int.not_lt.mp h_121) ?_
                    exact J_128 _ _ (K_120 _ (Option.some.inj H).symm).symm
              have H := he_130
              refine z_aload_n (M := M_X12_relate) dX12_relate_93 rfl ?_
              refine z_iload_n (M := M_X12_relate) dX12_relate_94 rfl ?_
              refine z_iload_n (M := M_X12_relate) dX12_relate_95 rfl ?_
              obtain ⟨⟨x_102, σ_101⟩, hc_100, H⟩ := bd_e H
              refine z_callV (M := M_X12_relate) (M' := M_X12_relates) (as := [vi slot_0, vi other_0]) (rest := [vr 277]) rfl rfl dX12_relate_96 m_X12_relates t_3494 t_3496 s_281 (c_X12_relates hl  hc_100) rfl rfl ly_277 rfl (Nat.le_of_ble_eq_true rfl) (Nat.le_of_ble_eq_true rfl) (Nat.le_of_ble_eq_true rfl) (Nat.le_of_ble_eq_true rfl) ?_
              refine z_st (st' := [zv x_102, vr 277]) rfl ?_
              rcases if_e H with ⟨h_103, H⟩ | ⟨h_103, H⟩
              · refine z_zne_t (M := M_X12_relate) (tgt := 106) dX12_relate_99 (by decide) h_103 ?_
                refine z_zconst (M := M_X12_relate) (b := false) dX12_relate_106 rfl ?_
                exact J_132 _ _ (Option.some.inj H).symm
              · refine z_zne_f (M := M_X12_relate) (tgt := 106) dX12_relate_99 (by decide) h_103 ?_
                refine z_zconst (M := M_X12_relate) (b := true) dX12_relate_102 rfl ?_
                refine z_goto (M := M_X12_relate) (tgt := 107) dX12_relate_103 (by decide) ?_
                exact J_132 _ _ (Option.some.inj H).symm
          have H := he_134
          refine z_aload_n (M := M_X12_relate) dX12_relate_64 rfl ?_
          refine z_iload_n (M := M_X12_relate) dX12_relate_65 rfl ?_
          obtain ⟨x_87, hc_86, H⟩ := bd_e H
          refine z_callV (M := M_X12_relate) (M' := M_X12_canRelate) (as := [vi slot_0]) (rest := [vr 277]) rfl rfl dX12_relate_66 m_X12_canRelate t_3490 t_3492 s_280 (c_X12_canRelate hl  hc_86) rfl rfl ly_277 rfl (Nat.le_of_ble_eq_true rfl) (Nat.le_of_ble_eq_true rfl) (Nat.le_of_ble_eq_true rfl) (Nat.le_of_ble_eq_true rfl) ?_
          refine z_st (st' := [zv x_87, vr 277]) rfl ?_
          rcases if_e H with ⟨h_88, H⟩ | ⟨h_88, H⟩
          · refine z_zeq_f (M := M_X12_relate) (tgt := 80) dX12_relate_69 (by decide) h_88 ?_
            refine z_aload_n (M := M_X12_relate) dX12_relate_72 rfl ?_
            refine z_iload_n (M := M_X12_relate) dX12_relate_73 rfl ?_
            obtain ⟨x_90, hc_89, H⟩ := bd_e H
            refine z_callV (M := M_X12_relate) (M' := M_X12_canRelate) (as := [vi other_0]) (rest := [vr 277]) rfl rfl dX12_relate_74 m_X12_canRelate t_3490 t_3492 s_280 (c_X12_canRelate hl  hc_89) rfl rfl ly_277 rfl (Nat.le_of_ble_eq_true rfl) (Nat.le_of_ble_eq_true rfl) (Nat.le_of_ble_eq_true rfl) (Nat.le_of_ble_eq_true rfl) ?_
            refine z_st (st' := [zv x_90, vr 277]) rfl ?_
            rcases if_e H with ⟨h_91, H⟩ | ⟨h_91, H⟩
            · refine z_zne_t (M := M_X12_relate) (tgt := 84) dX12_relate_77 (by decide) h_91 ?_
              refine z_zconst (M := M_X12_relate) (b := false) dX12_relate_84 rfl ?_
              exact J_136 _ (Option.some.inj H).symm
            · refine z_zne_f (M := M_X12_relate) (tgt := 84) dX12_relate_77 (by decide) h_91 ?_
              refine z_zconst (M := M_X12_relate) (b := true) dX12_relate_80 rfl ?_
              refine z_goto (M := M_X12_relate) (tgt := 85) dX12_relate_81 (by decide) ?_
              exact J_136 _ (Option.some.inj H).symm
          · refine z_zeq_t (M := M_X12_relate) (tgt := 80) dX12_relate_69 (by decide) h_88 ?_
            refine z_zconst (M := M_X12_relate) (b := true) dX12_relate_80 rfl ?_
            refine z_goto (M := M_X12_relate) (tgt := 85) dX12_relate_81 (by decide) ?_
            exact J_136 _ (Option.some.inj H).symm
      have H := he_138
      refine z_aload_n (M := M_X12_relate) dX12_relate_33 rfl ?_
      refine z_iload_n (M := M_X12_relate) dX12_relate_34 rfl ?_
      obtain ⟨x_36, hc_35, H⟩ := bd_e H
      refine z_callV (M := M_X12_relate) (M' := M_X12_has) (as := [vi slot_0]) (rest := [vr 277]) rfl rfl dX12_relate_35 m_X12_has t_3033 t_3035 s_197 (c_X12_has hl  hc_35) rfl rfl ly_277 rfl (Nat.le_of_ble_eq_true rfl) (Nat.le_of_ble_eq_true rfl) (Nat.le_of_ble_eq_true rfl) (Nat.le_of_ble_eq_true rfl) ?_
      refine z_st (st' := [zv x_36, vr 277]) rfl ?_
      rcases if_e H with ⟨h_37, H⟩ | ⟨h_37, H⟩
      · refine z_zeq_f (M := M_X12_relate) (tgt := 49) dX12_relate_38 (by decide) h_37 ?_
        refine z_aload_n (M := M_X12_relate) dX12_relate_41 rfl ?_
        refine z_iload_n (M := M_X12_relate) dX12_relate_42 rfl ?_
        obtain ⟨x_39, hc_38, H⟩ := bd_e H
        refine z_callV (M := M_X12_relate) (M' := M_X12_has) (as := [vi other_0]) (rest := [vr 277]) rfl rfl dX12_relate_43 m_X12_has t_3033 t_3035 s_197 (c_X12_has hl  hc_38) rfl rfl ly_277 rfl (Nat.le_of_ble_eq_true rfl) (Nat.le_of_ble_eq_true rfl) (Nat.le_of_ble_eq_true rfl) (Nat.le_of_ble_eq_true rfl) ?_
        refine z_st (st' := [zv x_39, vr 277]) rfl ?_
        rcases if_e H with ⟨h_40, H⟩ | ⟨h_40, H⟩
        · refine z_zne_t (M := M_X12_relate) (tgt := 53) dX12_relate_46 (by decide) h_40 ?_
          refine z_zconst (M := M_X12_relate) (b := false) dX12_relate_53 rfl ?_
          exact J_140 _ (Option.some.inj H).symm
        · refine z_zne_f (M := M_X12_relate) (tgt := 53) dX12_relate_46 (by decide) h_40 ?_
          refine z_zconst (M := M_X12_relate) (b := true) dX12_relate_49 rfl ?_
          refine z_goto (M := M_X12_relate) (tgt := 54) dX12_relate_50 (by decide) ?_
          exact J_140 _ (Option.some.inj H).symm
      · refine z_zeq_t (M := M_X12_relate) (tgt := 49) dX12_relate_38 (by decide) h_37 ?_
        refine z_zconst (M := M_X12_relate) (b := true) dX12_relate_49 rfl ?_
        refine z_goto (M := M_X12_relate) (tgt := 54) dX12_relate_50 (by decide) ?_
        exact J_140 _ (Option.some.inj H).symm
  refine z_iload_n (M := M_X12_relate) dX12_relate_6 rfl ?_
  refine z_callS (M := M_X12_relate) (M' := M_X12_isSlot) (as := [vi slot_0]) (rest := [vr 277]) rfl rfl dX12_relate_7 m_X12_isSlot t_2841 t_2842 (c_X12_isSlot hl  rfl) rfl rfl (Nat.le_of_ble_eq_true rfl) (Nat.le_of_ble_eq_true rfl) (Nat.le_of_ble_eq_true rfl) (Nat.le_of_ble_eq_true rfl) ?_
  refine z_st (st' := [zv (fR_isSlot slot_0), vr 277]) rfl ?_
  by_cases h_141 : (fR_isSlot slot_0) = true
  · refine z_zeq_f (M := M_X12_relate) (tgt := 20) dX12_relate_10 (by decide) h_141 ?_
    refine z_iload_n (M := M_X12_relate) dX12_relate_13 rfl ?_
    refine z_callS (M := M_X12_relate) (M' := M_X12_isSlot) (as := [vi other_0]) (rest := [vr 277]) rfl rfl dX12_relate_14 m_X12_isSlot t_2841 t_2842 (c_X12_isSlot hl  rfl) rfl rfl (Nat.le_of_ble_eq_true rfl) (Nat.le_of_ble_eq_true rfl) (Nat.le_of_ble_eq_true rfl) (Nat.le_of_ble_eq_true rfl) ?_
    refine z_st (st' := [zv (fR_isSlot other_0), vr 277]) rfl ?_
    by_cases h_142 : (fR_isSlot other_0) = true
    · refine z_zne_t (M := M_X12_relate) (tgt := 24) dX12_relate_17 (by decide) h_142 ?_
      refine z_iconst (M := M_X12_relate) dX12_relate_24 ?_
      exact z_st (by rw [zv_f (p := (¬ ((fR_isSlot slot_0) = true)) ∨ (¬ ((fR_isSlot other_0) = true))) (fun q => q.elim (not_not_intro h_141) (not_not_intro h_142))]) J_30
    · refine z_zne_f (M := M_X12_relate) (tgt := 24) dX12_relate_17 (by decide) h_142 ?_
      refine z_iconst (M := M_X12_relate) dX12_relate_20 ?_
      refine z_goto (M := M_X12_relate) (tgt := 25) dX12_relate_21 (by decide) ?_
      exact z_st (by rw [zv_t (p := (¬ ((fR_isSlot slot_0) = true)) ∨ (¬ ((fR_isSlot other_0) = true))) (Or.inr h_142)]) J_30
  · refine z_zeq_t (M := M_X12_relate) (tgt := 20) dX12_relate_10 (by decide) h_141 ?_
    refine z_iconst (M := M_X12_relate) dX12_relate_20 ?_
    refine z_goto (M := M_X12_relate) (tgt := 25) dX12_relate_21 (by decide) ?_
    exact z_st (by rw [zv_t (p := (¬ ((fR_isSlot slot_0) = true)) ∨ (¬ ((fR_isSlot other_0) = true))) (Or.inl h_141)]) J_30
theorem c_X12_dimension (hl : l.stackTraces = false) {σ : SG} {shape_0 : Int} {r : Int}  (H : fR_dimension σ shape_0 = some r) : en_S l E M_X12_dimension 1 0 0 [vr 277, vi shape_0] σ (pS (some (vi r)) σ) := by
  unfold fR_dimension at H
  refine z_mk (lv := [some (vr 277), some (vi shape_0)]) m_X12_dimension rfl hl (Nat.le_of_ble_eq_true rfl) rfl ?_
  refine z_aload_n (M := M_X12_dimension) dX12_dimension_0 rfl ?_
  refine z_getR (M := M_X12_dimension) (ci := 15) (C := RX12) (T := TX12) (Nf := 135) (ty := tyX12) cl15 dX12_dimension_1 ly_277 101 (by decide) t_2492 rfl ?_
  refine z_iload_n (M := M_X12_dimension) dX12_dimension_4 rfl ?_
  obtain ⟨x_1, x_1_e, hi_2, H⟩ := rd_e H
  refine z_iald (M := M_X12_dimension) dX12_dimension_5 ly_337 rfl rfl rfl hi_2 x_1_e ?_
  rcases if_e H with ⟨h_3, H⟩ | ⟨h_3, H⟩
  · refine z_if_ne_f (M := M_X12_dimension) (tgt := 29) dX12_dimension_6 (by decide) rfl h_3 ?_
    obtain ⟨v_12, he_13, hk_14⟩ := bd_e H
    have J_15 : ∀ x_11, v_12 = x_11 → YY l E M_X12_dimension 1 0 0 (pS (some (vi r)) σ) 28 [some (vr 277), some (vi shape_0)] [vi x_11] σ 0 0 := by
      intro x_11 e
      have H := hk_14
      rw [e] at H
      cases H
      exact z_iret (M := M_X12_dimension) dX12_dimension_28 rfl (Nat.le_of_ble_eq_true rfl) (Nat.le_of_ble_eq_true rfl) ⟨rfl, rfl⟩
    have H := he_13
    refine z_aload_n (M := M_X12_dimension) dX12_dimension_9 rfl ?_
    refine z_getR (M := M_X12_dimension) (ci := 15) (C := RX12) (T := TX12) (Nf := 135) (ty := tyX12) cl15 dX12_dimension_10 ly_277 11 (by decide) t_2402 rfl ?_
    refine z_aload_n (M := M_X12_dimension) dX12_dimension_13 rfl ?_
    refine z_getR (M := M_X12_dimension) (ci := 15) (C := RX12) (T := TX12) (Nf := 135) (ty := tyX12) cl15 dX12_dimension_14 ly_277 100 (by decide) t_2491 rfl ?_
    refine z_iload_n (M := M_X12_dimension) dX12_dimension_17 rfl ?_
    obtain ⟨x_4, x_4_e, hi_5, H⟩ := rd_e H
    refine z_iald (M := M_X12_dimension) dX12_dimension_18 ly_336 rfl rfl rfl hi_5 x_4_e ?_
    obtain ⟨x_6, x_6_e, hi_7, H⟩ := rd_e H
    refine z_iald (M := M_X12_dimension) dX12_dimension_19 ly_282 rfl rfl rfl hi_7 x_6_e ?_
    rcases if_e H with ⟨h_8, H⟩ | ⟨h_8, H⟩
    · refine z_if_le_f (M := M_X12_dimension) (tgt := 27) dX12_dimension_20 (by decide) rfl h_8 ?_
      refine z_iconst (M := M_X12_dimension) dX12_dimension_23 ?_
      refine z_goto (M := M_X12_dimension) (tgt := 28) dX12_dimension_24 (by decide) ?_
      exact J_15 _ (Option.some.inj H).symm
    · refine z_if_le_t (M := M_X12_dimension) (tgt := 27) dX12_dimension_20 (by decide) rfl (Int.not_lt.mp h_8) ?_
      refine z_iconst (M := M_X12_dimension) dX12_dimension_27 ?_
      exact J_15 _ (Option.some.inj H).symm
  · refine z_if_ne_t (M := M_X12_dimension) (tgt := 29) dX12_dimension_6 (by decide) rfl h_3 ?_
    refine z_aload_n (M := M_X12_dimension) dX12_dimension_29 rfl ?_
    refine z_getR (M := M_X12_dimension) (ci := 15) (C := RX12) (T := TX12) (Nf := 135) (ty := tyX12) cl15 dX12_dimension_30 ly_277 101 (by decide) t_2492 rfl ?_
    refine z_iload_n (M := M_X12_dimension) dX12_dimension_33 rfl ?_
    obtain ⟨x_16, x_16_e, hi_17, H⟩ := rd_e H
    refine z_iald (M := M_X12_dimension) dX12_dimension_34 ly_337 rfl rfl rfl hi_17 x_16_e ?_
    refine z_iconst (M := M_X12_dimension) dX12_dimension_35 ?_
    rcases if_e H with ⟨h_18, H⟩ | ⟨h_18, H⟩
    · refine z_icmp_ne_f (M := M_X12_dimension) (tgt := 54) dX12_dimension_36 (by decide) rfl (by decide +kernel) h_18 ?_
      obtain ⟨v_25, he_26, hk_27⟩ := bd_e H
      have J_28 : ∀ x_24, v_25 = x_24 → YY l E M_X12_dimension 1 0 0 (pS (some (vi r)) σ) 53 [some (vr 277), some (vi shape_0)] [vi x_24] σ 0 0 := by
        intro x_24 e
        have H := hk_27
        rw [e] at H
        cases H
        exact z_iret (M := M_X12_dimension) dX12_dimension_53 rfl (Nat.le_of_ble_eq_true rfl) (Nat.le_of_ble_eq_true rfl) ⟨rfl, rfl⟩
      have H := he_26
      refine z_aload_n (M := M_X12_dimension) dX12_dimension_39 rfl ?_
      refine z_getR (M := M_X12_dimension) (ci := 15) (C := RX12) (T := TX12) (Nf := 135) (ty := tyX12) cl15 dX12_dimension_40 ly_277 103 (by decide) t_2494 rfl ?_
      refine z_iload_n (M := M_X12_dimension) dX12_dimension_43 rfl ?_
      obtain ⟨x_19, x_19_e, hi_20, H⟩ := rd_e H
      refine z_iald (M := M_X12_dimension) dX12_dimension_44 ly_339 rfl rfl rfl hi_20 x_19_e ?_
      rcases if_e H with ⟨h_21, H⟩ | ⟨h_21, H⟩
      · refine z_if_le_f (M := M_X12_dimension) (tgt := 52) dX12_dimension_45 (by decide) rfl h_21 ?_
        refine z_iconst (M := M_X12_dimension) dX12_dimension_48 ?_
        refine z_goto (M := M_X12_dimension) (tgt := 53) dX12_dimension_49 (by decide) ?_
        exact J_28 _ (Option.some.inj H).symm
      · refine z_if_le_t (M := M_X12_dimension) (tgt := 52) dX12_dimension_45 (by decide) rfl (Int.not_lt.mp h_21) ?_
        refine z_iconst (M := M_X12_dimension) dX12_dimension_52 ?_
        exact J_28 _ (Option.some.inj H).symm
    · refine z_icmp_ne_t (M := M_X12_dimension) (tgt := 54) dX12_dimension_36 (by decide) rfl (by decide +kernel) h_18 ?_
      obtain ⟨v_35, he_36, hk_37⟩ := bd_e H
      have J_38 : ∀ x_34, v_35 = x_34 → YY l E M_X12_dimension 1 0 0 (pS (some (vi r)) σ) 68 [some (vr 277), some (vi shape_0)] [vi x_34] σ 0 0 := by
        intro x_34 e
        have H := hk_37
        rw [e] at H
        cases H
        exact z_iret (M := M_X12_dimension) dX12_dimension_68 rfl (Nat.le_of_ble_eq_true rfl) (Nat.le_of_ble_eq_true rfl) ⟨rfl, rfl⟩
      have H := he_36
      refine z_aload_n (M := M_X12_dimension) dX12_dimension_54 rfl ?_
      refine z_getR (M := M_X12_dimension) (ci := 15) (C := RX12) (T := TX12) (Nf := 135) (ty := tyX12) cl15 dX12_dimension_55 ly_277 104 (by decide) t_2495 rfl ?_
      refine z_iload_n (M := M_X12_dimension) dX12_dimension_58 rfl ?_
      obtain ⟨x_29, x_29_e, hi_30, H⟩ := rd_e H
      refine z_zald (M := M_X12_dimension) dX12_dimension_59 ly_340 rfl rfl rfl hi_30 x_29_e ?_
      rcases if_e H with ⟨h_31, H⟩ | ⟨h_31, H⟩
      · refine z_zeq_f (M := M_X12_dimension) (tgt := 67) dX12_dimension_60 (by decide) h_31 ?_
        refine z_iconst (M := M_X12_dimension) dX12_dimension_63 ?_
        refine z_goto (M := M_X12_dimension) (tgt := 68) dX12_dimension_64 (by decide) ?_
        exact J_38 _ (Option.some.inj H).symm
      · refine z_zeq_t (M := M_X12_dimension) (tgt := 67) dX12_dimension_60 (by decide) h_31 ?_
        refine z_iconst (M := M_X12_dimension) dX12_dimension_67 ?_
        exact J_38 _ (Option.some.inj H).symm
theorem c_X12_m (hl : l.stackTraces = false) {σ : SG} {k_0 : Int} {r : Bool}  (H : fR_m σ k_0 = some r) : en_S l E M_X12_m 1 0 0 [vr 277, vi k_0] σ (pS (some (zv r)) σ) := by
  unfold fR_m at H
  refine z_mk (lv := [some (vr 277), some (vi k_0)]) m_X12_m rfl hl (Nat.le_of_ble_eq_true rfl) rfl ?_
  obtain ⟨v_7, he_8, hk_9⟩ := bd_e H
  have J_10 : ∀ x_6, v_7 = x_6 → YY l E M_X12_m 1 0 0 (pS (some (zv r)) σ) 14 [some (vr 277), some (vi k_0)] [zv x_6] σ 0 0 := by
    intro x_6 e
    have H := hk_9
    rw [e] at H
    cases H
    exact z_zret (M := M_X12_m) dX12_m_14 rfl (Nat.le_of_ble_eq_true rfl) (Nat.le_of_ble_eq_true rfl) ⟨rfl, rfl⟩
  have H := he_8
  refine z_aload_n (M := M_X12_m) dX12_m_0 rfl ?_
  refine z_getR (M := M_X12_m) (ci := 15) (C := RX12) (T := TX12) (Nf := 135) (ty := tyX12) cl15 dX12_m_1 ly_277 107 (by decide) t_2498 rfl ?_
  refine z_iload_n (M := M_X12_m) dX12_m_4 rfl ?_
  obtain ⟨x_1, x_1_e, hi_2, H⟩ := rd_e H
  refine z_iald (M := M_X12_m) dX12_m_5 ly_343 rfl rfl rfl hi_2 x_1_e ?_
  rcases if_e H with ⟨h_3, H⟩ | ⟨h_3, H⟩
  · refine z_if_lt_f (M := M_X12_m) (tgt := 13) dX12_m_6 (by decide) rfl h_3 ?_
    refine z_zconst (M := M_X12_m) (b := true) dX12_m_9 rfl ?_
    refine z_goto (M := M_X12_m) (tgt := 14) dX12_m_10 (by decide) ?_
    exact J_10 _ (Option.some.inj H).symm
  · refine z_if_lt_t (M := M_X12_m) (tgt := 13) dX12_m_6 (by decide) rfl (Int.not_le.mp h_3) ?_
    refine z_zconst (M := M_X12_m) (b := false) dX12_m_13 rfl ?_
    exact J_10 _ (Option.some.inj H).symm
end LFBA
