section LFAJ
variable {l : Launch} {E : EE}
theorem c_X3_isCovered (hl : l.stackTraces = false) {σ : SG} {i_0 : Int} {itsShare_0 : Int} {itsWhole_0 : Int} {k_0 : Int} {r : Bool}  (H : fT_isCovered σ i_0 itsShare_0 itsWhole_0 k_0 = some r) : en_S l E M_X3_isCovered 3 0 0 [vr 222, vi i_0, vl itsShare_0, vl itsWhole_0, vi k_0] σ (pS (some (zv r)) σ) := by
  unfold fT_isCovered at H
  refine z_mk (lv := [some (vr 222), some (vi i_0), some (vl itsShare_0), none, some (vl itsWhole_0), none, some (vi k_0), none, none, none, none, none, none, none, none, none, none, none]) m_X3_isCovered rfl hl (Nat.le_of_ble_eq_true rfl) rfl ?_
  obtain ⟨v_80, he_81, hk_82⟩ := bd_e H
  have J_83 : ∀ x_6, v_80 = x_6 → YY l E M_X3_isCovered 3 0 0 (pS (some (zv r)) σ) 15 [some (vr 222), some (vi i_0), some (vl itsShare_0), none, some (vl itsWhole_0), none, some (vi k_0), none, none, none, none, none, none, none, none, none, none, none] [zv x_6] σ 0 0 := by
    intro x_6 e
    have H := hk_82
    rw [e] at H
    refine z_zstore (M := M_X3_isCovered) (lv' := [some (vr 222), some (vi i_0), some (vl itsShare_0), none, some (vl itsWhole_0), none, some (vi k_0), some (zv x_6), none, none, none, none, none, none, none, none, none, none]) dX3_isCovered_15 (Nat.le_of_ble_eq_true rfl) rfl rfl ?_
    obtain ⟨v_76, he_77, hk_78⟩ := bd_e H
    have J_79 : ∀ x_18, v_76 = x_18 → YY l E M_X3_isCovered 3 0 0 (pS (some (zv r)) σ) 35 [some (vr 222), some (vi i_0), some (vl itsShare_0), none, some (vl itsWhole_0), none, some (vi k_0), some (zv x_6), none, none, none, none, none, none, none, none, none, none] [vl x_18] σ 0 0 := by
      intro x_18 e
      have H := hk_78
      rw [e] at H
      refine z_lstore (M := M_X3_isCovered) (lv' := [some (vr 222), some (vi i_0), some (vl itsShare_0), none, some (vl itsWhole_0), none, some (vi k_0), some (zv x_6), some (vl x_18), none, none, none, none, none, none, none, none, none]) dX3_isCovered_35 (Nat.le_of_ble_eq_true rfl) rfl rfl ?_
      obtain ⟨v_72, he_73, hk_74⟩ := bd_e H
      have J_75 : ∀ x_38, v_72 = x_38 → YY l E M_X3_isCovered 3 0 0 (pS (some (zv r)) σ) 89 [some (vr 222), some (vi i_0), some (vl itsShare_0), none, some (vl itsWhole_0), none, some (vi k_0), some (zv x_6), some (vl x_18), none, none, none, none, none, none, none, none, none] [vl x_38] σ 0 0 := by
        intro x_38 e
        have H := hk_74
        rw [e] at H
        refine z_lstore (M := M_X3_isCovered) (lv' := [some (vr 222), some (vi i_0), some (vl itsShare_0), none, some (vl itsWhole_0), none, some (vi k_0), some (zv x_6), some (vl x_18), none, some (vl x_38), none, none, none, none, none, none, none]) dX3_isCovered_89 (Nat.le_of_ble_eq_true rfl) rfl rfl ?_
        obtain ⟨v_68, he_69, hk_70⟩ := bd_e H
        have J_71 : ∀ x_58, v_68 = x_58 → YY l E M_X3_isCovered 3 0 0 (pS (some (zv r)) σ) 143 [some (vr 222), some (vi i_0), some (vl itsShare_0), none, some (vl itsWhole_0), none, some (vi k_0), some (zv x_6), some (vl x_18), none, some (vl x_38), none, none, none, none, none, none, none] [vl x_58] σ 0 0 := by
          intro x_58 e
          have H := hk_70
          rw [e] at H
          refine z_lstore (M := M_X3_isCovered) (lv' := [some (vr 222), some (vi i_0), some (vl itsShare_0), none, some (vl itsWhole_0), none, some (vi k_0), some (zv x_6), some (vl x_18), none, some (vl x_38), none, some (vl x_58), none, none, none, none, none]) dX3_isCovered_143 (Nat.le_of_ble_eq_true rfl) rfl rfl ?_
          have J_59 : YY l E M_X3_isCovered 3 0 0 (pS (some (zv r)) σ) 170 [some (vr 222), some (vi i_0), some (vl itsShare_0), none, some (vl itsWhole_0), none, some (vi k_0), some (zv x_6), some (vl x_18), none, some (vl x_38), none, some (vl x_58), none, none, none, none, none] [vl (if 0 < (w64 x_18) then (q_mnl x_38 x_58) else (-(q_mxl x_38 x_58)))] σ 0 0 := by
            obtain ⟨x_60, x_60_e, H⟩ := lt_e H
            refine z_st (congrArg (fun z => vl z :: []) x_60_e) ?_
            refine z_lstore (M := M_X3_isCovered) (lv' := [some (vr 222), some (vi i_0), some (vl itsShare_0), none, some (vl itsWhole_0), none, some (vi k_0), some (zv x_6), some (vl x_18), none, some (vl x_38), none, some (vl x_58), none, some (vl x_60), none, none, none]) dX3_isCovered_170 (Nat.le_of_ble_eq_true rfl) rfl rfl ?_
            have J_61 : YY l E M_X3_isCovered 3 0 0 (pS (some (zv r)) σ) 197 [some (vr 222), some (vi i_0), some (vl itsShare_0), none, some (vl itsWhole_0), none, some (vi k_0), some (zv x_6), some (vl x_18), none, some (vl x_38), none, some (vl x_58), none, some (vl x_60), none, none, none] [vl (if 0 < (w64 x_18) then (q_mxl x_38 x_58) else (-(q_mnl x_38 x_58)))] σ 0 0 := by
              obtain ⟨x_62, x_62_e, H⟩ := lt_e H
              refine z_st (congrArg (fun z => vl z :: []) x_62_e) ?_
              refine z_lstore (M := M_X3_isCovered) (lv' := [some (vr 222), some (vi i_0), some (vl itsShare_0), none, some (vl itsWhole_0), none, some (vi k_0), some (zv x_6), some (vl x_18), none, some (vl x_38), none, some (vl x_58), none, some (vl x_60), none, some (vl x_62), none]) dX3_isCovered_197 (Nat.le_of_ble_eq_true rfl) rfl rfl ?_
              have J_63 : YY l E M_X3_isCovered 3 0 0 (pS (some (zv r)) σ) 242 [some (vr 222), some (vi i_0), some (vl itsShare_0), none, some (vl itsWhole_0), none, some (vi k_0), some (zv x_6), some (vl x_18), none, some (vl x_38), none, some (vl x_58), none, some (vl x_60), none, some (vl x_62), none] [zv (decide (((w32 (fQ_signOfSum x_60 itsWhole_0 (-itsShare_0) (q_abl x_18) 0 0)) ≤ 0) ∧ (0 < (w32 (fQ_signOfSum x_62 itsWhole_0 (-itsShare_0) (q_abl x_18) 0 0)))))] σ 0 0 := by
                cases H
                exact z_zret (M := M_X3_isCovered) dX3_isCovered_242 rfl (Nat.le_of_ble_eq_true rfl) (Nat.le_of_ble_eq_true rfl) ⟨rfl, rfl⟩
              refine z_lload (M := M_X3_isCovered) dX3_isCovered_199 rfl ?_
              refine z_lload (M := M_X3_isCovered) dX3_isCovered_201 rfl ?_
              refine z_lload_n (M := M_X3_isCovered) dX3_isCovered_203 rfl ?_
              refine z_lneg (M := M_X3_isCovered) dX3_isCovered_204 ?_
              refine z_lload (M := M_X3_isCovered) dX3_isCovered_205 rfl ?_
              refine z_labs (M := M_X3_isCovered) dX3_isCovered_207 t_1964 t_1131 t_20 t_1132 (Nat.le_of_ble_eq_true rfl) (Nat.le_of_ble_eq_true rfl) (Nat.le_of_ble_eq_true rfl) (Nat.le_of_ble_eq_true rfl) ?_
              refine z_lconst (M := M_X3_isCovered) (m := 0) dX3_isCovered_210 (by decide +kernel) ?_
              refine z_lconst (M := M_X3_isCovered) (m := 0) dX3_isCovered_211 (by decide +kernel) ?_
              refine z_callSN (M := M_X3_isCovered) (M' := M_X11_signOfSum) (as := [vl x_60, vl itsWhole_0, vl (-itsShare_0), vl (q_abl x_18), vl 0, vl 0]) (rest := []) rfl rfl dX3_isCovered_212 m_X11_signOfSum n_1937 t_1938 (c_X11_signOfSum hl  rfl) rfl rfl (Nat.le_of_ble_eq_true rfl) (Nat.le_of_ble_eq_true rfl) (Nat.le_of_ble_eq_true rfl) (Nat.le_of_ble_eq_true rfl) ?_
              refine z_st (st' := [vi (fQ_signOfSum x_60 itsWhole_0 (-itsShare_0) (q_abl x_18) 0 0)]) rfl ?_
              by_cases h_64 : (w32 (fQ_signOfSum x_60 itsWhole_0 (-itsShare_0) (q_abl x_18) 0 0)) ≤ 0
              · refine z_if_gt_f (M := M_X3_isCovered) (tgt := 241) dX3_isCovered_215 (by decide) rfl h_64 ?_
                refine z_lload (M := M_X3_isCovered) dX3_isCovered_218 rfl ?_
                refine z_lload (M := M_X3_isCovered) dX3_isCovered_220 rfl ?_
                refine z_lload_n (M := M_X3_isCovered) dX3_isCovered_222 rfl ?_
                refine z_lneg (M := M_X3_isCovered) dX3_isCovered_223 ?_
                refine z_lload (M := M_X3_isCovered) dX3_isCovered_224 rfl ?_
                refine z_labs (M := M_X3_isCovered) dX3_isCovered_226 t_1964 t_1131 t_20 t_1132 (Nat.le_of_ble_eq_true rfl) (Nat.le_of_ble_eq_true rfl) (Nat.le_of_ble_eq_true rfl) (Nat.le_of_ble_eq_true rfl) ?_
                refine z_lconst (M := M_X3_isCovered) (m := 0) dX3_isCovered_229 (by decide +kernel) ?_
                refine z_lconst (M := M_X3_isCovered) (m := 0) dX3_isCovered_230 (by decide +kernel) ?_
                refine z_callSN (M := M_X3_isCovered) (M' := M_X11_signOfSum) (as := [vl x_62, vl itsWhole_0, vl (-itsShare_0), vl (q_abl x_18), vl 0, vl 0]) (rest := []) rfl rfl dX3_isCovered_231 m_X11_signOfSum n_1937 t_1938 (c_X11_signOfSum hl  rfl) rfl rfl (Nat.le_of_ble_eq_true rfl) (Nat.le_of_ble_eq_true rfl) (Nat.le_of_ble_eq_true rfl) (Nat.le_of_ble_eq_true rfl) ?_
                refine z_st (st' := [vi (fQ_signOfSum x_62 itsWhole_0 (-itsShare_0) (q_abl x_18) 0 0)]) rfl ?_
                by_cases h_65 : 0 < (w32 (fQ_signOfSum x_62 itsWhole_0 (-itsShare_0) (q_abl x_18) 0 0))
                · refine z_if_le_f (M := M_X3_isCovered) (tgt := 241) dX3_isCovered_234 (by decide) rfl h_65 ?_
                  refine z_iconst (M := M_X3_isCovered) dX3_isCovered_237 ?_
                  refine z_goto (M := M_X3_isCovered) (tgt := 242) dX3_isCovered_238 (by decide) ?_
                  exact z_st (by rw [zv_t (p := ((w32 (fQ_signOfSum x_60 itsWhole_0 (-itsShare_0) (q_abl x_18) 0 0)) ≤ 0) ∧ (0 < (w32 (fQ_signOfSum x_62 itsWhole_0 (-itsShare_0) (q_abl x_18) 0 0)))) ⟨h_64, h_65⟩]) J_63
                · refine z_if_le_t (M := M_X3_isCovered) (tgt := 241) dX3_isCovered_234 (by decide) rfl (Int.not_lt.mp h_65) ?_
                  refine z_iconst (M := M_X3_isCovered) dX3_isCovered_241 ?_
                  exact z_st (by rw [zv_f (p := ((w32 (fQ_signOfSum x_60 itsWhole_0 (-itsShare_0) (q_abl x_18) 0 0)) ≤ 0) ∧ (0 < (w32 (fQ_signOfSum x_62 itsWhole_0 (-itsShare_0) (q_abl x_18) 0 0)))) (fun q => h_65 q.2)]) J_63
              · refine z_if_gt_t (M := M_X3_isCovered) (tgt := 241) dX3_isCovered_215 (by decide) rfl (Int.not_le.mp h_64) ?_
                refine z_iconst (M := M_X3_isCovered) dX3_isCovered_241 ?_
                exact z_st (by rw [zv_f (p := ((w32 (fQ_signOfSum x_60 itsWhole_0 (-itsShare_0) (q_abl x_18) 0 0)) ≤ 0) ∧ (0 < (w32 (fQ_signOfSum x_62 itsWhole_0 (-itsShare_0) (q_abl x_18) 0 0)))) (fun q => h_64 q.1)]) J_63
            refine z_lload (M := M_X3_isCovered) dX3_isCovered_172 rfl ?_
            refine z_lconst (M := M_X3_isCovered) (m := 0) dX3_isCovered_174 (by decide +kernel) ?_
            refine z_lcmp (M := M_X3_isCovered) dX3_isCovered_175 ?_
            by_cases h_66 : 0 < (w64 x_18)
            · refine z_lif_le_f (M := M_X3_isCovered) (tgt := 189) dX3_isCovered_176 (by decide) rfl (by decide +kernel) h_66 ?_
              refine z_lload (M := M_X3_isCovered) dX3_isCovered_179 rfl ?_
              refine z_lload (M := M_X3_isCovered) dX3_isCovered_181 rfl ?_
              refine z_lmax (M := M_X3_isCovered) dX3_isCovered_183 t_1992 t_1993 t_20 t_1994 (Nat.le_of_ble_eq_true rfl) (Nat.le_of_ble_eq_true rfl) (Nat.le_of_ble_eq_true rfl) (Nat.le_of_ble_eq_true rfl) ?_
              refine z_goto (M := M_X3_isCovered) (tgt := 197) dX3_isCovered_186 (by decide) ?_
              exact z_st (by rw [if_pos (c := 0 < (w64 x_18)) h_66]) J_61
            · refine z_lif_le_t (M := M_X3_isCovered) (tgt := 189) dX3_isCovered_176 (by decide) rfl (by decide +kernel) (Int.not_lt.mp h_66) ?_
              refine z_lload (M := M_X3_isCovered) dX3_isCovered_189 rfl ?_
              refine z_lload (M := M_X3_isCovered) dX3_isCovered_191 rfl ?_
              refine z_lmin (M := M_X3_isCovered) dX3_isCovered_193 t_1991 t_934 t_20 t_935 (Nat.le_of_ble_eq_true rfl) (Nat.le_of_ble_eq_true rfl) (Nat.le_of_ble_eq_true rfl) (Nat.le_of_ble_eq_true rfl) ?_
              refine z_lneg (M := M_X3_isCovered) dX3_isCovered_196 ?_
              exact z_st (by rw [if_neg (c := 0 < (w64 x_18)) h_66]) J_61
          refine z_lload (M := M_X3_isCovered) dX3_isCovered_145 rfl ?_
          refine z_lconst (M := M_X3_isCovered) (m := 0) dX3_isCovered_147 (by decide +kernel) ?_
          refine z_lcmp (M := M_X3_isCovered) dX3_isCovered_148 ?_
          by_cases h_67 : 0 < (w64 x_18)
          · refine z_lif_le_f (M := M_X3_isCovered) (tgt := 162) dX3_isCovered_149 (by decide) rfl (by decide +kernel) h_67 ?_
            refine z_lload (M := M_X3_isCovered) dX3_isCovered_152 rfl ?_
            refine z_lload (M := M_X3_isCovered) dX3_isCovered_154 rfl ?_
            refine z_lmin (M := M_X3_isCovered) dX3_isCovered_156 t_1991 t_934 t_20 t_935 (Nat.le_of_ble_eq_true rfl) (Nat.le_of_ble_eq_true rfl) (Nat.le_of_ble_eq_true rfl) (Nat.le_of_ble_eq_true rfl) ?_
            refine z_goto (M := M_X3_isCovered) (tgt := 170) dX3_isCovered_159 (by decide) ?_
            exact z_st (by rw [if_pos (c := 0 < (w64 x_18)) h_67]) J_59
          · refine z_lif_le_t (M := M_X3_isCovered) (tgt := 162) dX3_isCovered_149 (by decide) rfl (by decide +kernel) (Int.not_lt.mp h_67) ?_
            refine z_lload (M := M_X3_isCovered) dX3_isCovered_162 rfl ?_
            refine z_lload (M := M_X3_isCovered) dX3_isCovered_164 rfl ?_
            refine z_lmax (M := M_X3_isCovered) dX3_isCovered_166 t_1992 t_1993 t_20 t_1994 (Nat.le_of_ble_eq_true rfl) (Nat.le_of_ble_eq_true rfl) (Nat.le_of_ble_eq_true rfl) (Nat.le_of_ble_eq_true rfl) ?_
            refine z_lneg (M := M_X3_isCovered) dX3_isCovered_169 ?_
            exact z_st (by rw [if_neg (c := 0 < (w64 x_18)) h_67]) J_59
        have H := he_69
        refine z_zload (M := M_X3_isCovered) dX3_isCovered_91 rfl ?_
        rcases if_e H with ⟨h_47, H⟩ | ⟨h_47, H⟩
        · refine z_zeq_f (M := M_X3_isCovered) (tgt := 121) dX3_isCovered_93 (by decide) h_47 ?_
          refine z_aload_n (M := M_X3_isCovered) dX3_isCovered_96 rfl ?_
          refine z_getR (M := M_X3_isCovered) (ci := 6) (C := RX3) (T := TX3) (Nf := 12) (ty := tyX3) cl6 dX3_isCovered_97 ly_222 0 (by decide) t_442 rfl ?_
          refine z_getR (M := M_X3_isCovered) (ci := 8) (C := RX5) (T := TX5) (Nf := 8) (ty := tyX5) cl8 dX3_isCovered_100 (ly_G (by decide)) 2 (by decide) t_244 rfl ?_
          refine z_iload (M := M_X3_isCovered) dX3_isCovered_103 rfl ?_
          obtain ⟨x_48, x_48_e, hi_49, H⟩ := rd_e H
          refine z_iald (M := M_X3_isCovered) dX3_isCovered_105 ly_226 rfl rfl rfl hi_49 x_48_e ?_
          refine z_i2l (M := M_X3_isCovered) dX3_isCovered_106 ?_
          refine z_aload_n (M := M_X3_isCovered) dX3_isCovered_107 rfl ?_
          refine z_getR (M := M_X3_isCovered) (ci := 6) (C := RX3) (T := TX3) (Nf := 12) (ty := tyX3) cl6 dX3_isCovered_108 ly_222 0 (by decide) t_442 rfl ?_
          refine z_getR (M := M_X3_isCovered) (ci := 8) (C := RX5) (T := TX5) (Nf := 8) (ty := tyX5) cl8 dX3_isCovered_111 (ly_G (by decide)) 0 (by decide) t_236 rfl ?_
          refine z_iload_n (M := M_X3_isCovered) dX3_isCovered_114 rfl ?_
          obtain ⟨x_50, x_50_e, hi_51, H⟩ := rd_e H
          refine z_iald (M := M_X3_isCovered) dX3_isCovered_115 ly_224 rfl rfl rfl hi_51 x_50_e ?_
          refine z_i2l (M := M_X3_isCovered) dX3_isCovered_116 ?_
          refine z_lsub (M := M_X3_isCovered) dX3_isCovered_117 ?_
          refine z_goto (M := M_X3_isCovered) (tgt := 143) dX3_isCovered_118 (by decide) ?_
          exact J_71 _ (Option.some.inj H).symm
        · refine z_zeq_t (M := M_X3_isCovered) (tgt := 121) dX3_isCovered_93 (by decide) h_47 ?_
          refine z_aload_n (M := M_X3_isCovered) dX3_isCovered_121 rfl ?_
          refine z_getR (M := M_X3_isCovered) (ci := 6) (C := RX3) (T := TX3) (Nf := 12) (ty := tyX3) cl6 dX3_isCovered_122 ly_222 0 (by decide) t_442 rfl ?_
          refine z_getR (M := M_X3_isCovered) (ci := 8) (C := RX5) (T := TX5) (Nf := 8) (ty := tyX5) cl8 dX3_isCovered_125 (ly_G (by decide)) 3 (by decide) t_248 rfl ?_
          refine z_iload (M := M_X3_isCovered) dX3_isCovered_128 rfl ?_
          obtain ⟨x_53, x_53_e, hi_54, H⟩ := rd_e H
          refine z_iald (M := M_X3_isCovered) dX3_isCovered_130 ly_227 rfl rfl rfl hi_54 x_53_e ?_
          refine z_i2l (M := M_X3_isCovered) dX3_isCovered_131 ?_
          refine z_aload_n (M := M_X3_isCovered) dX3_isCovered_132 rfl ?_
          refine z_getR (M := M_X3_isCovered) (ci := 6) (C := RX3) (T := TX3) (Nf := 12) (ty := tyX3) cl6 dX3_isCovered_133 ly_222 0 (by decide) t_442 rfl ?_
          refine z_getR (M := M_X3_isCovered) (ci := 8) (C := RX5) (T := TX5) (Nf := 8) (ty := tyX5) cl8 dX3_isCovered_136 (ly_G (by decide)) 1 (by decide) t_240 rfl ?_
          refine z_iload_n (M := M_X3_isCovered) dX3_isCovered_139 rfl ?_
          obtain ⟨x_55, x_55_e, hi_56, H⟩ := rd_e H
          refine z_iald (M := M_X3_isCovered) dX3_isCovered_140 ly_225 rfl rfl rfl hi_56 x_55_e ?_
          refine z_i2l (M := M_X3_isCovered) dX3_isCovered_141 ?_
          refine z_lsub (M := M_X3_isCovered) dX3_isCovered_142 ?_
          exact J_71 _ (Option.some.inj H).symm
      have H := he_73
      refine z_zload (M := M_X3_isCovered) dX3_isCovered_37 rfl ?_
      rcases if_e H with ⟨h_27, H⟩ | ⟨h_27, H⟩
      · refine z_zeq_f (M := M_X3_isCovered) (tgt := 67) dX3_isCovered_39 (by decide) h_27 ?_
        refine z_aload_n (M := M_X3_isCovered) dX3_isCovered_42 rfl ?_
        refine z_getR (M := M_X3_isCovered) (ci := 6) (C := RX3) (T := TX3) (Nf := 12) (ty := tyX3) cl6 dX3_isCovered_43 ly_222 0 (by decide) t_442 rfl ?_
        refine z_getR (M := M_X3_isCovered) (ci := 8) (C := RX5) (T := TX5) (Nf := 8) (ty := tyX5) cl8 dX3_isCovered_46 (ly_G (by decide)) 0 (by decide) t_236 rfl ?_
        refine z_iload (M := M_X3_isCovered) dX3_isCovered_49 rfl ?_
        obtain ⟨x_28, x_28_e, hi_29, H⟩ := rd_e H
        refine z_iald (M := M_X3_isCovered) dX3_isCovered_51 ly_224 rfl rfl rfl hi_29 x_28_e ?_
        refine z_i2l (M := M_X3_isCovered) dX3_isCovered_52 ?_
        refine z_aload_n (M := M_X3_isCovered) dX3_isCovered_53 rfl ?_
        refine z_getR (M := M_X3_isCovered) (ci := 6) (C := RX3) (T := TX3) (Nf := 12) (ty := tyX3) cl6 dX3_isCovered_54 ly_222 0 (by decide) t_442 rfl ?_
        refine z_getR (M := M_X3_isCovered) (ci := 8) (C := RX5) (T := TX5) (Nf := 8) (ty := tyX5) cl8 dX3_isCovered_57 (ly_G (by decide)) 0 (by decide) t_236 rfl ?_
        refine z_iload_n (M := M_X3_isCovered) dX3_isCovered_60 rfl ?_
        obtain ⟨x_30, x_30_e, hi_31, H⟩ := rd_e H
        refine z_iald (M := M_X3_isCovered) dX3_isCovered_61 ly_224 rfl rfl rfl hi_31 x_30_e ?_
        refine z_i2l (M := M_X3_isCovered) dX3_isCovered_62 ?_
        refine z_lsub (M := M_X3_isCovered) dX3_isCovered_63 ?_
        refine z_goto (M := M_X3_isCovered) (tgt := 89) dX3_isCovered_64 (by decide) ?_
        exact J_75 _ (Option.some.inj H).symm
      · refine z_zeq_t (M := M_X3_isCovered) (tgt := 67) dX3_isCovered_39 (by decide) h_27 ?_
        refine z_aload_n (M := M_X3_isCovered) dX3_isCovered_67 rfl ?_
        refine z_getR (M := M_X3_isCovered) (ci := 6) (C := RX3) (T := TX3) (Nf := 12) (ty := tyX3) cl6 dX3_isCovered_68 ly_222 0 (by decide) t_442 rfl ?_
        refine z_getR (M := M_X3_isCovered) (ci := 8) (C := RX5) (T := TX5) (Nf := 8) (ty := tyX5) cl8 dX3_isCovered_71 (ly_G (by decide)) 1 (by decide) t_240 rfl ?_
        refine z_iload (M := M_X3_isCovered) dX3_isCovered_74 rfl ?_
        obtain ⟨x_33, x_33_e, hi_34, H⟩ := rd_e H
        refine z_iald (M := M_X3_isCovered) dX3_isCovered_76 ly_225 rfl rfl rfl hi_34 x_33_e ?_
        refine z_i2l (M := M_X3_isCovered) dX3_isCovered_77 ?_
        refine z_aload_n (M := M_X3_isCovered) dX3_isCovered_78 rfl ?_
        refine z_getR (M := M_X3_isCovered) (ci := 6) (C := RX3) (T := TX3) (Nf := 12) (ty := tyX3) cl6 dX3_isCovered_79 ly_222 0 (by decide) t_442 rfl ?_
        refine z_getR (M := M_X3_isCovered) (ci := 8) (C := RX5) (T := TX5) (Nf := 8) (ty := tyX5) cl8 dX3_isCovered_82 (ly_G (by decide)) 1 (by decide) t_240 rfl ?_
        refine z_iload_n (M := M_X3_isCovered) dX3_isCovered_85 rfl ?_
        obtain ⟨x_35, x_35_e, hi_36, H⟩ := rd_e H
        refine z_iald (M := M_X3_isCovered) dX3_isCovered_86 ly_225 rfl rfl rfl hi_36 x_35_e ?_
        refine z_i2l (M := M_X3_isCovered) dX3_isCovered_87 ?_
        refine z_lsub (M := M_X3_isCovered) dX3_isCovered_88 ?_
        exact J_75 _ (Option.some.inj H).symm
    have H := he_77
    refine z_zload (M := M_X3_isCovered) dX3_isCovered_17 rfl ?_
    rcases if_e H with ⟨h_11, H⟩ | ⟨h_11, H⟩
    · refine z_zeq_f (M := M_X3_isCovered) (tgt := 30) dX3_isCovered_19 (by decide) h_11 ?_
      refine z_aload_n (M := M_X3_isCovered) dX3_isCovered_22 rfl ?_
      refine z_iload_n (M := M_X3_isCovered) dX3_isCovered_23 rfl ?_
      obtain ⟨x_13, hc_12, H⟩ := bd_e H
      refine z_callV (M := M_X3_isCovered) (M' := M_X3_wayX) (as := [vi i_0]) (rest := []) rfl rfl dX3_isCovered_24 m_X3_wayX t_1960 t_1962 s_112 (c_X3_wayX hl  hc_12) rfl rfl ly_222 rfl (Nat.le_of_ble_eq_true rfl) (Nat.le_of_ble_eq_true rfl) (Nat.le_of_ble_eq_true rfl) (Nat.le_of_ble_eq_true rfl) ?_
      refine z_st (st' := [vl x_13]) rfl ?_
      refine z_goto (M := M_X3_isCovered) (tgt := 35) dX3_isCovered_27 (by decide) ?_
      exact J_79 _ (Option.some.inj H).symm
    · refine z_zeq_t (M := M_X3_isCovered) (tgt := 30) dX3_isCovered_19 (by decide) h_11 ?_
      refine z_aload_n (M := M_X3_isCovered) dX3_isCovered_30 rfl ?_
      refine z_iload_n (M := M_X3_isCovered) dX3_isCovered_31 rfl ?_
      obtain ⟨x_16, hc_15, H⟩ := bd_e H
      refine z_callV (M := M_X3_isCovered) (M' := M_X3_wayY) (as := [vi i_0]) (rest := []) rfl rfl dX3_isCovered_32 m_X3_wayY t_1965 t_1967 s_113 (c_X3_wayY hl  hc_15) rfl rfl ly_222 rfl (Nat.le_of_ble_eq_true rfl) (Nat.le_of_ble_eq_true rfl) (Nat.le_of_ble_eq_true rfl) (Nat.le_of_ble_eq_true rfl) ?_
      refine z_st (st' := [vl x_16]) rfl ?_
      exact J_79 _ (Option.some.inj H).symm
  have H := he_81
  refine z_aload_n (M := M_X3_isCovered) dX3_isCovered_0 rfl ?_
  refine z_iload_n (M := M_X3_isCovered) dX3_isCovered_1 rfl ?_
  obtain ⟨x_2, hc_1, H⟩ := bd_e H
  refine z_callV (M := M_X3_isCovered) (M' := M_X3_wayX) (as := [vi i_0]) (rest := []) rfl rfl dX3_isCovered_2 m_X3_wayX t_1960 t_1962 s_112 (c_X3_wayX hl  hc_1) rfl rfl ly_222 rfl (Nat.le_of_ble_eq_true rfl) (Nat.le_of_ble_eq_true rfl) (Nat.le_of_ble_eq_true rfl) (Nat.le_of_ble_eq_true rfl) ?_
  refine z_st (st' := [vl x_2]) rfl ?_
  refine z_lconst (M := M_X3_isCovered) (m := 0) dX3_isCovered_5 (by decide +kernel) ?_
  refine z_lcmp (M := M_X3_isCovered) dX3_isCovered_6 ?_
  rcases if_e H with ⟨h_3, H⟩ | ⟨h_3, H⟩
  · refine z_lif_eq_f (M := M_X3_isCovered) (tgt := 14) dX3_isCovered_7 (by decide) rfl (by decide +kernel) h_3 ?_
    refine z_zconst (M := M_X3_isCovered) (b := true) dX3_isCovered_10 rfl ?_
    refine z_goto (M := M_X3_isCovered) (tgt := 15) dX3_isCovered_11 (by decide) ?_
    exact J_83 _ (Option.some.inj H).symm
  · refine z_lif_eq_t (M := M_X3_isCovered) (tgt := 14) dX3_isCovered_7 (by decide) rfl (by decide +kernel) (Decidable.not_not.mp h_3) ?_
    refine z_zconst (M := M_X3_isCovered) (b := false) dX3_isCovered_14 rfl ?_
    exact J_83 _ (Option.some.inj H).symm
theorem c_X3_countSegment (hl : l.stackTraces = false) {σ : SG} {i_0 : Int} {itsShare_0 : Int} {itsWhole_0 : Int} {k_0 : Int} {σ' : SG}  (H : fT_countSegment σ i_0 itsShare_0 itsWhole_0 k_0 = some σ') : en_S l E M_X3_countSegment 4 0 0 [vr 222, vi i_0, vl itsShare_0, vl itsWhole_0, vi k_0] σ (pS (none) σ') := by
  unfold fT_countSegment at H
  refine z_mk (lv := [some (vr 222), some (vi i_0), some (vl itsShare_0), none, some (vl itsWhole_0), none, some (vi k_0), none, none, none, none, none, none, none, none]) m_X3_countSegment rfl hl (Nat.le_of_ble_eq_true rfl) rfl ?_
  refine z_aload_n (M := M_X3_countSegment) dX3_countSegment_0 rfl ?_
  refine z_getR (M := M_X3_countSegment) (ci := 6) (C := RX3) (T := TX3) (Nf := 12) (ty := tyX3) cl6 dX3_countSegment_1 ly_222 0 (by decide) t_442 rfl ?_
  refine z_getR (M := M_X3_countSegment) (ci := 8) (C := RX5) (T := TX5) (Nf := 8) (ty := tyX5) cl8 dX3_countSegment_4 (ly_G (by decide)) 4 (by decide) t_253 rfl ?_
  refine z_iload (M := M_X3_countSegment) dX3_countSegment_7 rfl ?_
  obtain ⟨x_1, x_1_e, hi_2, H⟩ := rd_e H
  refine z_iald (M := M_X3_countSegment) dX3_countSegment_9 ly_228 rfl rfl rfl hi_2 x_1_e ?_
  refine z_istore (M := M_X3_countSegment) (lv' := [some (vr 222), some (vi i_0), some (vl itsShare_0), none, some (vl itsWhole_0), none, some (vi k_0), some (vi x_1), none, none, none, none, none, none, none]) dX3_countSegment_10 (Nat.le_of_ble_eq_true rfl) rfl rfl ?_
  refine z_aload_n (M := M_X3_countSegment) dX3_countSegment_12 rfl ?_
  refine z_aload_n (M := M_X3_countSegment) dX3_countSegment_13 rfl ?_
  refine z_getR (M := M_X3_countSegment) (ci := 6) (C := RX3) (T := TX3) (Nf := 12) (ty := tyX3) cl6 dX3_countSegment_14 ly_222 0 (by decide) t_442 rfl ?_
  refine z_getR (M := M_X3_countSegment) (ci := 8) (C := RX5) (T := TX5) (Nf := 8) (ty := tyX5) cl8 dX3_countSegment_17 (ly_G (by decide)) 1 (by decide) t_240 rfl ?_
  refine z_iload (M := M_X3_countSegment) dX3_countSegment_20 rfl ?_
  obtain ⟨x_3, x_3_e, hi_4, H⟩ := rd_e H
  refine z_iald (M := M_X3_countSegment) dX3_countSegment_22 ly_225 rfl rfl rfl hi_4 x_3_e ?_
  refine z_iload_n (M := M_X3_countSegment) dX3_countSegment_23 rfl ?_
  refine z_lload_n (M := M_X3_countSegment) dX3_countSegment_24 rfl ?_
  refine z_lload (M := M_X3_countSegment) dX3_countSegment_25 rfl ?_
  obtain ⟨x_6, hc_5, H⟩ := bd_e H
  refine z_callV (M := M_X3_countSegment) (M' := M_X3_isAbove) (as := [vi x_3, vi i_0, vl itsShare_0, vl itsWhole_0]) (rest := []) rfl rfl dX3_countSegment_27 m_X3_isAbove t_1982 t_1984 s_116 (c_X3_isAbove hl  hc_5) rfl rfl ly_222 rfl (Nat.le_of_ble_eq_true rfl) (Nat.le_of_ble_eq_true rfl) (Nat.le_of_ble_eq_true rfl) (Nat.le_of_ble_eq_true rfl) ?_
  refine z_st (st' := [zv x_6]) rfl ?_
  refine z_zstore (M := M_X3_countSegment) (lv' := [some (vr 222), some (vi i_0), some (vl itsShare_0), none, some (vl itsWhole_0), none, some (vi k_0), some (vi x_1), some (zv x_6), none, none, none, none, none, none]) dX3_countSegment_30 (Nat.le_of_ble_eq_true rfl) rfl rfl ?_
  refine z_aload_n (M := M_X3_countSegment) dX3_countSegment_32 rfl ?_
  refine z_aload_n (M := M_X3_countSegment) dX3_countSegment_33 rfl ?_
  refine z_getR (M := M_X3_countSegment) (ci := 6) (C := RX3) (T := TX3) (Nf := 12) (ty := tyX3) cl6 dX3_countSegment_34 ly_222 0 (by decide) t_442 rfl ?_
  refine z_getR (M := M_X3_countSegment) (ci := 8) (C := RX5) (T := TX5) (Nf := 8) (ty := tyX5) cl8 dX3_countSegment_37 (ly_G (by decide)) 3 (by decide) t_248 rfl ?_
  refine z_iload (M := M_X3_countSegment) dX3_countSegment_40 rfl ?_
  obtain ⟨x_7, x_7_e, hi_8, H⟩ := rd_e H
  refine z_iald (M := M_X3_countSegment) dX3_countSegment_42 ly_227 rfl rfl rfl hi_8 x_7_e ?_
  refine z_iload_n (M := M_X3_countSegment) dX3_countSegment_43 rfl ?_
  refine z_lload_n (M := M_X3_countSegment) dX3_countSegment_44 rfl ?_
  refine z_lload (M := M_X3_countSegment) dX3_countSegment_45 rfl ?_
  obtain ⟨x_10, hc_9, H⟩ := bd_e H
  refine z_callV (M := M_X3_countSegment) (M' := M_X3_isAbove) (as := [vi x_7, vi i_0, vl itsShare_0, vl itsWhole_0]) (rest := []) rfl rfl dX3_countSegment_47 m_X3_isAbove t_1982 t_1984 s_116 (c_X3_isAbove hl  hc_9) rfl rfl ly_222 rfl (Nat.le_of_ble_eq_true rfl) (Nat.le_of_ble_eq_true rfl) (Nat.le_of_ble_eq_true rfl) (Nat.le_of_ble_eq_true rfl) ?_
  refine z_st (st' := [zv x_10]) rfl ?_
  refine z_zstore (M := M_X3_countSegment) (lv' := [some (vr 222), some (vi i_0), some (vl itsShare_0), none, some (vl itsWhole_0), none, some (vi k_0), some (vi x_1), some (zv x_6), some (zv x_10), none, none, none, none, none]) dX3_countSegment_50 (Nat.le_of_ble_eq_true rfl) rfl rfl ?_
  refine z_aload_n (M := M_X3_countSegment) dX3_countSegment_52 rfl ?_
  refine z_iload (M := M_X3_countSegment) dX3_countSegment_53 rfl ?_
  obtain ⟨x_12, hc_11, H⟩ := bd_e H
  refine z_callV (M := M_X3_countSegment) (M' := M_X3_wayX) (as := [vi k_0]) (rest := []) rfl rfl dX3_countSegment_55 m_X3_wayX t_1960 t_1962 s_112 (c_X3_wayX hl  hc_11) rfl rfl ly_222 rfl (Nat.le_of_ble_eq_true rfl) (Nat.le_of_ble_eq_true rfl) (Nat.le_of_ble_eq_true rfl) (Nat.le_of_ble_eq_true rfl) ?_
  refine z_st (st' := [vl x_12]) rfl ?_
  refine z_aload_n (M := M_X3_countSegment) dX3_countSegment_58 rfl ?_
  refine z_iload_n (M := M_X3_countSegment) dX3_countSegment_59 rfl ?_
  obtain ⟨x_14, hc_13, H⟩ := bd_e H
  refine z_callV (M := M_X3_countSegment) (M' := M_X3_wayY) (as := [vi i_0]) (rest := [vl x_12]) rfl rfl dX3_countSegment_60 m_X3_wayY t_1965 t_1967 s_113 (c_X3_wayY hl  hc_13) rfl rfl ly_222 rfl (Nat.le_of_ble_eq_true rfl) (Nat.le_of_ble_eq_true rfl) (Nat.le_of_ble_eq_true rfl) (Nat.le_of_ble_eq_true rfl) ?_
  refine z_st (st' := [vl x_14, vl x_12]) rfl ?_
  refine z_lmul (M := M_X3_countSegment) dX3_countSegment_63 ?_
  refine z_aload_n (M := M_X3_countSegment) dX3_countSegment_64 rfl ?_
  refine z_iload (M := M_X3_countSegment) dX3_countSegment_65 rfl ?_
  obtain ⟨x_16, hc_15, H⟩ := bd_e H
  refine z_callV (M := M_X3_countSegment) (M' := M_X3_wayY) (as := [vi k_0]) (rest := [vl (x_12 * x_14)]) rfl rfl dX3_countSegment_67 m_X3_wayY t_1965 t_1967 s_113 (c_X3_wayY hl  hc_15) rfl rfl ly_222 rfl (Nat.le_of_ble_eq_true rfl) (Nat.le_of_ble_eq_true rfl) (Nat.le_of_ble_eq_true rfl) (Nat.le_of_ble_eq_true rfl) ?_
  refine z_st (st' := [vl x_16, vl (x_12 * x_14)]) rfl ?_
  refine z_aload_n (M := M_X3_countSegment) dX3_countSegment_70 rfl ?_
  refine z_iload_n (M := M_X3_countSegment) dX3_countSegment_71 rfl ?_
  obtain ⟨x_18, hc_17, H⟩ := bd_e H
  refine z_callV (M := M_X3_countSegment) (M' := M_X3_wayX) (as := [vi i_0]) (rest := [vl x_16, vl (x_12 * x_14)]) rfl rfl dX3_countSegment_72 m_X3_wayX t_1960 t_1962 s_112 (c_X3_wayX hl  hc_17) rfl rfl ly_222 rfl (Nat.le_of_ble_eq_true rfl) (Nat.le_of_ble_eq_true rfl) (Nat.le_of_ble_eq_true rfl) (Nat.le_of_ble_eq_true rfl) ?_
  refine z_st (st' := [vl x_18, vl x_16, vl (x_12 * x_14)]) rfl ?_
  refine z_lmul (M := M_X3_countSegment) dX3_countSegment_75 ?_
  refine z_lsub (M := M_X3_countSegment) dX3_countSegment_76 ?_
  refine z_lstore (M := M_X3_countSegment) (lv' := [some (vr 222), some (vi i_0), some (vl itsShare_0), none, some (vl itsWhole_0), none, some (vi k_0), some (vi x_1), some (zv x_6), some (zv x_10), some (vl ((x_12 * x_14) - (x_16 * x_18))), none, none, none, none]) dX3_countSegment_77 (Nat.le_of_ble_eq_true rfl) rfl rfl ?_
  refine z_aload_n (M := M_X3_countSegment) dX3_countSegment_79 rfl ?_
  refine z_iload (M := M_X3_countSegment) dX3_countSegment_80 rfl ?_
  obtain ⟨x_20, hc_19, H⟩ := bd_e H
  refine z_callV (M := M_X3_countSegment) (M' := M_X3_wayX) (as := [vi k_0]) (rest := []) rfl rfl dX3_countSegment_82 m_X3_wayX t_1960 t_1962 s_112 (c_X3_wayX hl  hc_19) rfl rfl ly_222 rfl (Nat.le_of_ble_eq_true rfl) (Nat.le_of_ble_eq_true rfl) (Nat.le_of_ble_eq_true rfl) (Nat.le_of_ble_eq_true rfl) ?_
  refine z_st (st' := [vl x_20]) rfl ?_
  refine z_aload_n (M := M_X3_countSegment) dX3_countSegment_85 rfl ?_
  refine z_getR (M := M_X3_countSegment) (ci := 6) (C := RX3) (T := TX3) (Nf := 12) (ty := tyX3) cl6 dX3_countSegment_86 ly_222 0 (by decide) t_442 rfl ?_
  refine z_getR (M := M_X3_countSegment) (ci := 8) (C := RX5) (T := TX5) (Nf := 8) (ty := tyX5) cl8 dX3_countSegment_89 (ly_G (by decide)) 1 (by decide) t_240 rfl ?_
  refine z_iload_n (M := M_X3_countSegment) dX3_countSegment_92 rfl ?_
  obtain ⟨x_21, x_21_e, hi_22, H⟩ := rd_e H
  refine z_iald (M := M_X3_countSegment) dX3_countSegment_93 ly_225 rfl rfl rfl hi_22 x_21_e ?_
  refine z_i2l (M := M_X3_countSegment) dX3_countSegment_94 ?_
  refine z_aload_n (M := M_X3_countSegment) dX3_countSegment_95 rfl ?_
  refine z_getR (M := M_X3_countSegment) (ci := 6) (C := RX3) (T := TX3) (Nf := 12) (ty := tyX3) cl6 dX3_countSegment_96 ly_222 0 (by decide) t_442 rfl ?_
  refine z_getR (M := M_X3_countSegment) (ci := 8) (C := RX5) (T := TX5) (Nf := 8) (ty := tyX5) cl8 dX3_countSegment_99 (ly_G (by decide)) 1 (by decide) t_240 rfl ?_
  refine z_iload (M := M_X3_countSegment) dX3_countSegment_102 rfl ?_
  obtain ⟨x_23, x_23_e, hi_24, H⟩ := rd_e H
  refine z_iald (M := M_X3_countSegment) dX3_countSegment_104 ly_225 rfl rfl rfl hi_24 x_23_e ?_
  refine z_i2l (M := M_X3_countSegment) dX3_countSegment_105 ?_
  refine z_lsub (M := M_X3_countSegment) dX3_countSegment_106 ?_
  refine z_lmul (M := M_X3_countSegment) dX3_countSegment_107 ?_
  refine z_aload_n (M := M_X3_countSegment) dX3_countSegment_108 rfl ?_
  refine z_iload (M := M_X3_countSegment) dX3_countSegment_109 rfl ?_
  obtain ⟨x_26, hc_25, H⟩ := bd_e H
  refine z_callV (M := M_X3_countSegment) (M' := M_X3_wayY) (as := [vi k_0]) (rest := [vl (x_20 * ((w32 x_21) - (w32 x_23)))]) rfl rfl dX3_countSegment_111 m_X3_wayY t_1965 t_1967 s_113 (c_X3_wayY hl  hc_25) rfl rfl ly_222 rfl (Nat.le_of_ble_eq_true rfl) (Nat.le_of_ble_eq_true rfl) (Nat.le_of_ble_eq_true rfl) (Nat.le_of_ble_eq_true rfl) ?_
  refine z_st (st' := [vl x_26, vl (x_20 * ((w32 x_21) - (w32 x_23)))]) rfl ?_
  refine z_aload_n (M := M_X3_countSegment) dX3_countSegment_114 rfl ?_
  refine z_getR (M := M_X3_countSegment) (ci := 6) (C := RX3) (T := TX3) (Nf := 12) (ty := tyX3) cl6 dX3_countSegment_115 ly_222 0 (by decide) t_442 rfl ?_
  refine z_getR (M := M_X3_countSegment) (ci := 8) (C := RX5) (T := TX5) (Nf := 8) (ty := tyX5) cl8 dX3_countSegment_118 (ly_G (by decide)) 0 (by decide) t_236 rfl ?_
  refine z_iload_n (M := M_X3_countSegment) dX3_countSegment_121 rfl ?_
  obtain ⟨x_27, x_27_e, hi_28, H⟩ := rd_e H
  refine z_iald (M := M_X3_countSegment) dX3_countSegment_122 ly_224 rfl rfl rfl hi_28 x_27_e ?_
  refine z_i2l (M := M_X3_countSegment) dX3_countSegment_123 ?_
  refine z_aload_n (M := M_X3_countSegment) dX3_countSegment_124 rfl ?_
  refine z_getR (M := M_X3_countSegment) (ci := 6) (C := RX3) (T := TX3) (Nf := 12) (ty := tyX3) cl6 dX3_countSegment_125 ly_222 0 (by decide) t_442 rfl ?_
  refine z_getR (M := M_X3_countSegment) (ci := 8) (C := RX5) (T := TX5) (Nf := 8) (ty := tyX5) cl8 dX3_countSegment_128 (ly_G (by decide)) 0 (by decide) t_236 rfl ?_
  refine z_iload (M := M_X3_countSegment) dX3_countSegment_131 rfl ?_
  obtain ⟨x_29, x_29_e, hi_30, H⟩ := rd_e H
  refine z_iald (M := M_X3_countSegment) dX3_countSegment_133 ly_224 rfl rfl rfl hi_30 x_29_e ?_
  refine z_i2l (M := M_X3_countSegment) dX3_countSegment_134 ?_
  refine z_lsub (M := M_X3_countSegment) dX3_countSegment_135 ?_
  refine z_lmul (M := M_X3_countSegment) dX3_countSegment_136 ?_
  refine z_lsub (M := M_X3_countSegment) dX3_countSegment_137 ?_
  obtain ⟨x_31, x_31_e, H⟩ := lt_e H
  refine z_st (congrArg (fun z => vl z :: []) x_31_e) ?_
  refine z_lstore (M := M_X3_countSegment) (lv' := [some (vr 222), some (vi i_0), some (vl itsShare_0), none, some (vl itsWhole_0), none, some (vi k_0), some (vi x_1), some (zv x_6), some (zv x_10), some (vl ((x_12 * x_14) - (x_16 * x_18))), none, some (vl x_31), none, none]) dX3_countSegment_138 (Nat.le_of_ble_eq_true rfl) rfl rfl ?_
  obtain ⟨v_35, he_32, hk_33⟩ := bd_e H
  have J_96 : ∀ σ_59, v_35 = σ_59 → YY l E M_X3_countSegment 4 0 0 (pS (none) σ') 182 [some (vr 222), some (vi i_0), some (vl itsShare_0), none, some (vl itsWhole_0), none, some (vi k_0), some (vi x_1), some (zv x_6), some (zv x_10), some (vl ((x_12 * x_14) - (x_16 * x_18))), none, some (vl x_31), none, none] [] σ_59 0 0 := by
    intro σ_59 e
    have H := hk_33
    rw [e] at H
    refine z_zload (M := M_X3_countSegment) dX3_countSegment_182 rfl ?_
    refine z_zload (M := M_X3_countSegment) dX3_countSegment_184 rfl ?_
    rcases if_e H with ⟨h_60, H⟩ | ⟨h_60, H⟩
    · refine z_cne_f (M := M_X3_countSegment) (tgt := 190) dX3_countSegment_186 (by decide)  h_60 ?_
      cases H
      exact z_vret (M := M_X3_countSegment) dX3_countSegment_189 rfl (Nat.le_of_ble_eq_true rfl) (Nat.le_of_ble_eq_true rfl) ⟨rfl, rfl⟩
    · refine z_cne_t (M := M_X3_countSegment) (tgt := 190) dX3_countSegment_186 (by decide)  h_60 ?_
      refine z_lload (M := M_X3_countSegment) dX3_countSegment_190 rfl ?_
      refine z_lload (M := M_X3_countSegment) dX3_countSegment_192 rfl ?_
      refine z_lload (M := M_X3_countSegment) dX3_countSegment_194 rfl ?_
      refine z_lload_n (M := M_X3_countSegment) dX3_countSegment_196 rfl ?_
      refine z_lconst (M := M_X3_countSegment) (m := 0) dX3_countSegment_197 (by decide +kernel) ?_
      refine z_lconst (M := M_X3_countSegment) (m := 0) dX3_countSegment_198 (by decide +kernel) ?_
      refine z_callSN (M := M_X3_countSegment) (M' := M_X11_signOfSum) (as := [vl x_31, vl itsWhole_0, vl ((x_12 * x_14) - (x_16 * x_18)), vl itsShare_0, vl 0, vl 0]) (rest := []) rfl rfl dX3_countSegment_199 m_X11_signOfSum n_1937 t_1938 (c_X11_signOfSum hl  rfl) rfl rfl (Nat.le_of_ble_eq_true rfl) (Nat.le_of_ble_eq_true rfl) (Nat.le_of_ble_eq_true rfl) (Nat.le_of_ble_eq_true rfl) ?_
      refine z_st (st' := [vi (fQ_signOfSum x_31 itsWhole_0 ((x_12 * x_14) - (x_16 * x_18)) itsShare_0 0 0)]) rfl ?_
      obtain ⟨x_61, x_61_e, H⟩ := lt_e H
      refine z_st (congrArg (fun z => vi z :: []) x_61_e) ?_
      refine z_istore (M := M_X3_countSegment) (lv' := [some (vr 222), some (vi i_0), some (vl itsShare_0), none, some (vl itsWhole_0), none, some (vi k_0), some (vi x_1), some (zv x_6), some (zv x_10), some (vl ((x_12 * x_14) - (x_16 * x_18))), none, some (vl x_31), none, some (vi x_61)]) dX3_countSegment_202 (Nat.le_of_ble_eq_true rfl) rfl rfl ?_
      obtain ⟨v_65, he_62, hk_63⟩ := bd_e H
      have J_95 : ∀ turn_69, v_65 = turn_69 → YY l E M_X3_countSegment 4 0 0 (pS (none) σ') 217 [some (vr 222), some (vi i_0), some (vl itsShare_0), none, some (vl itsWhole_0), none, some (vi k_0), some (vi x_1), some (zv x_6), some (zv x_10), some (vl ((x_12 * x_14) - (x_16 * x_18))), none, some (vl x_31), none, some (vi turn_69)] [] σ_59 0 0 := by
        intro turn_69 e
        have H := hk_63
        rw [e] at H
        obtain ⟨v_73, he_70, hk_71⟩ := bd_e H
        have J_94 : ∀ turn_85, v_73 = turn_85 → YY l E M_X3_countSegment 4 0 0 (pS (none) σ') 253 [some (vr 222), some (vi i_0), some (vl itsShare_0), none, some (vl itsWhole_0), none, some (vi k_0), some (vi x_1), some (zv x_6), some (zv x_10), some (vl ((x_12 * x_14) - (x_16 * x_18))), none, some (vl x_31), none, some (vi turn_85)] [] σ_59 0 0 := by
          intro turn_85 e
          have H := hk_71
          rw [e] at H
          refine z_aload_n (M := M_X3_countSegment) dX3_countSegment_253 rfl ?_
          refine z_getR (M := M_X3_countSegment) (ci := 6) (C := RX3) (T := TX3) (Nf := 12) (ty := tyX3) cl6 dX3_countSegment_254 ly_222 11 (by decide) t_453 rfl ?_
          refine z_iload (M := M_X3_countSegment) dX3_countSegment_257 rfl ?_
          refine z_dup2 (M := M_X3_countSegment) dX3_countSegment_259 rfl rfl ?_
          obtain ⟨x_86, x_86_e, hi_87, H⟩ := rd_e H
          refine z_iald (M := M_X3_countSegment) dX3_countSegment_260 ly_237 rfl rfl rfl hi_87 x_86_e ?_
          have J_88 : YY l E M_X3_countSegment 4 0 0 (pS (none) σ') 284 [some (vr 222), some (vi i_0), some (vl itsShare_0), none, some (vl itsWhole_0), none, some (vi k_0), some (vi x_1), some (zv x_6), some (zv x_10), some (vl ((x_12 * x_14) - (x_16 * x_18))), none, some (vl x_31), none, some (vi turn_85)] [vi (if ((x_10 = true) ∧ (0 < (w32 turn_85))) ∨ (¬ (x_10 = true) ∧ ((w32 turn_85) < 0)) then 1 else 0), vi x_86, vi x_1, vr 237] σ_59 0 0 := by
            refine z_iadd (M := M_X3_countSegment) dX3_countSegment_284 ?_
            obtain ⟨σ_89, σ_89_e, hi_90, H⟩ := wa_e H
            refine z_iast (M := M_X3_countSegment) dX3_countSegment_285 ly_237 rfl rfl rfl hi_90 σ_89_e ?_
            cases H
            exact z_vret (M := M_X3_countSegment) dX3_countSegment_286 rfl (Nat.le_of_ble_eq_true rfl) (Nat.le_of_ble_eq_true rfl) ⟨rfl, rfl⟩
          refine z_zload (M := M_X3_countSegment) dX3_countSegment_261 rfl ?_
          by_cases h_91 : x_10 = true
          · refine z_zeq_f (M := M_X3_countSegment) (tgt := 274) dX3_countSegment_263 (by decide) h_91 ?_
            refine z_iload (M := M_X3_countSegment) dX3_countSegment_266 rfl ?_
            by_cases h_92 : 0 < (w32 turn_85)
            · refine z_if_le_f (M := M_X3_countSegment) (tgt := 283) dX3_countSegment_268 (by decide) rfl h_92 ?_
              refine z_goto (M := M_X3_countSegment) (tgt := 279) dX3_countSegment_271 (by decide) ?_
              refine z_iconst (M := M_X3_countSegment) dX3_countSegment_279 ?_
              refine z_goto (M := M_X3_countSegment) (tgt := 284) dX3_countSegment_280 (by decide) ?_
              exact z_st (by rw [if_pos (c := ((x_10 = true) ∧ (0 < (w32 turn_85))) ∨ (¬ (x_10 = true) ∧ ((w32 turn_85) < 0))) (Or.inl ⟨h_91, h_92⟩)]) J_88
            · refine z_if_le_t (M := M_X3_countSegment) (tgt := 283) dX3_countSegment_268 (by decide) rfl (Int.not_lt.mp h_92) ?_
              refine z_iconst (M := M_X3_countSegment) dX3_countSegment_283 ?_
              exact z_st (by rw [if_neg (c := ((x_10 = true) ∧ (0 < (w32 turn_85))) ∨ (¬ (x_10 = true) ∧ ((w32 turn_85) < 0))) (fun q => q.elim (fun z => h_92 z.2) (fun z => z.1 h_91))]) J_88
          · refine z_zeq_t (M := M_X3_countSegment) (tgt := 274) dX3_countSegment_263 (by decide) h_91 ?_
            refine z_iload (M := M_X3_countSegment) dX3_countSegment_274 rfl ?_
            by_cases h_93 : (w32 turn_85) < 0
            · refine z_if_ge_f (M := M_X3_countSegment) (tgt := 283) dX3_countSegment_276 (by decide) rfl h_93 ?_
              refine z_iconst (M := M_X3_countSegment) dX3_countSegment_279 ?_
              refine z_goto (M := M_X3_countSegment) (tgt := 284) dX3_countSegment_280 (by decide) ?_
              exact z_st (by rw [if_pos (c := ((x_10 = true) ∧ (0 < (w32 turn_85))) ∨ (¬ (x_10 = true) ∧ ((w32 turn_85) < 0))) (Or.inr ⟨h_91, h_93⟩)]) J_88
            · refine z_if_ge_t (M := M_X3_countSegment) (tgt := 283) dX3_countSegment_276 (by decide) rfl (Int.not_lt.mp h_93) ?_
              refine z_iconst (M := M_X3_countSegment) dX3_countSegment_283 ?_
              exact z_st (by rw [if_neg (c := ((x_10 = true) ∧ (0 < (w32 turn_85))) ∨ (¬ (x_10 = true) ∧ ((w32 turn_85) < 0))) (fun q => q.elim (fun z => h_91 z.1) (fun z => h_93 z.2))]) J_88
        have H := he_70
        refine z_iload (M := M_X3_countSegment) dX3_countSegment_217 rfl ?_
        rcases if_e H with ⟨h_74, H⟩ | ⟨h_74, H⟩
        · refine z_if_ne_f (M := M_X3_countSegment) (tgt := 253) dX3_countSegment_219 (by decide) rfl h_74 ?_
          refine z_aload_n (M := M_X3_countSegment) dX3_countSegment_222 rfl ?_
          refine z_iload (M := M_X3_countSegment) dX3_countSegment_223 rfl ?_
          obtain ⟨x_76, hc_75, H⟩ := bd_e H
          refine z_callV (M := M_X3_countSegment) (M' := M_X3_wayX) (as := [vi k_0]) (rest := []) rfl rfl dX3_countSegment_225 m_X3_wayX t_1960 t_1962 s_112 (c_X3_wayX hl  hc_75) rfl rfl ly_222 rfl (Nat.le_of_ble_eq_true rfl) (Nat.le_of_ble_eq_true rfl) (Nat.le_of_ble_eq_true rfl) (Nat.le_of_ble_eq_true rfl) ?_
          refine z_st (st' := [vl x_76]) rfl ?_
          refine z_aload_n (M := M_X3_countSegment) dX3_countSegment_228 rfl ?_
          refine z_iload_n (M := M_X3_countSegment) dX3_countSegment_229 rfl ?_
          obtain ⟨x_78, hc_77, H⟩ := bd_e H
          refine z_callV (M := M_X3_countSegment) (M' := M_X3_wayX) (as := [vi i_0]) (rest := [vl x_76]) rfl rfl dX3_countSegment_230 m_X3_wayX t_1960 t_1962 s_112 (c_X3_wayX hl  hc_77) rfl rfl ly_222 rfl (Nat.le_of_ble_eq_true rfl) (Nat.le_of_ble_eq_true rfl) (Nat.le_of_ble_eq_true rfl) (Nat.le_of_ble_eq_true rfl) ?_
          refine z_st (st' := [vl x_78, vl x_76]) rfl ?_
          refine z_lmul (M := M_X3_countSegment) dX3_countSegment_233 ?_
          refine z_aload_n (M := M_X3_countSegment) dX3_countSegment_234 rfl ?_
          refine z_iload (M := M_X3_countSegment) dX3_countSegment_235 rfl ?_
          obtain ⟨x_80, hc_79, H⟩ := bd_e H
          refine z_callV (M := M_X3_countSegment) (M' := M_X3_wayY) (as := [vi k_0]) (rest := [vl (x_76 * x_78)]) rfl rfl dX3_countSegment_237 m_X3_wayY t_1965 t_1967 s_113 (c_X3_wayY hl  hc_79) rfl rfl ly_222 rfl (Nat.le_of_ble_eq_true rfl) (Nat.le_of_ble_eq_true rfl) (Nat.le_of_ble_eq_true rfl) (Nat.le_of_ble_eq_true rfl) ?_
          refine z_st (st' := [vl x_80, vl (x_76 * x_78)]) rfl ?_
          refine z_aload_n (M := M_X3_countSegment) dX3_countSegment_240 rfl ?_
          refine z_iload_n (M := M_X3_countSegment) dX3_countSegment_241 rfl ?_
          obtain ⟨x_82, hc_81, H⟩ := bd_e H
          refine z_callV (M := M_X3_countSegment) (M' := M_X3_wayY) (as := [vi i_0]) (rest := [vl x_80, vl (x_76 * x_78)]) rfl rfl dX3_countSegment_242 m_X3_wayY t_1965 t_1967 s_113 (c_X3_wayY hl  hc_81) rfl rfl ly_222 rfl (Nat.le_of_ble_eq_true rfl) (Nat.le_of_ble_eq_true rfl) (Nat.le_of_ble_eq_true rfl) (Nat.le_of_ble_eq_true rfl) ?_
          refine z_st (st' := [vl x_82, vl x_80, vl (x_76 * x_78)]) rfl ?_
          refine z_lmul (M := M_X3_countSegment) dX3_countSegment_245 ?_
          refine z_ladd (M := M_X3_countSegment) dX3_countSegment_246 ?_
          refine z_lconst (M := M_X3_countSegment) (m := 0) dX3_countSegment_247 (by decide +kernel) ?_
          refine z_callS (M := M_X3_countSegment) (M' := M_J13_compare_74951) (as := [vl ((x_76 * x_78) + (x_80 * x_82)), vl 0]) (rest := []) rfl rfl dX3_countSegment_248 m_J13_compare_74951 t_1986 t_1268 (c_J13_compare_74951 hl  rfl) rfl rfl (Nat.le_of_ble_eq_true rfl) (Nat.le_of_ble_eq_true rfl) (Nat.le_of_ble_eq_true rfl) (Nat.le_of_ble_eq_true rfl) ?_
          refine z_st (st' := [vi (fL_compare ((x_76 * x_78) + (x_80 * x_82)) 0)]) rfl ?_
          refine z_istore (M := M_X3_countSegment) (lv' := [some (vr 222), some (vi i_0), some (vl itsShare_0), none, some (vl itsWhole_0), none, some (vi k_0), some (vi x_1), some (zv x_6), some (zv x_10), some (vl ((x_12 * x_14) - (x_16 * x_18))), none, some (vl x_31), none, some (vi (fL_compare ((x_76 * x_78) + (x_80 * x_82)) 0))]) dX3_countSegment_251 (Nat.le_of_ble_eq_true rfl) rfl rfl ?_
          exact J_94 _ (Option.some.inj H).symm
        · refine z_if_ne_t (M := M_X3_countSegment) (tgt := 253) dX3_countSegment_219 (by decide) rfl h_74 ?_
          exact J_94 _ (Option.some.inj H).symm
      have H := he_62
      refine z_iload (M := M_X3_countSegment) dX3_countSegment_204 rfl ?_
      rcases if_e H with ⟨h_66, H⟩ | ⟨h_66, H⟩
      · refine z_if_ne_f (M := M_X3_countSegment) (tgt := 217) dX3_countSegment_206 (by decide) rfl h_66 ?_
        refine z_lload (M := M_X3_countSegment) dX3_countSegment_209 rfl ?_
        refine z_lconst (M := M_X3_countSegment) (m := 0) dX3_countSegment_211 (by decide +kernel) ?_
        refine z_callS (M := M_X3_countSegment) (M' := M_J13_compare_74951) (as := [vl ((x_12 * x_14) - (x_16 * x_18)), vl 0]) (rest := []) rfl rfl dX3_countSegment_212 m_J13_compare_74951 t_1986 t_1268 (c_J13_compare_74951 hl  rfl) rfl rfl (Nat.le_of_ble_eq_true rfl) (Nat.le_of_ble_eq_true rfl) (Nat.le_of_ble_eq_true rfl) (Nat.le_of_ble_eq_true rfl) ?_
        refine z_st (st' := [vi (fL_compare ((x_12 * x_14) - (x_16 * x_18)) 0)]) rfl ?_
        refine z_istore (M := M_X3_countSegment) (lv' := [some (vr 222), some (vi i_0), some (vl itsShare_0), none, some (vl itsWhole_0), none, some (vi k_0), some (vi x_1), some (zv x_6), some (zv x_10), some (vl ((x_12 * x_14) - (x_16 * x_18))), none, some (vl x_31), none, some (vi (fL_compare ((x_12 * x_14) - (x_16 * x_18)) 0))]) dX3_countSegment_215 (Nat.le_of_ble_eq_true rfl) rfl rfl ?_
        exact J_95 _ (Option.some.inj H).symm
      · refine z_if_ne_t (M := M_X3_countSegment) (tgt := 217) dX3_countSegment_206 (by decide) rfl h_66 ?_
        exact J_95 _ (Option.some.inj H).symm
  have H := he_32
  rcases if_e H with ⟨h_52, H⟩ | ⟨h_52, H⟩
  · have J_53 : YY l E M_X3_countSegment 4 0 0 (pS (none) σ') 154 [some (vr 222), some (vi i_0), some (vl itsShare_0), none, some (vl itsWhole_0), none, some (vi k_0), some (vi x_1), some (zv x_6), some (zv x_10), some (vl ((x_12 * x_14) - (x_16 * x_18))), none, some (vl x_31), none, none] [] σ 0 0 := by
      refine z_aload_n (M := M_X3_countSegment) dX3_countSegment_154 rfl ?_
      refine z_getR (M := M_X3_countSegment) (ci := 6) (C := RX3) (T := TX3) (Nf := 12) (ty := tyX3) cl6 dX3_countSegment_155 ly_222 10 (by decide) t_452 rfl ?_
      refine z_iload (M := M_X3_countSegment) dX3_countSegment_158 rfl ?_
      refine z_dup2 (M := M_X3_countSegment) dX3_countSegment_160 rfl rfl ?_
      obtain ⟨x_36, x_36_e, hi_37, H⟩ := rd_e H
      refine z_iald (M := M_X3_countSegment) dX3_countSegment_161 ly_236 rfl rfl rfl hi_37 x_36_e ?_
      obtain ⟨v_47, he_48, hk_49⟩ := bd_e H
      have J_50 : ∀ x_43, v_47 = x_43 → YY l E M_X3_countSegment 4 0 0 (pS (none) σ') 180 [some (vr 222), some (vi i_0), some (vl itsShare_0), none, some (vl itsWhole_0), none, some (vi k_0), some (vi x_1), some (zv x_6), some (zv x_10), some (vl ((x_12 * x_14) - (x_16 * x_18))), none, some (vl x_31), none, none] [vi x_43, vi x_36, vi x_1, vr 236] σ 0 0 := by
        intro x_43 e
        have H := hk_49
        rw [e] at H
        refine z_iadd (M := M_X3_countSegment) dX3_countSegment_180 ?_
        obtain ⟨σ_44, σ_44_e, hi_45, H⟩ := wa_e H
        refine z_iast (M := M_X3_countSegment) dX3_countSegment_181 ly_236 rfl rfl rfl hi_45 σ_44_e ?_
        exact J_96 _ (Option.some.inj H).symm
      have H := he_48
      refine z_aload_n (M := M_X3_countSegment) dX3_countSegment_162 rfl ?_
      refine z_iload_n (M := M_X3_countSegment) dX3_countSegment_163 rfl ?_
      refine z_lload_n (M := M_X3_countSegment) dX3_countSegment_164 rfl ?_
      refine z_lload (M := M_X3_countSegment) dX3_countSegment_165 rfl ?_
      refine z_iload (M := M_X3_countSegment) dX3_countSegment_167 rfl ?_
      obtain ⟨x_39, hc_38, H⟩ := bd_e H
      refine z_callV (M := M_X3_countSegment) (M' := M_X3_isCovered) (as := [vi i_0, vl itsShare_0, vl itsWhole_0, vi k_0]) (rest := [vi x_36, vi x_1, vr 236]) rfl rfl dX3_countSegment_169 m_X3_isCovered t_1987 t_1989 s_117 (c_X3_isCovered hl  hc_38) rfl rfl ly_222 rfl (Nat.le_of_ble_eq_true rfl) (Nat.le_of_ble_eq_true rfl) (Nat.le_of_ble_eq_true rfl) (Nat.le_of_ble_eq_true rfl) ?_
      refine z_st (st' := [zv x_39, vi x_36, vi x_1, vr 236]) rfl ?_
      rcases if_e H with ⟨h_40, H⟩ | ⟨h_40, H⟩
      · refine z_zeq_f (M := M_X3_countSegment) (tgt := 179) dX3_countSegment_172 (by decide) h_40 ?_
        refine z_iconst (M := M_X3_countSegment) dX3_countSegment_175 ?_
        refine z_goto (M := M_X3_countSegment) (tgt := 180) dX3_countSegment_176 (by decide) ?_
        exact J_50 _ (Option.some.inj H).symm
      · refine z_zeq_t (M := M_X3_countSegment) (tgt := 179) dX3_countSegment_172 (by decide) h_40 ?_
        refine z_iconst (M := M_X3_countSegment) dX3_countSegment_179 ?_
        exact J_50 _ (Option.some.inj H).symm
    refine z_lload (M := M_X3_countSegment) dX3_countSegment_140 rfl ?_
    refine z_lconst (M := M_X3_countSegment) (m := 0) dX3_countSegment_142 (by decide +kernel) ?_
    refine z_lcmp (M := M_X3_countSegment) dX3_countSegment_143 ?_
    by_cases h_55 : (w64 ((x_12 * x_14) - (x_16 * x_18))) = 0
    · refine z_lif_ne_f (M := M_X3_countSegment) (tgt := 182) dX3_countSegment_144 (by decide) rfl (by decide +kernel) h_55 ?_
      refine z_lload (M := M_X3_countSegment) dX3_countSegment_147 rfl ?_
      refine z_lconst (M := M_X3_countSegment) (m := 0) dX3_countSegment_149 (by decide +kernel) ?_
      refine z_lcmp (M := M_X3_countSegment) dX3_countSegment_150 ?_
      by_cases h_56 : (w64 x_31) = 0
      · refine z_lif_ne_f (M := M_X3_countSegment) (tgt := 182) dX3_countSegment_151 (by decide) rfl (by decide +kernel) h_56 ?_
        exact J_53
      · refine z_lif_ne_t (M := M_X3_countSegment) (tgt := 182) dX3_countSegment_151 (by decide) rfl (by decide +kernel) h_56 ?_
        exact absurd h_52 (fun q => h_56 q.2)
    · refine z_lif_ne_t (M := M_X3_countSegment) (tgt := 182) dX3_countSegment_144 (by decide) rfl (by decide +kernel) h_55 ?_
      exact absurd h_52 (fun q => h_55 q.1)
  · have J_54 : YY l E M_X3_countSegment 4 0 0 (pS (none) σ') 182 [some (vr 222), some (vi i_0), some (vl itsShare_0), none, some (vl itsWhole_0), none, some (vi k_0), some (vi x_1), some (zv x_6), some (zv x_10), some (vl ((x_12 * x_14) - (x_16 * x_18))), none, some (vl x_31), none, none] [] σ 0 0 := by
      exact J_96 _ (Option.some.inj H).symm
    refine z_lload (M := M_X3_countSegment) dX3_countSegment_140 rfl ?_
    refine z_lconst (M := M_X3_countSegment) (m := 0) dX3_countSegment_142 (by decide +kernel) ?_
    refine z_lcmp (M := M_X3_countSegment) dX3_countSegment_143 ?_
    by_cases h_57 : (w64 ((x_12 * x_14) - (x_16 * x_18))) = 0
    · refine z_lif_ne_f (M := M_X3_countSegment) (tgt := 182) dX3_countSegment_144 (by decide) rfl (by decide +kernel) h_57 ?_
      refine z_lload (M := M_X3_countSegment) dX3_countSegment_147 rfl ?_
      refine z_lconst (M := M_X3_countSegment) (m := 0) dX3_countSegment_149 (by decide +kernel) ?_
      refine z_lcmp (M := M_X3_countSegment) dX3_countSegment_150 ?_
      by_cases h_58 : (w64 x_31) = 0
      · refine z_lif_ne_f (M := M_X3_countSegment) (tgt := 182) dX3_countSegment_151 (by decide) rfl (by decide +kernel) h_58 ?_
        exact absurd ⟨h_57, h_58⟩ h_52
      · refine z_lif_ne_t (M := M_X3_countSegment) (tgt := 182) dX3_countSegment_151 (by decide) rfl (by decide +kernel) h_58 ?_
        exact J_54
    · refine z_lif_ne_t (M := M_X3_countSegment) (tgt := 182) dX3_countSegment_144 (by decide) rfl (by decide +kernel) h_57 ?_
      exact J_54
theorem c_X3_isArea (hl : l.stackTraces = false) {σ : SG} {shape_0 : Nat} {r : Bool} (h_shape : isS shape_0) (H : fT_isArea σ shape_0 = some r) : en_S l E M_X3_isArea 2 0 0 [vr shape_0] σ (pS (some (zv r)) σ) := by
  unfold fT_isArea at H
  refine z_mk (lv := [some (vr shape_0)]) m_X3_isArea rfl hl (Nat.le_of_ble_eq_true rfl) rfl ?_
  obtain ⟨v_11, he_12, hk_13⟩ := bd_e H
  have J_14 : ∀ x_10, v_11 = x_10 → YY l E M_X3_isArea 2 0 0 (pS (some (zv r)) σ) 22 [some (vr shape_0)] [zv x_10] σ 0 0 := by
    intro x_10 e
    have H := hk_13
    rw [e] at H
    cases H
    exact z_zret (M := M_X3_isArea) dX3_isArea_22 rfl (Nat.le_of_ble_eq_true rfl) (Nat.le_of_ble_eq_true rfl) ⟨rfl, rfl⟩
  have H := he_12
  refine z_aload_n (M := M_X3_isArea) dX3_isArea_0 rfl ?_
  obtain ⟨x_2, hc_1, H⟩ := bd_e H
  refine z_callV (M := M_X3_isArea) (M' := M_X6_kind) (as := []) (rest := []) rfl rfl dX3_isArea_1 m_X6_kind t_1896 t_951 t_952 (c_X6_kind hl h_shape hc_1) rfl rfl (ly_S h_shape) rfl (Nat.le_of_ble_eq_true rfl) (Nat.le_of_ble_eq_true rfl) (Nat.le_of_ble_eq_true rfl) (Nat.le_of_ble_eq_true rfl) ?_
  refine z_st (st' := [vi x_2]) rfl ?_
  refine z_iconst (M := M_X3_isArea) dX3_isArea_4 ?_
  rcases if_e H with ⟨h_3, H⟩ | ⟨h_3, H⟩
  · refine z_icmp_eq_t (M := M_X3_isArea) (tgt := 17) dX3_isArea_5 (by decide) rfl (by decide +kernel) h_3 ?_
    refine z_zconst (M := M_X3_isArea) (b := true) dX3_isArea_17 rfl ?_
    refine z_goto (M := M_X3_isArea) (tgt := 22) dX3_isArea_18 (by decide) ?_
    exact J_14 _ (Option.some.inj H).symm
  · refine z_icmp_eq_f (M := M_X3_isArea) (tgt := 17) dX3_isArea_5 (by decide) rfl (by decide +kernel) h_3 ?_
    refine z_aload_n (M := M_X3_isArea) dX3_isArea_8 rfl ?_
    obtain ⟨x_6, hc_5, H⟩ := bd_e H
    refine z_callV (M := M_X3_isArea) (M' := M_X6_kind) (as := []) (rest := []) rfl rfl dX3_isArea_9 m_X6_kind t_1896 t_951 t_952 (c_X6_kind hl h_shape hc_5) rfl rfl (ly_S h_shape) rfl (Nat.le_of_ble_eq_true rfl) (Nat.le_of_ble_eq_true rfl) (Nat.le_of_ble_eq_true rfl) (Nat.le_of_ble_eq_true rfl) ?_
    refine z_st (st' := [vi x_6]) rfl ?_
    refine z_bipush (M := M_X3_isArea) dX3_isArea_12 (by decide +kernel) ?_
    rcases if_e H with ⟨h_7, H⟩ | ⟨h_7, H⟩
    · refine z_icmp_ne_f (M := M_X3_isArea) (tgt := 21) dX3_isArea_14 (by decide) rfl (by decide +kernel) h_7 ?_
      refine z_zconst (M := M_X3_isArea) (b := true) dX3_isArea_17 rfl ?_
      refine z_goto (M := M_X3_isArea) (tgt := 22) dX3_isArea_18 (by decide) ?_
      exact J_14 _ (Option.some.inj H).symm
    · refine z_icmp_ne_t (M := M_X3_isArea) (tgt := 21) dX3_isArea_14 (by decide) rfl (by decide +kernel) h_7 ?_
      refine z_zconst (M := M_X3_isArea) (b := false) dX3_isArea_21 rfl ?_
      exact J_14 _ (Option.some.inj H).symm
theorem c_X3_faceOf (hl : l.stackTraces = false) {σ : SG} {shape_0 : Nat} {crossed_0 : Int} {r : Int} (h_shape : isS shape_0) (H : fT_faceOf σ shape_0 crossed_0 = some r) : en_S l E M_X3_faceOf 3 0 0 [vr shape_0, vi crossed_0] σ (pS (some (vi r)) σ) := by
  unfold fT_faceOf at H
  refine z_mk (lv := [some (vr shape_0), some (vi crossed_0)]) m_X3_faceOf rfl hl (Nat.le_of_ble_eq_true rfl) rfl ?_
  obtain ⟨v_17, he_18, hk_19⟩ := bd_e H
  have J_20 : ∀ x_16, v_17 = x_16 → YY l E M_X3_faceOf 3 0 0 (pS (some (vi r)) σ) 19 [some (vr shape_0), some (vi crossed_0)] [vi x_16] σ 0 0 := by
    intro x_16 e
    have H := hk_19
    rw [e] at H
    cases H
    exact z_iret (M := M_X3_faceOf) dX3_faceOf_19 rfl (Nat.le_of_ble_eq_true rfl) (Nat.le_of_ble_eq_true rfl) ⟨rfl, rfl⟩
  have H := he_18
  refine z_aload_n (M := M_X3_faceOf) dX3_faceOf_0 rfl ?_
  obtain ⟨x_10, hc_9, H⟩ := bd_e H
  refine z_callS (M := M_X3_faceOf) (M' := M_X3_isArea) (as := [vr shape_0]) (rest := []) rfl rfl dX3_faceOf_1 m_X3_isArea t_1905 t_1906 (c_X3_isArea hl h_shape hc_9) rfl rfl (Nat.le_of_ble_eq_true rfl) (Nat.le_of_ble_eq_true rfl) (Nat.le_of_ble_eq_true rfl) (Nat.le_of_ble_eq_true rfl) ?_
  refine z_st (st' := [zv x_10]) rfl ?_
  rcases if_e H with ⟨h_11, H⟩ | ⟨h_11, H⟩
  · refine z_zeq_f (M := M_X3_faceOf) (tgt := 18) dX3_faceOf_4 (by decide) h_11 ?_
    refine z_iload_n (M := M_X3_faceOf) dX3_faceOf_7 rfl ?_
    refine z_iconst (M := M_X3_faceOf) dX3_faceOf_8 ?_
    refine z_iand (M := M_X3_faceOf) dX3_faceOf_9 ?_
    refine z_iconst (M := M_X3_faceOf) dX3_faceOf_10 ?_
    rcases if_e H with ⟨h_12, H⟩ | ⟨h_12, H⟩
    · refine z_icmp_ne_f (M := M_X3_faceOf) (tgt := 18) dX3_faceOf_11 (by decide) rfl (by decide +kernel) h_12 ?_
      refine z_iconst (M := M_X3_faceOf) dX3_faceOf_14 ?_
      refine z_goto (M := M_X3_faceOf) (tgt := 19) dX3_faceOf_15 (by decide) ?_
      exact J_20 _ (Option.some.inj H).symm
    · refine z_icmp_ne_t (M := M_X3_faceOf) (tgt := 18) dX3_faceOf_11 (by decide) rfl (by decide +kernel) h_12 ?_
      refine z_iconst (M := M_X3_faceOf) dX3_faceOf_18 ?_
      exact J_20 _ (Option.some.inj H).symm
  · refine z_zeq_t (M := M_X3_faceOf) (tgt := 18) dX3_faceOf_4 (by decide) h_11 ?_
    refine z_iconst (M := M_X3_faceOf) dX3_faceOf_18 ?_
    exact J_20 _ (Option.some.inj H).symm
theorem c_X3_edgeOf (hl : l.stackTraces = false) {σ : SG} {shape_0 : Nat} {owner_0 : Int} {r : Int} (h_shape : isS shape_0) (H : fT_edgeOf σ shape_0 owner_0 = some r) : en_S l E M_X3_edgeOf 4 0 0 [vr 222, vr shape_0, vi owner_0] σ (pS (some (vi r)) σ) := by
  unfold fT_edgeOf at H
  refine z_mk (lv := [some (vr 222), some (vr shape_0), some (vi owner_0)]) m_X3_edgeOf rfl hl (Nat.le_of_ble_eq_true rfl) rfl ?_
  refine z_aload_n (M := M_X3_edgeOf) dX3_edgeOf_0 rfl ?_
  refine z_getR (M := M_X3_edgeOf) (ci := 6) (C := RX3) (T := TX3) (Nf := 12) (ty := tyX3) cl6 dX3_edgeOf_1 ly_222 10 (by decide) t_452 rfl ?_
  refine z_iload_n (M := M_X3_edgeOf) dX3_edgeOf_4 rfl ?_
  obtain ⟨x_1, x_1_e, hi_2, H⟩ := rd_e H
  refine z_iald (M := M_X3_edgeOf) dX3_edgeOf_5 ly_236 rfl rfl rfl hi_2 x_1_e ?_
  rcases if_e H with ⟨h_3, H⟩ | ⟨h_3, H⟩
  · refine z_if_le_f (M := M_X3_edgeOf) (tgt := 22) dX3_edgeOf_6 (by decide) rfl h_3 ?_
    obtain ⟨v_10, he_11, hk_12⟩ := bd_e H
    have J_13 : ∀ x_9, v_10 = x_9 → YY l E M_X3_edgeOf 4 0 0 (pS (some (vi r)) σ) 21 [some (vr 222), some (vr shape_0), some (vi owner_0)] [vi x_9] σ 0 0 := by
      intro x_9 e
      have H := hk_12
      rw [e] at H
      cases H
      exact z_iret (M := M_X3_edgeOf) dX3_edgeOf_21 rfl (Nat.le_of_ble_eq_true rfl) (Nat.le_of_ble_eq_true rfl) ⟨rfl, rfl⟩
    have H := he_11
    refine z_aload_n (M := M_X3_edgeOf) dX3_edgeOf_9 rfl ?_
    obtain ⟨x_5, hc_4, H⟩ := bd_e H
    refine z_callS (M := M_X3_edgeOf) (M' := M_X3_isArea) (as := [vr shape_0]) (rest := []) rfl rfl dX3_edgeOf_10 m_X3_isArea t_1905 t_1906 (c_X3_isArea hl h_shape hc_4) rfl rfl (Nat.le_of_ble_eq_true rfl) (Nat.le_of_ble_eq_true rfl) (Nat.le_of_ble_eq_true rfl) (Nat.le_of_ble_eq_true rfl) ?_
    refine z_st (st' := [zv x_5]) rfl ?_
    rcases if_e H with ⟨h_6, H⟩ | ⟨h_6, H⟩
    · refine z_zeq_f (M := M_X3_edgeOf) (tgt := 20) dX3_edgeOf_13 (by decide) h_6 ?_
      refine z_iconst (M := M_X3_edgeOf) dX3_edgeOf_16 ?_
      refine z_goto (M := M_X3_edgeOf) (tgt := 21) dX3_edgeOf_17 (by decide) ?_
      exact J_13 _ (Option.some.inj H).symm
    · refine z_zeq_t (M := M_X3_edgeOf) (tgt := 20) dX3_edgeOf_13 (by decide) h_6 ?_
      refine z_iconst (M := M_X3_edgeOf) dX3_edgeOf_20 ?_
      exact J_13 _ (Option.some.inj H).symm
  · refine z_if_le_t (M := M_X3_edgeOf) (tgt := 22) dX3_edgeOf_6 (by decide) rfl (Int.not_lt.mp h_3) ?_
    refine z_aload_n (M := M_X3_edgeOf) dX3_edgeOf_22 rfl ?_
    refine z_aload_n (M := M_X3_edgeOf) dX3_edgeOf_23 rfl ?_
    refine z_getR (M := M_X3_edgeOf) (ci := 6) (C := RX3) (T := TX3) (Nf := 12) (ty := tyX3) cl6 dX3_edgeOf_24 ly_222 11 (by decide) t_453 rfl ?_
    refine z_iload_n (M := M_X3_edgeOf) dX3_edgeOf_27 rfl ?_
    obtain ⟨x_14, x_14_e, hi_15, H⟩ := rd_e H
    refine z_iald (M := M_X3_edgeOf) dX3_edgeOf_28 ly_237 rfl rfl rfl hi_15 x_14_e ?_
    obtain ⟨x_17, hc_16, H⟩ := bd_e H
    refine z_callS (M := M_X3_edgeOf) (M' := M_X3_faceOf) (as := [vr shape_0, vi x_14]) (rest := []) rfl rfl dX3_edgeOf_29 m_X3_faceOf t_1995 t_1996 (c_X3_faceOf hl h_shape hc_16) rfl rfl (Nat.le_of_ble_eq_true rfl) (Nat.le_of_ble_eq_true rfl) (Nat.le_of_ble_eq_true rfl) (Nat.le_of_ble_eq_true rfl) ?_
    refine z_st (st' := [vi x_17]) rfl ?_
    cases H
    exact z_iret (M := M_X3_edgeOf) dX3_edgeOf_32 rfl (Nat.le_of_ble_eq_true rfl) (Nat.le_of_ble_eq_true rfl) ⟨rfl, rfl⟩
theorem c_X3_raise (hl : l.stackTraces = false) {σ : SG} {first_0 : Int} {second_0 : Int} {dimension_0 : Int} {σ' : SG}  (H : fT_raise σ first_0 second_0 dimension_0 = some σ') : en_S l E M_X3_raise 1 0 0 [vr 222, vi first_0, vi second_0, vi dimension_0] σ (pS (none) σ') := by
  unfold fT_raise at H
  refine z_mk (lv := [some (vr 222), some (vi first_0), some (vi second_0), some (vi dimension_0), none]) m_X3_raise rfl hl (Nat.le_of_ble_eq_true rfl) rfl ?_
  refine z_iconst (M := M_X3_raise) dX3_raise_0 ?_
  refine z_iload_n (M := M_X3_raise) dX3_raise_1 rfl ?_
  refine z_imul (M := M_X3_raise) dX3_raise_2 ?_
  refine z_iload_n (M := M_X3_raise) dX3_raise_3 rfl ?_
  refine z_iadd (M := M_X3_raise) dX3_raise_4 ?_
  refine z_istore (M := M_X3_raise) (lv' := [some (vr 222), some (vi first_0), some (vi second_0), some (vi dimension_0), some (vi ((3 * first_0) + second_0))]) dX3_raise_5 (Nat.le_of_ble_eq_true rfl) rfl rfl ?_
  refine z_aload_n (M := M_X3_raise) dX3_raise_7 rfl ?_
  refine z_getR (M := M_X3_raise) (ci := 6) (C := RX3) (T := TX3) (Nf := 12) (ty := tyX3) cl6 dX3_raise_8 ly_222 1 (by decide) t_443 rfl ?_
  refine z_iload (M := M_X3_raise) dX3_raise_11 rfl ?_
  refine z_aload_n (M := M_X3_raise) dX3_raise_13 rfl ?_
  refine z_getR (M := M_X3_raise) (ci := 6) (C := RX3) (T := TX3) (Nf := 12) (ty := tyX3) cl6 dX3_raise_14 ly_222 1 (by decide) t_443 rfl ?_
  refine z_iload (M := M_X3_raise) dX3_raise_17 rfl ?_
  obtain ⟨x_1, x_1_e, hi_2, H⟩ := rd_e H
  refine z_iald (M := M_X3_raise) dX3_raise_19 ly_229 rfl rfl rfl hi_2 x_1_e ?_
  refine z_iload_n (M := M_X3_raise) dX3_raise_20 rfl ?_
  refine z_mmax (M := M_X3_raise) dX3_raise_21 t_2002 t_1013 t_20 t_1014 (Nat.le_of_ble_eq_true rfl) (Nat.le_of_ble_eq_true rfl) (Nat.le_of_ble_eq_true rfl) (Nat.le_of_ble_eq_true rfl) ?_
  obtain ⟨σ_3, σ_3_e, hi_4, H⟩ := wa_e H
  refine z_iast (M := M_X3_raise) dX3_raise_24 ly_229 rfl rfl rfl hi_4 σ_3_e ?_
  cases H
  exact z_vret (M := M_X3_raise) dX3_raise_25 rfl (Nat.le_of_ble_eq_true rfl) (Nat.le_of_ble_eq_true rfl) ⟨rfl, rfl⟩
theorem c_X3_addEdge (hl : l.stackTraces = false) {σ : SG} {one_0 : Nat} {two_0 : Nat} {i_0 : Int} {cut_0 : Int} {σ' : SG} (h_one : isS one_0) (h_two : isS two_0) (H : fT_addEdge σ one_0 two_0 i_0 cut_0 = some σ') : en_S l E M_X3_addEdge 5 0 0 [vr 222, vr one_0, vr two_0, vi i_0, vi cut_0] σ (pS (none) σ') := by
  unfold fT_addEdge at H
  refine z_mk (lv := [some (vr 222), some (vr one_0), some (vr two_0), some (vi i_0), some (vi cut_0), none]) m_X3_addEdge rfl hl (Nat.le_of_ble_eq_true rfl) rfl ?_
  refine z_aload_n (M := M_X3_addEdge) dX3_addEdge_0 rfl ?_
  refine z_getR (M := M_X3_addEdge) (ci := 6) (C := RX3) (T := TX3) (Nf := 12) (ty := tyX3) cl6 dX3_addEdge_1 ly_222 10 (by decide) t_452 rfl ?_
  refine z_iconst (M := M_X3_addEdge) dX3_addEdge_4 ?_
  obtain ⟨σ_2, hc_1, H⟩ := bd_e H
  refine z_callS (M := M_X3_addEdge) (M' := M_J7_fill_53178) (as := [vr 236, vi 0]) (rest := []) rfl rfl dX3_addEdge_5 m_J7_fill_53178 t_1973 t_282 (c_J7_fill_53178 hl ly_236 hc_1) rfl rfl (Nat.le_of_ble_eq_true rfl) (Nat.le_of_ble_eq_true rfl) (Nat.le_of_ble_eq_true rfl) (Nat.le_of_ble_eq_true rfl) ?_
  refine z_st (st' := []) rfl ?_
  refine z_aload_n (M := M_X3_addEdge) dX3_addEdge_8 rfl ?_
  refine z_getR (M := M_X3_addEdge) (ci := 6) (C := RX3) (T := TX3) (Nf := 12) (ty := tyX3) cl6 dX3_addEdge_9 ly_222 11 (by decide) t_453 rfl ?_
  refine z_iconst (M := M_X3_addEdge) dX3_addEdge_12 ?_
  obtain ⟨σ_4, hc_3, H⟩ := bd_e H
  refine z_callS (M := M_X3_addEdge) (M' := M_J7_fill_53178) (as := [vr 237, vi 0]) (rest := []) rfl rfl dX3_addEdge_13 m_J7_fill_53178 t_1973 t_282 (c_J7_fill_53178 hl ly_237 hc_3) rfl rfl (Nat.le_of_ble_eq_true rfl) (Nat.le_of_ble_eq_true rfl) (Nat.le_of_ble_eq_true rfl) (Nat.le_of_ble_eq_true rfl) ?_
  refine z_st (st' := []) rfl ?_
  refine z_iconst (M := M_X3_addEdge) dX3_addEdge_16 ?_
  refine z_istore (M := M_X3_addEdge) (lv' := [some (vr 222), some (vr one_0), some (vr two_0), some (vi i_0), some (vi cut_0), some (vi 0)]) dX3_addEdge_17 (Nat.le_of_ble_eq_true rfl) rfl rfl ?_
  obtain ⟨rl_10, hw_7, hk_8⟩ := bd_e H
  have J_100 : ∀ k_68 σ_69, rl_10 = (k_68, σ_69) → YY l E M_X3_addEdge 5 0 0 (pS (none) σ') 118 [some (vr 222), some (vr one_0), some (vr two_0), some (vi i_0), some (vi cut_0), some (vi k_68)] [] σ_69 0 0 := by
    intro k_68 σ_69 e
    have H := hk_8
    rw [e] at H
    refine z_aload_n (M := M_X3_addEdge) dX3_addEdge_118 rfl ?_
    refine z_aload_n (M := M_X3_addEdge) dX3_addEdge_119 rfl ?_
    refine z_aload_n (M := M_X3_addEdge) dX3_addEdge_120 rfl ?_
    refine z_getR (M := M_X3_addEdge) (ci := 6) (C := RX3) (T := TX3) (Nf := 12) (ty := tyX3) cl6 dX3_addEdge_121 ly_222 11 (by decide) t_453 rfl ?_
    refine z_iconst (M := M_X3_addEdge) dX3_addEdge_124 ?_
    obtain ⟨x_70, x_70_e, hi_71, H⟩ := rd_e H
    refine z_iald (M := M_X3_addEdge) dX3_addEdge_125 ly_237 rfl (by decide +kernel) rfl hi_71 x_70_e ?_
    obtain ⟨x_73, hc_72, H⟩ := bd_e H
    refine z_callS (M := M_X3_addEdge) (M' := M_X3_faceOf) (as := [vr one_0, vi x_70]) (rest := [vr 222]) rfl rfl dX3_addEdge_126 m_X3_faceOf t_1995 t_1996 (c_X3_faceOf hl h_one hc_72) rfl rfl (Nat.le_of_ble_eq_true rfl) (Nat.le_of_ble_eq_true rfl) (Nat.le_of_ble_eq_true rfl) (Nat.le_of_ble_eq_true rfl) ?_
    refine z_st (st' := [vi x_73, vr 222]) rfl ?_
    refine z_aload_n (M := M_X3_addEdge) dX3_addEdge_129 rfl ?_
    refine z_aload_n (M := M_X3_addEdge) dX3_addEdge_130 rfl ?_
    refine z_getR (M := M_X3_addEdge) (ci := 6) (C := RX3) (T := TX3) (Nf := 12) (ty := tyX3) cl6 dX3_addEdge_131 ly_222 11 (by decide) t_453 rfl ?_
    refine z_iconst (M := M_X3_addEdge) dX3_addEdge_134 ?_
    obtain ⟨x_74, x_74_e, hi_75, H⟩ := rd_e H
    refine z_iald (M := M_X3_addEdge) dX3_addEdge_135 ly_237 rfl (by decide +kernel) rfl hi_75 x_74_e ?_
    obtain ⟨x_77, hc_76, H⟩ := bd_e H
    refine z_callS (M := M_X3_addEdge) (M' := M_X3_faceOf) (as := [vr two_0, vi x_74]) (rest := [vi x_73, vr 222]) rfl rfl dX3_addEdge_136 m_X3_faceOf t_1995 t_1996 (c_X3_faceOf hl h_two hc_76) rfl rfl (Nat.le_of_ble_eq_true rfl) (Nat.le_of_ble_eq_true rfl) (Nat.le_of_ble_eq_true rfl) (Nat.le_of_ble_eq_true rfl) ?_
    refine z_st (st' := [vi x_77, vi x_73, vr 222]) rfl ?_
    refine z_iconst (M := M_X3_addEdge) dX3_addEdge_139 ?_
    obtain ⟨σ_79, hc_78, H⟩ := bd_e H
    refine z_callV (M := M_X3_addEdge) (M' := M_X3_raise) (as := [vi x_73, vi x_77, vi 2]) (rest := []) rfl rfl dX3_addEdge_140 m_X3_raise t_1998 t_2000 s_118 (c_X3_raise hl  hc_78) rfl rfl ly_222 rfl (Nat.le_of_ble_eq_true rfl) (Nat.le_of_ble_eq_true rfl) (Nat.le_of_ble_eq_true rfl) (Nat.le_of_ble_eq_true rfl) ?_
    refine z_st (st' := []) rfl ?_
    refine z_aload_n (M := M_X3_addEdge) dX3_addEdge_143 rfl ?_
    refine z_aload_n (M := M_X3_addEdge) dX3_addEdge_144 rfl ?_
    refine z_aload_n (M := M_X3_addEdge) dX3_addEdge_145 rfl ?_
    refine z_getR (M := M_X3_addEdge) (ci := 6) (C := RX3) (T := TX3) (Nf := 12) (ty := tyX3) cl6 dX3_addEdge_146 ly_222 11 (by decide) t_453 rfl ?_
    refine z_iconst (M := M_X3_addEdge) dX3_addEdge_149 ?_
    obtain ⟨x_80, x_80_e, hi_81, H⟩ := rd_e H
    refine z_iald (M := M_X3_addEdge) dX3_addEdge_150 ly_237 rfl (by decide +kernel) rfl hi_81 x_80_e ?_
    refine z_aload_n (M := M_X3_addEdge) dX3_addEdge_151 rfl ?_
    refine z_getR (M := M_X3_addEdge) (ci := 6) (C := RX3) (T := TX3) (Nf := 12) (ty := tyX3) cl6 dX3_addEdge_152 ly_222 10 (by decide) t_452 rfl ?_
    refine z_iconst (M := M_X3_addEdge) dX3_addEdge_155 ?_
    obtain ⟨x_82, x_82_e, hi_83, H⟩ := rd_e H
    refine z_iald (M := M_X3_addEdge) dX3_addEdge_156 ly_236 rfl (by decide +kernel) rfl hi_83 x_82_e ?_
    refine z_iadd (M := M_X3_addEdge) dX3_addEdge_157 ?_
    obtain ⟨x_85, hc_84, H⟩ := bd_e H
    refine z_callS (M := M_X3_addEdge) (M' := M_X3_faceOf) (as := [vr one_0, vi (x_80 + x_82)]) (rest := [vr 222]) rfl rfl dX3_addEdge_158 m_X3_faceOf t_1995 t_1996 (c_X3_faceOf hl h_one hc_84) rfl rfl (Nat.le_of_ble_eq_true rfl) (Nat.le_of_ble_eq_true rfl) (Nat.le_of_ble_eq_true rfl) (Nat.le_of_ble_eq_true rfl) ?_
    refine z_st (st' := [vi x_85, vr 222]) rfl ?_
    refine z_aload_n (M := M_X3_addEdge) dX3_addEdge_161 rfl ?_
    refine z_aload_n (M := M_X3_addEdge) dX3_addEdge_162 rfl ?_
    refine z_getR (M := M_X3_addEdge) (ci := 6) (C := RX3) (T := TX3) (Nf := 12) (ty := tyX3) cl6 dX3_addEdge_163 ly_222 11 (by decide) t_453 rfl ?_
    refine z_iconst (M := M_X3_addEdge) dX3_addEdge_166 ?_
    obtain ⟨x_86, x_86_e, hi_87, H⟩ := rd_e H
    refine z_iald (M := M_X3_addEdge) dX3_addEdge_167 ly_237 rfl (by decide +kernel) rfl hi_87 x_86_e ?_
    refine z_aload_n (M := M_X3_addEdge) dX3_addEdge_168 rfl ?_
    refine z_getR (M := M_X3_addEdge) (ci := 6) (C := RX3) (T := TX3) (Nf := 12) (ty := tyX3) cl6 dX3_addEdge_169 ly_222 10 (by decide) t_452 rfl ?_
    refine z_iconst (M := M_X3_addEdge) dX3_addEdge_172 ?_
    obtain ⟨x_88, x_88_e, hi_89, H⟩ := rd_e H
    refine z_iald (M := M_X3_addEdge) dX3_addEdge_173 ly_236 rfl (by decide +kernel) rfl hi_89 x_88_e ?_
    refine z_iadd (M := M_X3_addEdge) dX3_addEdge_174 ?_
    obtain ⟨x_91, hc_90, H⟩ := bd_e H
    refine z_callS (M := M_X3_addEdge) (M' := M_X3_faceOf) (as := [vr two_0, vi (x_86 + x_88)]) (rest := [vi x_85, vr 222]) rfl rfl dX3_addEdge_175 m_X3_faceOf t_1995 t_1996 (c_X3_faceOf hl h_two hc_90) rfl rfl (Nat.le_of_ble_eq_true rfl) (Nat.le_of_ble_eq_true rfl) (Nat.le_of_ble_eq_true rfl) (Nat.le_of_ble_eq_true rfl) ?_
    refine z_st (st' := [vi x_91, vi x_85, vr 222]) rfl ?_
    refine z_iconst (M := M_X3_addEdge) dX3_addEdge_178 ?_
    obtain ⟨σ_93, hc_92, H⟩ := bd_e H
    refine z_callV (M := M_X3_addEdge) (M' := M_X3_raise) (as := [vi x_85, vi x_91, vi 2]) (rest := []) rfl rfl dX3_addEdge_179 m_X3_raise t_1998 t_2000 s_118 (c_X3_raise hl  hc_92) rfl rfl ly_222 rfl (Nat.le_of_ble_eq_true rfl) (Nat.le_of_ble_eq_true rfl) (Nat.le_of_ble_eq_true rfl) (Nat.le_of_ble_eq_true rfl) ?_
    refine z_st (st' := []) rfl ?_
    refine z_aload_n (M := M_X3_addEdge) dX3_addEdge_182 rfl ?_
    refine z_aload_n (M := M_X3_addEdge) dX3_addEdge_183 rfl ?_
    refine z_aload_n (M := M_X3_addEdge) dX3_addEdge_184 rfl ?_
    refine z_iconst (M := M_X3_addEdge) dX3_addEdge_185 ?_
    obtain ⟨x_95, hc_94, H⟩ := bd_e H
    refine z_callV (M := M_X3_addEdge) (M' := M_X3_edgeOf) (as := [vr one_0, vi 0]) (rest := [vr 222]) rfl rfl dX3_addEdge_186 m_X3_edgeOf t_2003 t_2005 s_119 (c_X3_edgeOf hl h_one hc_94) rfl rfl ly_222 rfl (Nat.le_of_ble_eq_true rfl) (Nat.le_of_ble_eq_true rfl) (Nat.le_of_ble_eq_true rfl) (Nat.le_of_ble_eq_true rfl) ?_
    refine z_st (st' := [vi x_95, vr 222]) rfl ?_
    refine z_aload_n (M := M_X3_addEdge) dX3_addEdge_189 rfl ?_
    refine z_aload_n (M := M_X3_addEdge) dX3_addEdge_190 rfl ?_
    refine z_iconst (M := M_X3_addEdge) dX3_addEdge_191 ?_
    obtain ⟨x_97, hc_96, H⟩ := bd_e H
    refine z_callV (M := M_X3_addEdge) (M' := M_X3_edgeOf) (as := [vr two_0, vi 1]) (rest := [vi x_95, vr 222]) rfl rfl dX3_addEdge_192 m_X3_edgeOf t_2003 t_2005 s_119 (c_X3_edgeOf hl h_two hc_96) rfl rfl ly_222 rfl (Nat.le_of_ble_eq_true rfl) (Nat.le_of_ble_eq_true rfl) (Nat.le_of_ble_eq_true rfl) (Nat.le_of_ble_eq_true rfl) ?_
    refine z_st (st' := [vi x_97, vi x_95, vr 222]) rfl ?_
    refine z_iconst (M := M_X3_addEdge) dX3_addEdge_195 ?_
    obtain ⟨σ_99, hc_98, H⟩ := bd_e H
    refine z_callV (M := M_X3_addEdge) (M' := M_X3_raise) (as := [vi x_95, vi x_97, vi 1]) (rest := []) rfl rfl dX3_addEdge_196 m_X3_raise t_1998 t_2000 s_118 (c_X3_raise hl  hc_98) rfl rfl ly_222 rfl (Nat.le_of_ble_eq_true rfl) (Nat.le_of_ble_eq_true rfl) (Nat.le_of_ble_eq_true rfl) (Nat.le_of_ble_eq_true rfl) ?_
    refine z_st (st' := []) rfl ?_
    cases H
    exact z_vret (M := M_X3_addEdge) dX3_addEdge_199 rfl (Nat.le_of_ble_eq_true rfl) (Nat.le_of_ble_eq_true rfl) ⟨rfl, rfl⟩
  refine whl_go hw_7 (fun (k_5, σ_6) => YY l E M_X3_addEdge 5 0 0 (pS (none) σ') 19 [some (vr 222), some (vr one_0), some (vr two_0), some (vi i_0), some (vi cut_0), some (vi k_5)] [] σ_6 0 0) ?_
  rintro ⟨k_5, σ_6⟩ o_11 H K_12 K_13
  refine z_iload (M := M_X3_addEdge) dX3_addEdge_19 rfl ?_
  refine z_aload_n (M := M_X3_addEdge) dX3_addEdge_21 rfl ?_
  refine z_getR (M := M_X3_addEdge) (ci := 6) (C := RX3) (T := TX3) (Nf := 12) (ty := tyX3) cl6 dX3_addEdge_22 ly_222 0 (by decide) t_442 rfl ?_
  refine z_getI (M := M_X3_addEdge) (ci := 8) (C := RX5) (T := TX5) (Nf := 8) (ty := tyX5) cl8 dX3_addEdge_25 (ly_G (by decide)) 5 (by decide) t_257 rfl rfl ?_
  rcases if_e H with ⟨h_14, H⟩ | ⟨h_14, H⟩
  · refine z_icmp_ge_f (M := M_X3_addEdge) (tgt := 118) dX3_addEdge_28 (by decide) rfl rfl h_14 ?_
    obtain ⟨v_18, he_15, hk_16⟩ := bd_e H
    have J_66 : ∀ σ_64, v_18 = σ_64 → YY l E M_X3_addEdge 5 0 0 (pS (none) σ') 112 [some (vr 222), some (vr one_0), some (vr two_0), some (vi i_0), some (vi cut_0), some (vi k_5)] [] σ_64 0 0 := by
      intro σ_64 e
      have H := hk_16
      rw [e] at H
      refine z_iinc (M := M_X3_addEdge) (lv' := [some (vr 222), some (vr one_0), some (vr two_0), some (vi i_0), some (vi cut_0), some (vi (k_5 + 1))]) dX3_addEdge_112 rfl (Nat.le_of_ble_eq_true rfl) rfl rfl ?_
      refine z_goto (M := M_X3_addEdge) (tgt := 19) dX3_addEdge_115 (by decide) ?_
      exact K_12 _ (Option.some.inj H).symm
    have H := he_15
    refine z_aload_n (M := M_X3_addEdge) dX3_addEdge_31 rfl ?_
    refine z_getR (M := M_X3_addEdge) (ci := 6) (C := RX3) (T := TX3) (Nf := 12) (ty := tyX3) cl6 dX3_addEdge_32 ly_222 0 (by decide) t_442 rfl ?_
    refine z_iload (M := M_X3_addEdge) dX3_addEdge_35 rfl ?_
    obtain ⟨x_40, hc_39, H⟩ := bd_e H
    refine z_callV (M := M_X3_addEdge) (M' := M_X5_lowY) (as := [vi k_5]) (rest := []) rfl rfl dX3_addEdge_37 m_X5_lowY t_1974 t_1244 t_1245 (c_X5_lowY hl (by decide) hc_39) rfl rfl (ly_G (by decide)) rfl (Nat.le_of_ble_eq_true rfl) (Nat.le_of_ble_eq_true rfl) (Nat.le_of_ble_eq_true rfl) (Nat.le_of_ble_eq_true rfl) ?_
    refine z_st (st' := [vi x_40]) rfl ?_
    refine z_aload_n (M := M_X3_addEdge) dX3_addEdge_40 rfl ?_
    refine z_getR (M := M_X3_addEdge) (ci := 6) (C := RX3) (T := TX3) (Nf := 12) (ty := tyX3) cl6 dX3_addEdge_41 ly_222 0 (by decide) t_442 rfl ?_
    refine z_iload_n (M := M_X3_addEdge) dX3_addEdge_44 rfl ?_
    obtain ⟨x_42, hc_41, H⟩ := bd_e H
    refine z_callV (M := M_X3_addEdge) (M' := M_X5_highY) (as := [vi i_0]) (rest := [vi x_40]) rfl rfl dX3_addEdge_45 m_X5_highY t_1975 t_1248 t_1249 (c_X5_highY hl (by decide) hc_41) rfl rfl (ly_G (by decide)) rfl (Nat.le_of_ble_eq_true rfl) (Nat.le_of_ble_eq_true rfl) (Nat.le_of_ble_eq_true rfl) (Nat.le_of_ble_eq_true rfl) ?_
    refine z_st (st' := [vi x_42, vi x_40]) rfl ?_
    rcases if_e H with ⟨h_43, H⟩ | ⟨h_43, H⟩
    · refine z_icmp_gt_f (M := M_X3_addEdge) (tgt := 112) dX3_addEdge_48 (by decide) rfl rfl h_43 ?_
      refine z_aload_n (M := M_X3_addEdge) dX3_addEdge_51 rfl ?_
      refine z_getR (M := M_X3_addEdge) (ci := 6) (C := RX3) (T := TX3) (Nf := 12) (ty := tyX3) cl6 dX3_addEdge_52 ly_222 0 (by decide) t_442 rfl ?_
      refine z_iload (M := M_X3_addEdge) dX3_addEdge_55 rfl ?_
      obtain ⟨x_45, hc_44, H⟩ := bd_e H
      refine z_callV (M := M_X3_addEdge) (M' := M_X5_highY) (as := [vi k_5]) (rest := []) rfl rfl dX3_addEdge_57 m_X5_highY t_1975 t_1248 t_1249 (c_X5_highY hl (by decide) hc_44) rfl rfl (ly_G (by decide)) rfl (Nat.le_of_ble_eq_true rfl) (Nat.le_of_ble_eq_true rfl) (Nat.le_of_ble_eq_true rfl) (Nat.le_of_ble_eq_true rfl) ?_
      refine z_st (st' := [vi x_45]) rfl ?_
      refine z_aload_n (M := M_X3_addEdge) dX3_addEdge_60 rfl ?_
      refine z_getR (M := M_X3_addEdge) (ci := 6) (C := RX3) (T := TX3) (Nf := 12) (ty := tyX3) cl6 dX3_addEdge_61 ly_222 0 (by decide) t_442 rfl ?_
      refine z_iload_n (M := M_X3_addEdge) dX3_addEdge_64 rfl ?_
      obtain ⟨x_47, hc_46, H⟩ := bd_e H
      refine z_callV (M := M_X3_addEdge) (M' := M_X5_lowY) (as := [vi i_0]) (rest := [vi x_45]) rfl rfl dX3_addEdge_65 m_X5_lowY t_1974 t_1244 t_1245 (c_X5_lowY hl (by decide) hc_46) rfl rfl (ly_G (by decide)) rfl (Nat.le_of_ble_eq_true rfl) (Nat.le_of_ble_eq_true rfl) (Nat.le_of_ble_eq_true rfl) (Nat.le_of_ble_eq_true rfl) ?_
      refine z_st (st' := [vi x_47, vi x_45]) rfl ?_
      rcases if_e H with ⟨h_48, H⟩ | ⟨h_48, H⟩
      · refine z_icmp_lt_f (M := M_X3_addEdge) (tgt := 112) dX3_addEdge_68 (by decide) rfl rfl h_48 ?_
        refine z_aload_n (M := M_X3_addEdge) dX3_addEdge_71 rfl ?_
        refine z_getR (M := M_X3_addEdge) (ci := 6) (C := RX3) (T := TX3) (Nf := 12) (ty := tyX3) cl6 dX3_addEdge_72 ly_222 0 (by decide) t_442 rfl ?_
        refine z_iload (M := M_X3_addEdge) dX3_addEdge_75 rfl ?_
        obtain ⟨x_50, hc_49, H⟩ := bd_e H
        refine z_callV (M := M_X3_addEdge) (M' := M_X5_highX) (as := [vi k_5]) (rest := []) rfl rfl dX3_addEdge_77 m_X5_highX t_1976 t_1239 t_1240 (c_X5_highX hl (by decide) hc_49) rfl rfl (ly_G (by decide)) rfl (Nat.le_of_ble_eq_true rfl) (Nat.le_of_ble_eq_true rfl) (Nat.le_of_ble_eq_true rfl) (Nat.le_of_ble_eq_true rfl) ?_
        refine z_st (st' := [vi x_50]) rfl ?_
        refine z_aload_n (M := M_X3_addEdge) dX3_addEdge_80 rfl ?_
        refine z_getR (M := M_X3_addEdge) (ci := 6) (C := RX3) (T := TX3) (Nf := 12) (ty := tyX3) cl6 dX3_addEdge_81 ly_222 0 (by decide) t_442 rfl ?_
        refine z_iload_n (M := M_X3_addEdge) dX3_addEdge_84 rfl ?_
        obtain ⟨x_52, hc_51, H⟩ := bd_e H
        refine z_callV (M := M_X3_addEdge) (M' := M_X5_lowX) (as := [vi i_0]) (rest := [vi x_50]) rfl rfl dX3_addEdge_85 m_X5_lowX t_1977 t_1234 t_1235 (c_X5_lowX hl (by decide) hc_51) rfl rfl (ly_G (by decide)) rfl (Nat.le_of_ble_eq_true rfl) (Nat.le_of_ble_eq_true rfl) (Nat.le_of_ble_eq_true rfl) (Nat.le_of_ble_eq_true rfl) ?_
        refine z_st (st' := [vi x_52, vi x_50]) rfl ?_
        rcases if_e H with ⟨h_53, H⟩ | ⟨h_53, H⟩
        · refine z_icmp_lt_f (M := M_X3_addEdge) (tgt := 112) dX3_addEdge_88 (by decide) rfl rfl h_53 ?_
          refine z_aload_n (M := M_X3_addEdge) dX3_addEdge_91 rfl ?_
          refine z_iload_n (M := M_X3_addEdge) dX3_addEdge_92 rfl ?_
          refine z_aload_n (M := M_X3_addEdge) dX3_addEdge_93 rfl ?_
          refine z_getR (M := M_X3_addEdge) (ci := 6) (C := RX3) (T := TX3) (Nf := 12) (ty := tyX3) cl6 dX3_addEdge_94 ly_222 7 (by decide) t_449 rfl ?_
          refine z_iload (M := M_X3_addEdge) dX3_addEdge_97 rfl ?_
          obtain ⟨x_54, x_54_e, hi_55, H⟩ := rd_e H
          refine z_lald (M := M_X3_addEdge) dX3_addEdge_99 ly_234 rfl rfl rfl hi_55 x_54_e ?_
          refine z_aload_n (M := M_X3_addEdge) dX3_addEdge_100 rfl ?_
          refine z_getR (M := M_X3_addEdge) (ci := 6) (C := RX3) (T := TX3) (Nf := 12) (ty := tyX3) cl6 dX3_addEdge_101 ly_222 8 (by decide) t_450 rfl ?_
          refine z_iload (M := M_X3_addEdge) dX3_addEdge_104 rfl ?_
          obtain ⟨x_56, x_56_e, hi_57, H⟩ := rd_e H
          refine z_lald (M := M_X3_addEdge) dX3_addEdge_106 ly_235 rfl rfl rfl hi_57 x_56_e ?_
          refine z_iload (M := M_X3_addEdge) dX3_addEdge_107 rfl ?_
          obtain ⟨σ_59, hc_58, H⟩ := bd_e H
          refine z_callV (M := M_X3_addEdge) (M' := M_X3_countSegment) (as := [vi i_0, vl x_54, vl x_56, vi k_5]) (rest := []) rfl rfl dX3_addEdge_109 m_X3_countSegment t_1978 t_1980 s_115 (c_X3_countSegment hl  hc_58) rfl rfl ly_222 rfl (Nat.le_of_ble_eq_true rfl) (Nat.le_of_ble_eq_true rfl) (Nat.le_of_ble_eq_true rfl) (Nat.le_of_ble_eq_true rfl) ?_
          refine z_st (st' := []) rfl ?_
          exact J_66 _ (Option.some.inj H).symm
        · refine z_icmp_lt_t (M := M_X3_addEdge) (tgt := 112) dX3_addEdge_88 (by decide) rfl rfl (Int.not_le.mp h_53) ?_
          exact J_66 _ (Option.some.inj H).symm
      · refine z_icmp_lt_t (M := M_X3_addEdge) (tgt := 112) dX3_addEdge_68 (by decide) rfl rfl (Int.not_le.mp h_48) ?_
        exact J_66 _ (Option.some.inj H).symm
    · refine z_icmp_gt_t (M := M_X3_addEdge) (tgt := 112) dX3_addEdge_48 (by decide) rfl rfl (Int.not_le.mp h_43) ?_
      exact J_66 _ (Option.some.inj H).symm
  · refine z_icmp_ge_t (M := M_X3_addEdge) (tgt := 118) dX3_addEdge_28 (by decide) rfl rfl (Int.not_lt.mp h_14) ?_
    exact J_100 _ _ (K_13 _ (Option.some.inj H).symm).symm
theorem c_X5_holds (hl : l.stackTraces = false) {σ : SG} {this_0 : Nat} {i_0 : Int} {x_0 : Int} {y_0 : Int} {r : Bool} (h_this : isG this_0) (H : fE_holds σ this_0 i_0 x_0 y_0 = some r) : en_S l E M_X5_holds 4 0 0 [vr this_0, vi i_0, vi x_0, vi y_0] σ (pS (some (zv r)) σ) := by
  unfold fE_holds at H
  refine z_mk (lv := [some (vr this_0), some (vi i_0), some (vi x_0), some (vi y_0)]) m_X5_holds rfl hl (Nat.le_of_ble_eq_true rfl) rfl ?_
  refine z_aload_n (M := M_X5_holds) dX5_holds_0 rfl ?_
  refine z_getR (M := M_X5_holds) (ci := 8) (C := RX5) (T := TX5) (Nf := 8) (ty := tyX5) cl8 dX5_holds_1 (ly_G h_this) 0 (by decide) t_234 rfl ?_
  refine z_iload_n (M := M_X5_holds) dX5_holds_4 rfl ?_
  obtain ⟨x_1, x_1_e, hi_2, H⟩ := rd_e H
  refine z_iald (M := M_X5_holds) dX5_holds_5 (ly_Gi (k := 1) h_this (by decide) (by decide)) rfl rfl rfl hi_2 x_1_e ?_
  refine z_aload_n (M := M_X5_holds) dX5_holds_6 rfl ?_
  refine z_getR (M := M_X5_holds) (ci := 8) (C := RX5) (T := TX5) (Nf := 8) (ty := tyX5) cl8 dX5_holds_7 (ly_G h_this) 1 (by decide) t_238 rfl ?_
  refine z_iload_n (M := M_X5_holds) dX5_holds_10 rfl ?_
  obtain ⟨x_3, x_3_e, hi_4, H⟩ := rd_e H
  refine z_iald (M := M_X5_holds) dX5_holds_11 (ly_Gi (k := 2) h_this (by decide) (by decide)) rfl rfl rfl hi_4 x_3_e ?_
  refine z_aload_n (M := M_X5_holds) dX5_holds_12 rfl ?_
  refine z_getR (M := M_X5_holds) (ci := 8) (C := RX5) (T := TX5) (Nf := 8) (ty := tyX5) cl8 dX5_holds_13 (ly_G h_this) 2 (by decide) t_242 rfl ?_
  refine z_iload_n (M := M_X5_holds) dX5_holds_16 rfl ?_
  obtain ⟨x_5, x_5_e, hi_6, H⟩ := rd_e H
  refine z_iald (M := M_X5_holds) dX5_holds_17 (ly_Gi (k := 3) h_this (by decide) (by decide)) rfl rfl rfl hi_6 x_5_e ?_
  refine z_aload_n (M := M_X5_holds) dX5_holds_18 rfl ?_
  refine z_getR (M := M_X5_holds) (ci := 8) (C := RX5) (T := TX5) (Nf := 8) (ty := tyX5) cl8 dX5_holds_19 (ly_G h_this) 3 (by decide) t_246 rfl ?_
  refine z_iload_n (M := M_X5_holds) dX5_holds_22 rfl ?_
  obtain ⟨x_7, x_7_e, hi_8, H⟩ := rd_e H
  refine z_iald (M := M_X5_holds) dX5_holds_23 (ly_Gi (k := 4) h_this (by decide) (by decide)) rfl rfl rfl hi_8 x_7_e ?_
  refine z_iload_n (M := M_X5_holds) dX5_holds_24 rfl ?_
  refine z_iload_n (M := M_X5_holds) dX5_holds_25 rfl ?_
  refine z_callSN (M := M_X5_holds) (M' := M_X11_isOnSegment) (as := [vi x_1, vi x_3, vi x_5, vi x_7, vi x_0, vi y_0]) (rest := []) rfl rfl dX5_holds_26 m_X11_isOnSegment n_1959 t_1320 (c_X11_isOnSegment hl  rfl) rfl rfl (Nat.le_of_ble_eq_true rfl) (Nat.le_of_ble_eq_true rfl) (Nat.le_of_ble_eq_true rfl) (Nat.le_of_ble_eq_true rfl) ?_
  refine z_st (st' := [zv (fQ_isOnSegment x_1 x_3 x_5 x_7 x_0 y_0)]) rfl ?_
  cases H
  exact z_zret (M := M_X5_holds) dX5_holds_29 rfl (Nat.le_of_ble_eq_true rfl) (Nat.le_of_ble_eq_true rfl) ⟨rfl, rfl⟩
theorem c_X3_cutAt (hl : l.stackTraces = false) {σ : SG} {i_0 : Int} {x_0 : Int} {y_0 : Int} {σ' : SG}  (H : fT_cutAt σ i_0 x_0 y_0 = some σ') : en_S l E M_X3_cutAt 5 0 0 [vr 222, vi i_0, vi x_0, vi y_0] σ (pS (none) σ') := by
  unfold fT_cutAt at H
  refine z_mk (lv := [some (vr 222), some (vi i_0), some (vi x_0), some (vi y_0)]) m_X3_cutAt rfl hl (Nat.le_of_ble_eq_true rfl) rfl ?_
  refine z_aload_n (M := M_X3_cutAt) dX3_cutAt_0 rfl ?_
  refine z_getR (M := M_X3_cutAt) (ci := 6) (C := RX3) (T := TX3) (Nf := 12) (ty := tyX3) cl6 dX3_cutAt_1 ly_222 0 (by decide) t_442 rfl ?_
  refine z_iload_n (M := M_X3_cutAt) dX3_cutAt_4 rfl ?_
  refine z_iload_n (M := M_X3_cutAt) dX3_cutAt_5 rfl ?_
  refine z_iload_n (M := M_X3_cutAt) dX3_cutAt_6 rfl ?_
  obtain ⟨x_2, hc_1, H⟩ := bd_e H
  refine z_callV (M := M_X3_cutAt) (M' := M_X5_holds) (as := [vi i_0, vi x_0, vi y_0]) (rest := []) rfl rfl dX3_cutAt_7 m_X5_holds t_1955 t_1956 t_1957 (c_X5_holds hl (by decide) hc_1) rfl rfl (ly_G (by decide)) rfl (Nat.le_of_ble_eq_true rfl) (Nat.le_of_ble_eq_true rfl) (Nat.le_of_ble_eq_true rfl) (Nat.le_of_ble_eq_true rfl) ?_
  refine z_st (st' := [zv x_2]) rfl ?_
  rcases if_e H with ⟨h_3, H⟩ | ⟨h_3, H⟩
  · refine z_zne_t (M := M_X3_cutAt) (tgt := 14) dX3_cutAt_10 (by decide) h_3 ?_
    obtain ⟨v_7, he_4, hk_5⟩ := bd_e H
    have J_26 : ∀ σ_25, v_7 = σ_25 → YY l E M_X3_cutAt 5 0 0 (pS (none) σ') 83 [some (vr 222), some (vi i_0), some (vi x_0), some (vi y_0)] [] σ_25 0 0 := by
      intro σ_25 e
      have H := hk_5
      rw [e] at H
      cases H
      exact z_vret (M := M_X3_cutAt) dX3_cutAt_83 rfl (Nat.le_of_ble_eq_true rfl) (Nat.le_of_ble_eq_true rfl) ⟨rfl, rfl⟩
    have H := he_4
    refine z_aload_n (M := M_X3_cutAt) dX3_cutAt_14 rfl ?_
    refine z_iload_n (M := M_X3_cutAt) dX3_cutAt_15 rfl ?_
    obtain ⟨x_9, hc_8, H⟩ := bd_e H
    refine z_callV (M := M_X3_cutAt) (M' := M_X3_wayX) (as := [vi i_0]) (rest := []) rfl rfl dX3_cutAt_16 m_X3_wayX t_1960 t_1962 s_112 (c_X3_wayX hl  hc_8) rfl rfl ly_222 rfl (Nat.le_of_ble_eq_true rfl) (Nat.le_of_ble_eq_true rfl) (Nat.le_of_ble_eq_true rfl) (Nat.le_of_ble_eq_true rfl) ?_
    refine z_st (st' := [vl x_9]) rfl ?_
    refine z_lconst (M := M_X3_cutAt) (m := 0) dX3_cutAt_19 (by decide +kernel) ?_
    refine z_lcmp (M := M_X3_cutAt) dX3_cutAt_20 ?_
    rcases if_e H with ⟨h_10, H⟩ | ⟨h_10, H⟩
    · refine z_lif_eq_f (M := M_X3_cutAt) (tgt := 55) dX3_cutAt_21 (by decide) rfl (by decide +kernel) h_10 ?_
      refine z_aload_n (M := M_X3_cutAt) dX3_cutAt_24 rfl ?_
      refine z_iload_n (M := M_X3_cutAt) dX3_cutAt_25 rfl ?_
      refine z_i2l (M := M_X3_cutAt) dX3_cutAt_26 ?_
      refine z_aload_n (M := M_X3_cutAt) dX3_cutAt_27 rfl ?_
      refine z_getR (M := M_X3_cutAt) (ci := 6) (C := RX3) (T := TX3) (Nf := 12) (ty := tyX3) cl6 dX3_cutAt_28 ly_222 0 (by decide) t_442 rfl ?_
      refine z_getR (M := M_X3_cutAt) (ci := 8) (C := RX5) (T := TX5) (Nf := 8) (ty := tyX5) cl8 dX3_cutAt_31 (ly_G (by decide)) 0 (by decide) t_236 rfl ?_
      refine z_iload_n (M := M_X3_cutAt) dX3_cutAt_34 rfl ?_
      obtain ⟨x_11, x_11_e, hi_12, H⟩ := rd_e H
      refine z_iald (M := M_X3_cutAt) dX3_cutAt_35 ly_224 rfl rfl rfl hi_12 x_11_e ?_
      refine z_i2l (M := M_X3_cutAt) dX3_cutAt_36 ?_
      refine z_lsub (M := M_X3_cutAt) dX3_cutAt_37 ?_
      refine z_labs (M := M_X3_cutAt) dX3_cutAt_38 t_1964 t_1131 t_20 t_1132 (Nat.le_of_ble_eq_true rfl) (Nat.le_of_ble_eq_true rfl) (Nat.le_of_ble_eq_true rfl) (Nat.le_of_ble_eq_true rfl) ?_
      refine z_aload_n (M := M_X3_cutAt) dX3_cutAt_41 rfl ?_
      refine z_iload_n (M := M_X3_cutAt) dX3_cutAt_42 rfl ?_
      obtain ⟨x_14, hc_13, H⟩ := bd_e H
      refine z_callV (M := M_X3_cutAt) (M' := M_X3_wayX) (as := [vi i_0]) (rest := [vl (q_abl ((w32 x_0) - (w32 x_11))), vr 222]) rfl rfl dX3_cutAt_43 m_X3_wayX t_1960 t_1962 s_112 (c_X3_wayX hl  hc_13) rfl rfl ly_222 rfl (Nat.le_of_ble_eq_true rfl) (Nat.le_of_ble_eq_true rfl) (Nat.le_of_ble_eq_true rfl) (Nat.le_of_ble_eq_true rfl) ?_
      refine z_st (st' := [vl x_14, vl (q_abl ((w32 x_0) - (w32 x_11))), vr 222]) rfl ?_
      refine z_labs (M := M_X3_cutAt) dX3_cutAt_46 t_1964 t_1131 t_20 t_1132 (Nat.le_of_ble_eq_true rfl) (Nat.le_of_ble_eq_true rfl) (Nat.le_of_ble_eq_true rfl) (Nat.le_of_ble_eq_true rfl) ?_
      obtain ⟨σ_16, hc_15, H⟩ := bd_e H
      refine z_callV (M := M_X3_cutAt) (M' := M_X3_addCut) (as := [vl (q_abl ((w32 x_0) - (w32 x_11))), vl (q_abl x_14)]) (rest := []) rfl rfl dX3_cutAt_49 m_X3_addCut t_1933 t_1935 s_109 (c_X3_addCut hl  hc_15) rfl rfl ly_222 rfl (Nat.le_of_ble_eq_true rfl) (Nat.le_of_ble_eq_true rfl) (Nat.le_of_ble_eq_true rfl) (Nat.le_of_ble_eq_true rfl) ?_
      refine z_st (st' := []) rfl ?_
      refine z_goto (M := M_X3_cutAt) (tgt := 83) dX3_cutAt_52 (by decide) ?_
      exact J_26 _ (Option.some.inj H).symm
    · refine z_lif_eq_t (M := M_X3_cutAt) (tgt := 55) dX3_cutAt_21 (by decide) rfl (by decide +kernel) (Decidable.not_not.mp h_10) ?_
      refine z_aload_n (M := M_X3_cutAt) dX3_cutAt_55 rfl ?_
      refine z_iload_n (M := M_X3_cutAt) dX3_cutAt_56 rfl ?_
      refine z_i2l (M := M_X3_cutAt) dX3_cutAt_57 ?_
      refine z_aload_n (M := M_X3_cutAt) dX3_cutAt_58 rfl ?_
      refine z_getR (M := M_X3_cutAt) (ci := 6) (C := RX3) (T := TX3) (Nf := 12) (ty := tyX3) cl6 dX3_cutAt_59 ly_222 0 (by decide) t_442 rfl ?_
      refine z_getR (M := M_X3_cutAt) (ci := 8) (C := RX5) (T := TX5) (Nf := 8) (ty := tyX5) cl8 dX3_cutAt_62 (ly_G (by decide)) 1 (by decide) t_240 rfl ?_
      refine z_iload_n (M := M_X3_cutAt) dX3_cutAt_65 rfl ?_
      obtain ⟨x_18, x_18_e, hi_19, H⟩ := rd_e H
      refine z_iald (M := M_X3_cutAt) dX3_cutAt_66 ly_225 rfl rfl rfl hi_19 x_18_e ?_
      refine z_i2l (M := M_X3_cutAt) dX3_cutAt_67 ?_
      refine z_lsub (M := M_X3_cutAt) dX3_cutAt_68 ?_
      refine z_labs (M := M_X3_cutAt) dX3_cutAt_69 t_1964 t_1131 t_20 t_1132 (Nat.le_of_ble_eq_true rfl) (Nat.le_of_ble_eq_true rfl) (Nat.le_of_ble_eq_true rfl) (Nat.le_of_ble_eq_true rfl) ?_
      refine z_aload_n (M := M_X3_cutAt) dX3_cutAt_72 rfl ?_
      refine z_iload_n (M := M_X3_cutAt) dX3_cutAt_73 rfl ?_
      obtain ⟨x_21, hc_20, H⟩ := bd_e H
      refine z_callV (M := M_X3_cutAt) (M' := M_X3_wayY) (as := [vi i_0]) (rest := [vl (q_abl ((w32 y_0) - (w32 x_18))), vr 222]) rfl rfl dX3_cutAt_74 m_X3_wayY t_1965 t_1967 s_113 (c_X3_wayY hl  hc_20) rfl rfl ly_222 rfl (Nat.le_of_ble_eq_true rfl) (Nat.le_of_ble_eq_true rfl) (Nat.le_of_ble_eq_true rfl) (Nat.le_of_ble_eq_true rfl) ?_
      refine z_st (st' := [vl x_21, vl (q_abl ((w32 y_0) - (w32 x_18))), vr 222]) rfl ?_
      refine z_labs (M := M_X3_cutAt) dX3_cutAt_77 t_1964 t_1131 t_20 t_1132 (Nat.le_of_ble_eq_true rfl) (Nat.le_of_ble_eq_true rfl) (Nat.le_of_ble_eq_true rfl) (Nat.le_of_ble_eq_true rfl) ?_
      obtain ⟨σ_23, hc_22, H⟩ := bd_e H
      refine z_callV (M := M_X3_cutAt) (M' := M_X3_addCut) (as := [vl (q_abl ((w32 y_0) - (w32 x_18))), vl (q_abl x_21)]) (rest := []) rfl rfl dX3_cutAt_80 m_X3_addCut t_1933 t_1935 s_109 (c_X3_addCut hl  hc_22) rfl rfl ly_222 rfl (Nat.le_of_ble_eq_true rfl) (Nat.le_of_ble_eq_true rfl) (Nat.le_of_ble_eq_true rfl) (Nat.le_of_ble_eq_true rfl) ?_
      refine z_st (st' := []) rfl ?_
      exact J_26 _ (Option.some.inj H).symm
  · refine z_zne_f (M := M_X3_cutAt) (tgt := 14) dX3_cutAt_10 (by decide) h_3 ?_
    cases H
    exact z_vret (M := M_X3_cutAt) dX3_cutAt_13 rfl (Nat.le_of_ble_eq_true rfl) (Nat.le_of_ble_eq_true rfl) ⟨rfl, rfl⟩
theorem c_X3_cut (hl : l.stackTraces = false) {σ : SG} {i_0 : Int} {j_0 : Int} {σ' : SG}  (H : fT_cut σ i_0 j_0 = some σ') : en_S l E M_X3_cut 6 0 0 [vr 222, vi i_0, vi j_0] σ (pS (none) σ') := by
  unfold fT_cut at H
  refine z_mk (lv := [some (vr 222), some (vi i_0), some (vi j_0), none, none, none, none, none, none, none, none, none]) m_X3_cut rfl hl (Nat.le_of_ble_eq_true rfl) rfl ?_
  refine z_aload_n (M := M_X3_cut) dX3_cut_0 rfl ?_
  refine z_getR (M := M_X3_cut) (ci := 6) (C := RX3) (T := TX3) (Nf := 12) (ty := tyX3) cl6 dX3_cut_1 ly_222 0 (by decide) t_442 rfl ?_
  refine z_iload_n (M := M_X3_cut) dX3_cut_4 rfl ?_
  refine z_iload_n (M := M_X3_cut) dX3_cut_5 rfl ?_
  obtain ⟨⟨x_3, σ_2⟩, hc_1, H⟩ := bd_e H
  refine z_callV (M := M_X3_cut) (M' := M_X5_meet) (as := [vi i_0, vi j_0]) (rest := []) rfl rfl dX3_cut_6 m_X5_meet t_1913 t_1256 t_1257 (c_X5_meet hl (by decide) hc_1) rfl rfl (ly_G (by decide)) rfl (Nat.le_of_ble_eq_true rfl) (Nat.le_of_ble_eq_true rfl) (Nat.le_of_ble_eq_true rfl) (Nat.le_of_ble_eq_true rfl) ?_
  refine z_st (st' := [vi x_3]) rfl ?_
  refine z_istore_n (M := M_X3_cut) (lv' := [some (vr 222), some (vi i_0), some (vi j_0), some (vi x_3), none, none, none, none, none, none, none, none]) dX3_cut_9 (Nat.le_of_ble_eq_true rfl) rfl rfl ?_
  obtain ⟨v_7, he_4, hk_5⟩ := bd_e H
  have J_62 : ∀ σ_61, v_7 = σ_61 → YY l E M_X3_cut 6 0 0 (pS (none) σ') 194 [some (vr 222), some (vi i_0), some (vi j_0), some (vi x_3), none, none, none, none, none, none, none, none] [] σ_61 0 0 := by
    intro σ_61 e
    have H := hk_5
    rw [e] at H
    cases H
    exact z_vret (M := M_X3_cut) dX3_cut_194 rfl (Nat.le_of_ble_eq_true rfl) (Nat.le_of_ble_eq_true rfl) ⟨rfl, rfl⟩
  have H := he_4
  refine z_iload_n (M := M_X3_cut) dX3_cut_10 rfl ?_
  refine z_iconst (M := M_X3_cut) dX3_cut_11 ?_
  rcases if_e H with ⟨h_8, H⟩ | ⟨h_8, H⟩
  · refine z_icmp_ne_f (M := M_X3_cut) (tgt := 37) dX3_cut_12 (by decide) rfl (by decide +kernel) h_8 ?_
    refine z_aload_n (M := M_X3_cut) dX3_cut_15 rfl ?_
    refine z_iload_n (M := M_X3_cut) dX3_cut_16 rfl ?_
    refine z_aload_n (M := M_X3_cut) dX3_cut_17 rfl ?_
    refine z_getR (M := M_X3_cut) (ci := 6) (C := RX3) (T := TX3) (Nf := 12) (ty := tyX3) cl6 dX3_cut_18 ly_222 0 (by decide) t_442 rfl ?_
    refine z_getI (M := M_X3_cut) (ci := 8) (C := RX5) (T := TX5) (Nf := 8) (ty := tyX5) cl8 dX3_cut_21 (ly_G (by decide)) 6 (by decide) t_260 rfl rfl ?_
    refine z_aload_n (M := M_X3_cut) dX3_cut_24 rfl ?_
    refine z_getR (M := M_X3_cut) (ci := 6) (C := RX3) (T := TX3) (Nf := 12) (ty := tyX3) cl6 dX3_cut_25 ly_222 0 (by decide) t_442 rfl ?_
    refine z_getI (M := M_X3_cut) (ci := 8) (C := RX5) (T := TX5) (Nf := 8) (ty := tyX5) cl8 dX3_cut_28 (ly_G (by decide)) 7 (by decide) t_263 rfl rfl ?_
    obtain ⟨σ_10, hc_9, H⟩ := bd_e H
    refine z_callV (M := M_X3_cut) (M' := M_X3_cutAt) (as := [vi i_0, vi (σ_2 (kE_placeX 223) 0), vi (σ_2 (kE_placeY 223) 0)]) (rest := []) rfl rfl dX3_cut_31 m_X3_cutAt t_1951 t_1953 s_111 (c_X3_cutAt hl  hc_9) rfl rfl ly_222 rfl (Nat.le_of_ble_eq_true rfl) (Nat.le_of_ble_eq_true rfl) (Nat.le_of_ble_eq_true rfl) (Nat.le_of_ble_eq_true rfl) ?_
    refine z_st (st' := []) rfl ?_
    refine z_goto (M := M_X3_cut) (tgt := 194) dX3_cut_34 (by decide) ?_
    exact J_62 _ (Option.some.inj H).symm
  · refine z_icmp_ne_t (M := M_X3_cut) (tgt := 37) dX3_cut_12 (by decide) rfl (by decide +kernel) h_8 ?_
    obtain ⟨v_15, he_12, hk_13⟩ := bd_e H
    have J_60 : ∀ σ_58, v_15 = σ_58 → YY l E M_X3_cut 6 0 0 (pS (none) σ') 194 [some (vr 222), some (vi i_0), some (vi j_0), some (vi x_3), none, none, none, none, none, none, none, none] [] σ_58 0 0 := by
      intro σ_58 e
      have H := hk_13
      rw [e] at H
      exact J_62 _ (Option.some.inj H).symm
    have H := he_12
    refine z_iload_n (M := M_X3_cut) dX3_cut_37 rfl ?_
    refine z_iconst (M := M_X3_cut) dX3_cut_38 ?_
    rcases if_e H with ⟨h_16, H⟩ | ⟨h_16, H⟩
    · refine z_icmp_ne_f (M := M_X3_cut) (tgt := 91) dX3_cut_39 (by decide) rfl (by decide +kernel) h_16 ?_
      refine z_aload_n (M := M_X3_cut) dX3_cut_42 rfl ?_
      refine z_iload_n (M := M_X3_cut) dX3_cut_43 rfl ?_
      refine z_aload_n (M := M_X3_cut) dX3_cut_44 rfl ?_
      refine z_getR (M := M_X3_cut) (ci := 6) (C := RX3) (T := TX3) (Nf := 12) (ty := tyX3) cl6 dX3_cut_45 ly_222 0 (by decide) t_442 rfl ?_
      refine z_getR (M := M_X3_cut) (ci := 8) (C := RX5) (T := TX5) (Nf := 8) (ty := tyX5) cl8 dX3_cut_48 (ly_G (by decide)) 0 (by decide) t_236 rfl ?_
      refine z_iload_n (M := M_X3_cut) dX3_cut_51 rfl ?_
      obtain ⟨x_17, x_17_e, hi_18, H⟩ := rd_e H
      refine z_iald (M := M_X3_cut) dX3_cut_52 ly_224 rfl rfl rfl hi_18 x_17_e ?_
      refine z_aload_n (M := M_X3_cut) dX3_cut_53 rfl ?_
      refine z_getR (M := M_X3_cut) (ci := 6) (C := RX3) (T := TX3) (Nf := 12) (ty := tyX3) cl6 dX3_cut_54 ly_222 0 (by decide) t_442 rfl ?_
      refine z_getR (M := M_X3_cut) (ci := 8) (C := RX5) (T := TX5) (Nf := 8) (ty := tyX5) cl8 dX3_cut_57 (ly_G (by decide)) 1 (by decide) t_240 rfl ?_
      refine z_iload_n (M := M_X3_cut) dX3_cut_60 rfl ?_
      obtain ⟨x_19, x_19_e, hi_20, H⟩ := rd_e H
      refine z_iald (M := M_X3_cut) dX3_cut_61 ly_225 rfl rfl rfl hi_20 x_19_e ?_
      obtain ⟨σ_22, hc_21, H⟩ := bd_e H
      refine z_callV (M := M_X3_cut) (M' := M_X3_cutAt) (as := [vi i_0, vi x_17, vi x_19]) (rest := []) rfl rfl dX3_cut_62 m_X3_cutAt t_1951 t_1953 s_111 (c_X3_cutAt hl  hc_21) rfl rfl ly_222 rfl (Nat.le_of_ble_eq_true rfl) (Nat.le_of_ble_eq_true rfl) (Nat.le_of_ble_eq_true rfl) (Nat.le_of_ble_eq_true rfl) ?_
      refine z_st (st' := []) rfl ?_
      refine z_aload_n (M := M_X3_cut) dX3_cut_65 rfl ?_
      refine z_iload_n (M := M_X3_cut) dX3_cut_66 rfl ?_
      refine z_aload_n (M := M_X3_cut) dX3_cut_67 rfl ?_
      refine z_getR (M := M_X3_cut) (ci := 6) (C := RX3) (T := TX3) (Nf := 12) (ty := tyX3) cl6 dX3_cut_68 ly_222 0 (by decide) t_442 rfl ?_
      refine z_getR (M := M_X3_cut) (ci := 8) (C := RX5) (T := TX5) (Nf := 8) (ty := tyX5) cl8 dX3_cut_71 (ly_G (by decide)) 2 (by decide) t_244 rfl ?_
      refine z_iload_n (M := M_X3_cut) dX3_cut_74 rfl ?_
      obtain ⟨x_23, x_23_e, hi_24, H⟩ := rd_e H
      refine z_iald (M := M_X3_cut) dX3_cut_75 ly_226 rfl rfl rfl hi_24 x_23_e ?_
      refine z_aload_n (M := M_X3_cut) dX3_cut_76 rfl ?_
      refine z_getR (M := M_X3_cut) (ci := 6) (C := RX3) (T := TX3) (Nf := 12) (ty := tyX3) cl6 dX3_cut_77 ly_222 0 (by decide) t_442 rfl ?_
      refine z_getR (M := M_X3_cut) (ci := 8) (C := RX5) (T := TX5) (Nf := 8) (ty := tyX5) cl8 dX3_cut_80 (ly_G (by decide)) 3 (by decide) t_248 rfl ?_
      refine z_iload_n (M := M_X3_cut) dX3_cut_83 rfl ?_
      obtain ⟨x_25, x_25_e, hi_26, H⟩ := rd_e H
      refine z_iald (M := M_X3_cut) dX3_cut_84 ly_227 rfl rfl rfl hi_26 x_25_e ?_
      obtain ⟨σ_28, hc_27, H⟩ := bd_e H
      refine z_callV (M := M_X3_cut) (M' := M_X3_cutAt) (as := [vi i_0, vi x_23, vi x_25]) (rest := []) rfl rfl dX3_cut_85 m_X3_cutAt t_1951 t_1953 s_111 (c_X3_cutAt hl  hc_27) rfl rfl ly_222 rfl (Nat.le_of_ble_eq_true rfl) (Nat.le_of_ble_eq_true rfl) (Nat.le_of_ble_eq_true rfl) (Nat.le_of_ble_eq_true rfl) ?_
      refine z_st (st' := []) rfl ?_
      refine z_goto (M := M_X3_cut) (tgt := 194) dX3_cut_88 (by decide) ?_
      exact J_60 _ (Option.some.inj H).symm
    · refine z_icmp_ne_t (M := M_X3_cut) (tgt := 91) dX3_cut_39 (by decide) rfl (by decide +kernel) h_16 ?_
      obtain ⟨v_33, he_30, hk_31⟩ := bd_e H
      have J_57 : ∀ σ_55, v_33 = σ_55 → YY l E M_X3_cut 6 0 0 (pS (none) σ') 194 [some (vr 222), some (vi i_0), some (vi j_0), some (vi x_3), none, none, none, none, none, none, none, none] [] σ_55 0 0 := by
        intro σ_55 e
        have H := hk_31
        rw [e] at H
        exact J_60 _ (Option.some.inj H).symm
      have H := he_30
      refine z_iload_n (M := M_X3_cut) dX3_cut_91 rfl ?_
      refine z_iconst (M := M_X3_cut) dX3_cut_92 ?_
      rcases if_e H with ⟨h_34, H⟩ | ⟨h_34, H⟩
      · refine z_icmp_ne_f (M := M_X3_cut) (tgt := 194) dX3_cut_93 (by decide) rfl (by decide +kernel) h_34 ?_
        refine z_aload_n (M := M_X3_cut) dX3_cut_96 rfl ?_
        refine z_iload_n (M := M_X3_cut) dX3_cut_97 rfl ?_
        obtain ⟨x_36, hc_35, H⟩ := bd_e H
        refine z_callV (M := M_X3_cut) (M' := M_X3_wayX) (as := [vi j_0]) (rest := []) rfl rfl dX3_cut_98 m_X3_wayX t_1960 t_1962 s_112 (c_X3_wayX hl  hc_35) rfl rfl ly_222 rfl (Nat.le_of_ble_eq_true rfl) (Nat.le_of_ble_eq_true rfl) (Nat.le_of_ble_eq_true rfl) (Nat.le_of_ble_eq_true rfl) ?_
        refine z_st (st' := [vl x_36]) rfl ?_
        refine z_lstore (M := M_X3_cut) (lv' := [some (vr 222), some (vi i_0), some (vi j_0), some (vi x_3), some (vl x_36), none, none, none, none, none, none, none]) dX3_cut_101 (Nat.le_of_ble_eq_true rfl) rfl rfl ?_
        refine z_aload_n (M := M_X3_cut) dX3_cut_103 rfl ?_
        refine z_iload_n (M := M_X3_cut) dX3_cut_104 rfl ?_
        obtain ⟨x_38, hc_37, H⟩ := bd_e H
        refine z_callV (M := M_X3_cut) (M' := M_X3_wayY) (as := [vi j_0]) (rest := []) rfl rfl dX3_cut_105 m_X3_wayY t_1965 t_1967 s_113 (c_X3_wayY hl  hc_37) rfl rfl ly_222 rfl (Nat.le_of_ble_eq_true rfl) (Nat.le_of_ble_eq_true rfl) (Nat.le_of_ble_eq_true rfl) (Nat.le_of_ble_eq_true rfl) ?_
        refine z_st (st' := [vl x_38]) rfl ?_
        refine z_lstore (M := M_X3_cut) (lv' := [some (vr 222), some (vi i_0), some (vi j_0), some (vi x_3), some (vl x_36), none, some (vl x_38), none, none, none, none, none]) dX3_cut_108 (Nat.le_of_ble_eq_true rfl) rfl rfl ?_
        refine z_aload_n (M := M_X3_cut) dX3_cut_110 rfl ?_
        refine z_getR (M := M_X3_cut) (ci := 6) (C := RX3) (T := TX3) (Nf := 12) (ty := tyX3) cl6 dX3_cut_111 ly_222 0 (by decide) t_442 rfl ?_
        refine z_getR (M := M_X3_cut) (ci := 8) (C := RX5) (T := TX5) (Nf := 8) (ty := tyX5) cl8 dX3_cut_114 (ly_G (by decide)) 0 (by decide) t_236 rfl ?_
        refine z_iload_n (M := M_X3_cut) dX3_cut_117 rfl ?_
        obtain ⟨x_39, x_39_e, hi_40, H⟩ := rd_e H
        refine z_iald (M := M_X3_cut) dX3_cut_118 ly_224 rfl rfl rfl hi_40 x_39_e ?_
        refine z_i2l (M := M_X3_cut) dX3_cut_119 ?_
        refine z_aload_n (M := M_X3_cut) dX3_cut_120 rfl ?_
        refine z_getR (M := M_X3_cut) (ci := 6) (C := RX3) (T := TX3) (Nf := 12) (ty := tyX3) cl6 dX3_cut_121 ly_222 0 (by decide) t_442 rfl ?_
        refine z_getR (M := M_X3_cut) (ci := 8) (C := RX5) (T := TX5) (Nf := 8) (ty := tyX5) cl8 dX3_cut_124 (ly_G (by decide)) 0 (by decide) t_236 rfl ?_
        refine z_iload_n (M := M_X3_cut) dX3_cut_127 rfl ?_
        obtain ⟨x_41, x_41_e, hi_42, H⟩ := rd_e H
        refine z_iald (M := M_X3_cut) dX3_cut_128 ly_224 rfl rfl rfl hi_42 x_41_e ?_
        refine z_i2l (M := M_X3_cut) dX3_cut_129 ?_
        refine z_lsub (M := M_X3_cut) dX3_cut_130 ?_
        refine z_lstore (M := M_X3_cut) (lv' := [some (vr 222), some (vi i_0), some (vi j_0), some (vi x_3), some (vl x_36), none, some (vl x_38), none, some (vl ((w32 x_39) - (w32 x_41))), none, none, none]) dX3_cut_131 (Nat.le_of_ble_eq_true rfl) rfl rfl ?_
        refine z_aload_n (M := M_X3_cut) dX3_cut_133 rfl ?_
        refine z_getR (M := M_X3_cut) (ci := 6) (C := RX3) (T := TX3) (Nf := 12) (ty := tyX3) cl6 dX3_cut_134 ly_222 0 (by decide) t_442 rfl ?_
        refine z_getR (M := M_X3_cut) (ci := 8) (C := RX5) (T := TX5) (Nf := 8) (ty := tyX5) cl8 dX3_cut_137 (ly_G (by decide)) 1 (by decide) t_240 rfl ?_
        refine z_iload_n (M := M_X3_cut) dX3_cut_140 rfl ?_
        obtain ⟨x_43, x_43_e, hi_44, H⟩ := rd_e H
        refine z_iald (M := M_X3_cut) dX3_cut_141 ly_225 rfl rfl rfl hi_44 x_43_e ?_
        refine z_i2l (M := M_X3_cut) dX3_cut_142 ?_
        refine z_aload_n (M := M_X3_cut) dX3_cut_143 rfl ?_
        refine z_getR (M := M_X3_cut) (ci := 6) (C := RX3) (T := TX3) (Nf := 12) (ty := tyX3) cl6 dX3_cut_144 ly_222 0 (by decide) t_442 rfl ?_
        refine z_getR (M := M_X3_cut) (ci := 8) (C := RX5) (T := TX5) (Nf := 8) (ty := tyX5) cl8 dX3_cut_147 (ly_G (by decide)) 1 (by decide) t_240 rfl ?_
        refine z_iload_n (M := M_X3_cut) dX3_cut_150 rfl ?_
        obtain ⟨x_45, x_45_e, hi_46, H⟩ := rd_e H
        refine z_iald (M := M_X3_cut) dX3_cut_151 ly_225 rfl rfl rfl hi_46 x_45_e ?_
        refine z_i2l (M := M_X3_cut) dX3_cut_152 ?_
        refine z_lsub (M := M_X3_cut) dX3_cut_153 ?_
        refine z_lstore (M := M_X3_cut) (lv' := [some (vr 222), some (vi i_0), some (vi j_0), some (vi x_3), some (vl x_36), none, some (vl x_38), none, some (vl ((w32 x_39) - (w32 x_41))), none, some (vl ((w32 x_43) - (w32 x_45))), none]) dX3_cut_154 (Nat.le_of_ble_eq_true rfl) rfl rfl ?_
        refine z_aload_n (M := M_X3_cut) dX3_cut_156 rfl ?_
        refine z_lload (M := M_X3_cut) dX3_cut_157 rfl ?_
        refine z_lload (M := M_X3_cut) dX3_cut_159 rfl ?_
        refine z_lmul (M := M_X3_cut) dX3_cut_161 ?_
        refine z_lload (M := M_X3_cut) dX3_cut_162 rfl ?_
        refine z_lload (M := M_X3_cut) dX3_cut_164 rfl ?_
        refine z_lmul (M := M_X3_cut) dX3_cut_166 ?_
        refine z_lsub (M := M_X3_cut) dX3_cut_167 ?_
        refine z_labs (M := M_X3_cut) dX3_cut_168 t_1964 t_1131 t_20 t_1132 (Nat.le_of_ble_eq_true rfl) (Nat.le_of_ble_eq_true rfl) (Nat.le_of_ble_eq_true rfl) (Nat.le_of_ble_eq_true rfl) ?_
        refine z_aload_n (M := M_X3_cut) dX3_cut_171 rfl ?_
        refine z_iload_n (M := M_X3_cut) dX3_cut_172 rfl ?_
        obtain ⟨x_48, hc_47, H⟩ := bd_e H
        refine z_callV (M := M_X3_cut) (M' := M_X3_wayX) (as := [vi i_0]) (rest := [vl (q_abl ((((w32 x_39) - (w32 x_41)) * x_38) - (((w32 x_43) - (w32 x_45)) * x_36))), vr 222]) rfl rfl dX3_cut_173 m_X3_wayX t_1960 t_1962 s_112 (c_X3_wayX hl  hc_47) rfl rfl ly_222 rfl (Nat.le_of_ble_eq_true rfl) (Nat.le_of_ble_eq_true rfl) (Nat.le_of_ble_eq_true rfl) (Nat.le_of_ble_eq_true rfl) ?_
        refine z_st (st' := [vl x_48, vl (q_abl ((((w32 x_39) - (w32 x_41)) * x_38) - (((w32 x_43) - (w32 x_45)) * x_36))), vr 222]) rfl ?_
        refine z_lload (M := M_X3_cut) dX3_cut_176 rfl ?_
        refine z_lmul (M := M_X3_cut) dX3_cut_178 ?_
        refine z_aload_n (M := M_X3_cut) dX3_cut_179 rfl ?_
        refine z_iload_n (M := M_X3_cut) dX3_cut_180 rfl ?_
        obtain ⟨x_50, hc_49, H⟩ := bd_e H
        refine z_callV (M := M_X3_cut) (M' := M_X3_wayY) (as := [vi i_0]) (rest := [vl (x_48 * x_38), vl (q_abl ((((w32 x_39) - (w32 x_41)) * x_38) - (((w32 x_43) - (w32 x_45)) * x_36))), vr 222]) rfl rfl dX3_cut_181 m_X3_wayY t_1965 t_1967 s_113 (c_X3_wayY hl  hc_49) rfl rfl ly_222 rfl (Nat.le_of_ble_eq_true rfl) (Nat.le_of_ble_eq_true rfl) (Nat.le_of_ble_eq_true rfl) (Nat.le_of_ble_eq_true rfl) ?_
        refine z_st (st' := [vl x_50, vl (x_48 * x_38), vl (q_abl ((((w32 x_39) - (w32 x_41)) * x_38) - (((w32 x_43) - (w32 x_45)) * x_36))), vr 222]) rfl ?_
        refine z_lload (M := M_X3_cut) dX3_cut_184 rfl ?_
        refine z_lmul (M := M_X3_cut) dX3_cut_186 ?_
        refine z_lsub (M := M_X3_cut) dX3_cut_187 ?_
        refine z_labs (M := M_X3_cut) dX3_cut_188 t_1964 t_1131 t_20 t_1132 (Nat.le_of_ble_eq_true rfl) (Nat.le_of_ble_eq_true rfl) (Nat.le_of_ble_eq_true rfl) (Nat.le_of_ble_eq_true rfl) ?_
        obtain ⟨σ_52, hc_51, H⟩ := bd_e H
        refine z_callV (M := M_X3_cut) (M' := M_X3_addCut) (as := [vl (q_abl ((((w32 x_39) - (w32 x_41)) * x_38) - (((w32 x_43) - (w32 x_45)) * x_36))), vl (q_abl ((x_48 * x_38) - (x_50 * x_36)))]) (rest := []) rfl rfl dX3_cut_191 m_X3_addCut t_1933 t_1935 s_109 (c_X3_addCut hl  hc_51) rfl rfl ly_222 rfl (Nat.le_of_ble_eq_true rfl) (Nat.le_of_ble_eq_true rfl) (Nat.le_of_ble_eq_true rfl) (Nat.le_of_ble_eq_true rfl) ?_
        refine z_st (st' := []) rfl ?_
        refine z_le (lv' := [some (vr 222), some (vi i_0), some (vi j_0), some (vi x_3), none, none, none, none, none, none, none, none]) ⟨Or.inr rfl, Or.inr rfl, Or.inr rfl, Or.inr rfl, Or.inl rfl, Or.inl rfl, Or.inl rfl, Or.inl rfl, Or.inl rfl, Or.inl rfl, Or.inl rfl, Or.inl rfl, trivial⟩ ?_
        exact J_57 _ (Option.some.inj H).symm
      · refine z_icmp_ne_t (M := M_X3_cut) (tgt := 194) dX3_cut_93 (by decide) rfl (by decide +kernel) h_34 ?_
        exact J_57 _ (Option.some.inj H).symm
theorem c_X3_addEdges (hl : l.stackTraces = false) {σ : SG} {one_0 : Nat} {two_0 : Nat} {i_0 : Int} {σ' : SG} (h_one : isS one_0) (h_two : isS two_0) (H : fT_addEdges σ one_0 two_0 i_0 = some σ') : en_S l E M_X3_addEdges 7 0 0 [vr 222, vr one_0, vr two_0, vi i_0] σ (pS (none) σ') := by
  unfold fT_addEdges at H
  refine z_mk (lv := [some (vr 222), some (vr one_0), some (vr two_0), some (vi i_0), none]) m_X3_addEdges rfl hl (Nat.le_of_ble_eq_true rfl) rfl ?_
  refine z_aload_n (M := M_X3_addEdges) dX3_addEdges_0 rfl ?_
  refine z_iconst (M := M_X3_addEdges) dX3_addEdges_1 ?_
  obtain ⟨σ_1, σ_1_e, H⟩ := wf_e H
  refine z_putI (M := M_X3_addEdges) (ci := 6) (C := RX3) (T := TX3) (Nf := 12) (ty := tyX3) cl6 dX3_addEdges_2 ly_222 9 (by decide) t_451 rfl rfl rfl rfl σ_1_e ?_
  refine z_aload_n (M := M_X3_addEdges) dX3_addEdges_5 rfl ?_
  refine z_lconst (M := M_X3_addEdges) (m := 0) dX3_addEdges_6 (by decide +kernel) ?_
  refine z_lconst (M := M_X3_addEdges) (m := 1) dX3_addEdges_7 (by decide +kernel) ?_
  obtain ⟨σ_3, hc_2, H⟩ := bd_e H
  refine z_callV (M := M_X3_addEdges) (M' := M_X3_addCut) (as := [vl 0, vl 1]) (rest := []) rfl rfl dX3_addEdges_8 m_X3_addCut t_1933 t_1935 s_109 (c_X3_addCut hl  hc_2) rfl rfl ly_222 rfl (Nat.le_of_ble_eq_true rfl) (Nat.le_of_ble_eq_true rfl) (Nat.le_of_ble_eq_true rfl) (Nat.le_of_ble_eq_true rfl) ?_
  refine z_st (st' := []) rfl ?_
  refine z_iconst (M := M_X3_addEdges) dX3_addEdges_11 ?_
  refine z_istore (M := M_X3_addEdges) (lv' := [some (vr 222), some (vr one_0), some (vr two_0), some (vi i_0), some (vi 0)]) dX3_addEdges_12 (Nat.le_of_ble_eq_true rfl) rfl rfl ?_
  obtain ⟨rl_9, hw_6, hk_7⟩ := bd_e H
  have J_83 : ∀ j_27 σ_28, rl_9 = (j_27, σ_28) → YY l E M_X3_addEdges 7 0 0 (pS (none) σ') 45 [some (vr 222), some (vr one_0), some (vr two_0), some (vi i_0), some (vi j_27)] [] σ_28 0 0 := by
    intro j_27 σ_28 e
    have H := hk_7
    rw [e] at H
    refine z_iconst (M := M_X3_addEdges) dX3_addEdges_45 ?_
    refine z_istore (M := M_X3_addEdges) (lv' := [some (vr 222), some (vr one_0), some (vr two_0), some (vi i_0), some (vi 0)]) dX3_addEdges_46 (Nat.le_of_ble_eq_true rfl) rfl rfl ?_
    obtain ⟨rl_34, hw_31, hk_32⟩ := bd_e H
    have J_82 : ∀ k_80 σ_81, rl_34 = (k_80, σ_81) → YY l E M_X3_addEdges 7 0 0 (pS (none) σ') 118 [some (vr 222), some (vr one_0), some (vr two_0), some (vi i_0), some (vi k_80)] [] σ_81 0 0 := by
      intro k_80 σ_81 e
      have H := hk_32
      rw [e] at H
      cases H
      exact z_vret (M := M_X3_addEdges) dX3_addEdges_118 rfl (Nat.le_of_ble_eq_true rfl) (Nat.le_of_ble_eq_true rfl) ⟨rfl, rfl⟩
    refine whl_go hw_31 (fun (k_29, σ_30) => YY l E M_X3_addEdges 7 0 0 (pS (none) σ') 48 [some (vr 222), some (vr one_0), some (vr two_0), some (vi i_0), some (vi k_29)] [] σ_30 0 0) ?_
    rintro ⟨k_29, σ_30⟩ o_35 H K_36 K_37
    refine z_iload (M := M_X3_addEdges) dX3_addEdges_48 rfl ?_
    refine z_aload_n (M := M_X3_addEdges) dX3_addEdges_50 rfl ?_
    refine z_getI (M := M_X3_addEdges) (ci := 6) (C := RX3) (T := TX3) (Nf := 12) (ty := tyX3) cl6 dX3_addEdges_51 ly_222 9 (by decide) t_451 rfl rfl ?_
    rcases if_e H with ⟨h_38, H⟩ | ⟨h_38, H⟩
    · refine z_icmp_ge_f (M := M_X3_addEdges) (tgt := 118) dX3_addEdges_54 (by decide) rfl rfl h_38 ?_
      obtain ⟨v_42, he_39, hk_40⟩ := bd_e H
      have J_78 : ∀ σ_76, v_42 = σ_76 → YY l E M_X3_addEdges 7 0 0 (pS (none) σ') 112 [some (vr 222), some (vr one_0), some (vr two_0), some (vi i_0), some (vi k_29)] [] σ_76 0 0 := by
        intro σ_76 e
        have H := hk_40
        rw [e] at H
        refine z_iinc (M := M_X3_addEdges) (lv' := [some (vr 222), some (vr one_0), some (vr two_0), some (vi i_0), some (vi (k_29 + 1))]) dX3_addEdges_112 rfl (Nat.le_of_ble_eq_true rfl) rfl rfl ?_
        refine z_goto (M := M_X3_addEdges) (tgt := 48) dX3_addEdges_115 (by decide) ?_
        exact K_36 _ (Option.some.inj H).symm
      have H := he_39
      refine z_iload (M := M_X3_addEdges) dX3_addEdges_57 rfl ?_
      rcases if_e H with ⟨h_59, H⟩ | ⟨h_59, H⟩
      · refine z_if_eq_t (M := M_X3_addEdges) (tgt := 103) dX3_addEdges_59 (by decide) rfl h_59 ?_
        refine z_aload_n (M := M_X3_addEdges) dX3_addEdges_103 rfl ?_
        refine z_aload_n (M := M_X3_addEdges) dX3_addEdges_104 rfl ?_
        refine z_aload_n (M := M_X3_addEdges) dX3_addEdges_105 rfl ?_
        refine z_iload_n (M := M_X3_addEdges) dX3_addEdges_106 rfl ?_
        refine z_iload (M := M_X3_addEdges) dX3_addEdges_107 rfl ?_
        obtain ⟨σ_61, hc_60, H⟩ := bd_e H
        refine z_callV (M := M_X3_addEdges) (M' := M_X3_addEdge) (as := [vr one_0, vr two_0, vi i_0, vi k_29]) (rest := []) rfl rfl dX3_addEdges_109 m_X3_addEdge t_1969 t_1971 s_114 (c_X3_addEdge hl h_one h_two hc_60) rfl rfl ly_222 rfl (Nat.le_of_ble_eq_true rfl) (Nat.le_of_ble_eq_true rfl) (Nat.le_of_ble_eq_true rfl) (Nat.le_of_ble_eq_true rfl) ?_
        refine z_st (st' := []) rfl ?_
        exact J_78 _ (Option.some.inj H).symm
      · refine z_if_eq_f (M := M_X3_addEdges) (tgt := 103) dX3_addEdges_59 (by decide) rfl h_59 ?_
        refine z_aload_n (M := M_X3_addEdges) dX3_addEdges_62 rfl ?_
        refine z_getR (M := M_X3_addEdges) (ci := 6) (C := RX3) (T := TX3) (Nf := 12) (ty := tyX3) cl6 dX3_addEdges_63 ly_222 7 (by decide) t_449 rfl ?_
        refine z_iload (M := M_X3_addEdges) dX3_addEdges_66 rfl ?_
        refine z_iconst (M := M_X3_addEdges) dX3_addEdges_68 ?_
        refine z_isub (M := M_X3_addEdges) dX3_addEdges_69 ?_
        obtain ⟨x_63, x_63_e, hi_64, H⟩ := rd_e H
        refine z_lald (M := M_X3_addEdges) dX3_addEdges_70 ly_234 rfl rfl rfl hi_64 x_63_e ?_
        refine z_aload_n (M := M_X3_addEdges) dX3_addEdges_71 rfl ?_
        refine z_getR (M := M_X3_addEdges) (ci := 6) (C := RX3) (T := TX3) (Nf := 12) (ty := tyX3) cl6 dX3_addEdges_72 ly_222 8 (by decide) t_450 rfl ?_
        refine z_iload (M := M_X3_addEdges) dX3_addEdges_75 rfl ?_
        obtain ⟨x_65, x_65_e, hi_66, H⟩ := rd_e H
        refine z_lald (M := M_X3_addEdges) dX3_addEdges_77 ly_235 rfl rfl rfl hi_66 x_65_e ?_
        refine z_aload_n (M := M_X3_addEdges) dX3_addEdges_78 rfl ?_
        refine z_getR (M := M_X3_addEdges) (ci := 6) (C := RX3) (T := TX3) (Nf := 12) (ty := tyX3) cl6 dX3_addEdges_79 ly_222 7 (by decide) t_449 rfl ?_
        refine z_iload (M := M_X3_addEdges) dX3_addEdges_82 rfl ?_
        obtain ⟨x_67, x_67_e, hi_68, H⟩ := rd_e H
        refine z_lald (M := M_X3_addEdges) dX3_addEdges_84 ly_234 rfl rfl rfl hi_68 x_67_e ?_
        refine z_lneg (M := M_X3_addEdges) dX3_addEdges_85 ?_
        refine z_aload_n (M := M_X3_addEdges) dX3_addEdges_86 rfl ?_
        refine z_getR (M := M_X3_addEdges) (ci := 6) (C := RX3) (T := TX3) (Nf := 12) (ty := tyX3) cl6 dX3_addEdges_87 ly_222 8 (by decide) t_450 rfl ?_
        refine z_iload (M := M_X3_addEdges) dX3_addEdges_90 rfl ?_
        refine z_iconst (M := M_X3_addEdges) dX3_addEdges_92 ?_
        refine z_isub (M := M_X3_addEdges) dX3_addEdges_93 ?_
        obtain ⟨x_69, x_69_e, hi_70, H⟩ := rd_e H
        refine z_lald (M := M_X3_addEdges) dX3_addEdges_94 ly_235 rfl rfl rfl hi_70 x_69_e ?_
        refine z_lconst (M := M_X3_addEdges) (m := 0) dX3_addEdges_95 (by decide +kernel) ?_
        refine z_lconst (M := M_X3_addEdges) (m := 0) dX3_addEdges_96 (by decide +kernel) ?_
        refine z_callSN (M := M_X3_addEdges) (M' := M_X11_signOfSum) (as := [vl x_63, vl x_65, vl (-x_67), vl x_69, vl 0, vl 0]) (rest := []) rfl rfl dX3_addEdges_97 m_X11_signOfSum n_1937 t_1938 (c_X11_signOfSum hl  rfl) rfl rfl (Nat.le_of_ble_eq_true rfl) (Nat.le_of_ble_eq_true rfl) (Nat.le_of_ble_eq_true rfl) (Nat.le_of_ble_eq_true rfl) ?_
        refine z_st (st' := [vi (fQ_signOfSum x_63 x_65 (-x_67) x_69 0 0)]) rfl ?_
        rcases if_e H with ⟨h_71, H⟩ | ⟨h_71, H⟩
        · refine z_if_eq_f (M := M_X3_addEdges) (tgt := 112) dX3_addEdges_100 (by decide) rfl h_71 ?_
          refine z_aload_n (M := M_X3_addEdges) dX3_addEdges_103 rfl ?_
          refine z_aload_n (M := M_X3_addEdges) dX3_addEdges_104 rfl ?_
          refine z_aload_n (M := M_X3_addEdges) dX3_addEdges_105 rfl ?_
          refine z_iload_n (M := M_X3_addEdges) dX3_addEdges_106 rfl ?_
          refine z_iload (M := M_X3_addEdges) dX3_addEdges_107 rfl ?_
          obtain ⟨σ_73, hc_72, H⟩ := bd_e H
          refine z_callV (M := M_X3_addEdges) (M' := M_X3_addEdge) (as := [vr one_0, vr two_0, vi i_0, vi k_29]) (rest := []) rfl rfl dX3_addEdges_109 m_X3_addEdge t_1969 t_1971 s_114 (c_X3_addEdge hl h_one h_two hc_72) rfl rfl ly_222 rfl (Nat.le_of_ble_eq_true rfl) (Nat.le_of_ble_eq_true rfl) (Nat.le_of_ble_eq_true rfl) (Nat.le_of_ble_eq_true rfl) ?_
          refine z_st (st' := []) rfl ?_
          exact J_78 _ (Option.some.inj H).symm
        · refine z_if_eq_t (M := M_X3_addEdges) (tgt := 112) dX3_addEdges_100 (by decide) rfl (Decidable.not_not.mp h_71) ?_
          exact J_78 _ (Option.some.inj H).symm
    · refine z_icmp_ge_t (M := M_X3_addEdges) (tgt := 118) dX3_addEdges_54 (by decide) rfl rfl (Int.not_lt.mp h_38) ?_
      exact J_82 _ _ (K_37 _ (Option.some.inj H).symm).symm
  refine whl_go hw_6 (fun (j_4, σ_5) => YY l E M_X3_addEdges 7 0 0 (pS (none) σ') 14 [some (vr 222), some (vr one_0), some (vr two_0), some (vi i_0), some (vi j_4)] [] σ_5 0 0) ?_
  rintro ⟨j_4, σ_5⟩ o_10 H K_11 K_12
  refine z_iload (M := M_X3_addEdges) dX3_addEdges_14 rfl ?_
  refine z_aload_n (M := M_X3_addEdges) dX3_addEdges_16 rfl ?_
  refine z_getR (M := M_X3_addEdges) (ci := 6) (C := RX3) (T := TX3) (Nf := 12) (ty := tyX3) cl6 dX3_addEdges_17 ly_222 0 (by decide) t_442 rfl ?_
  refine z_getI (M := M_X3_addEdges) (ci := 8) (C := RX5) (T := TX5) (Nf := 8) (ty := tyX5) cl8 dX3_addEdges_20 (ly_G (by decide)) 5 (by decide) t_257 rfl rfl ?_
  rcases if_e H with ⟨h_13, H⟩ | ⟨h_13, H⟩
  · refine z_icmp_ge_f (M := M_X3_addEdges) (tgt := 45) dX3_addEdges_23 (by decide) rfl rfl h_13 ?_
    obtain ⟨v_17, he_14, hk_15⟩ := bd_e H
    have J_25 : ∀ σ_23, v_17 = σ_23 → YY l E M_X3_addEdges 7 0 0 (pS (none) σ') 39 [some (vr 222), some (vr one_0), some (vr two_0), some (vi i_0), some (vi j_4)] [] σ_23 0 0 := by
      intro σ_23 e
      have H := hk_15
      rw [e] at H
      refine z_iinc (M := M_X3_addEdges) (lv' := [some (vr 222), some (vr one_0), some (vr two_0), some (vi i_0), some (vi (j_4 + 1))]) dX3_addEdges_39 rfl (Nat.le_of_ble_eq_true rfl) rfl rfl ?_
      refine z_goto (M := M_X3_addEdges) (tgt := 14) dX3_addEdges_42 (by decide) ?_
      exact K_11 _ (Option.some.inj H).symm
    have H := he_14
    refine z_iload (M := M_X3_addEdges) dX3_addEdges_26 rfl ?_
    refine z_iload_n (M := M_X3_addEdges) dX3_addEdges_28 rfl ?_
    rcases if_e H with ⟨h_18, H⟩ | ⟨h_18, H⟩
    · refine z_icmp_eq_f (M := M_X3_addEdges) (tgt := 39) dX3_addEdges_29 (by decide) rfl rfl h_18 ?_
      refine z_aload_n (M := M_X3_addEdges) dX3_addEdges_32 rfl ?_
      refine z_iload_n (M := M_X3_addEdges) dX3_addEdges_33 rfl ?_
      refine z_iload (M := M_X3_addEdges) dX3_addEdges_34 rfl ?_
      obtain ⟨σ_20, hc_19, H⟩ := bd_e H
      refine z_callV (M := M_X3_addEdges) (M' := M_X3_cut) (as := [vi i_0, vi j_4]) (rest := []) rfl rfl dX3_addEdges_36 m_X3_cut t_1947 t_1949 s_110 (c_X3_cut hl  hc_19) rfl rfl ly_222 rfl (Nat.le_of_ble_eq_true rfl) (Nat.le_of_ble_eq_true rfl) (Nat.le_of_ble_eq_true rfl) (Nat.le_of_ble_eq_true rfl) ?_
      refine z_st (st' := []) rfl ?_
      exact J_25 _ (Option.some.inj H).symm
    · refine z_icmp_eq_t (M := M_X3_addEdges) (tgt := 39) dX3_addEdges_29 (by decide) rfl rfl (Decidable.not_not.mp h_18) ?_
      exact J_25 _ (Option.some.inj H).symm
  · refine z_icmp_ge_t (M := M_X3_addEdges) (tgt := 45) dX3_addEdges_23 (by decide) rfl rfl (Int.not_lt.mp h_13) ?_
    exact J_83 _ _ (K_12 _ (Option.some.inj H).symm).symm
theorem c_X3_isRimOfBoth (hl : l.stackTraces = false) {σ : SG} {i_0 : Int} {j_0 : Int} {r : Bool}  (H : fT_isRimOfBoth σ i_0 j_0 = some r) : en_S l E M_X3_isRimOfBoth 5 0 0 [vr 222, vi i_0, vi j_0] σ (pS (some (zv r)) σ) := by
  unfold fT_isRimOfBoth at H
  refine z_mk (lv := [some (vr 222), some (vi i_0), some (vi j_0), none]) m_X3_isRimOfBoth rfl hl (Nat.le_of_ble_eq_true rfl) rfl ?_
  refine z_iconst (M := M_X3_isRimOfBoth) dX3_isRimOfBoth_0 ?_
  refine z_istore_n (M := M_X3_isRimOfBoth) (lv' := [some (vr 222), some (vi i_0), some (vi j_0), some (vi 0)]) dX3_isRimOfBoth_1 (Nat.le_of_ble_eq_true rfl) rfl rfl ?_
  obtain ⟨rl_5, hw_2, hk_3, hk_4⟩ := bx_e H
  have J_46 : ∀ k_45, rl_5 = (.inl k_45) → YY l E M_X3_isRimOfBoth 5 0 0 (pS (some (zv r)) σ) 64 [some (vr 222), some (vi i_0), some (vi j_0), some (vi k_45)] [] σ 0 0 := by
    intro k_45 e
    have H := hk_3 _ e
    refine z_zconst (M := M_X3_isRimOfBoth) (b := false) dX3_isRimOfBoth_64 rfl ?_
    cases H
    exact z_zret (M := M_X3_isRimOfBoth) dX3_isRimOfBoth_65 rfl (Nat.le_of_ble_eq_true rfl) (Nat.le_of_ble_eq_true rfl) ⟨rfl, rfl⟩
  refine whl_go hw_2 (fun k_1 => YY l E M_X3_isRimOfBoth 5 0 0 (pS (some (zv r)) σ) 2 [some (vr 222), some (vi i_0), some (vi j_0), some (vi k_1)] [] σ 0 0) ?_
  rintro k_1 o_6 H K_7 K_8
  refine z_iload_n (M := M_X3_isRimOfBoth) dX3_isRimOfBoth_2 rfl ?_
  refine z_aload_n (M := M_X3_isRimOfBoth) dX3_isRimOfBoth_3 rfl ?_
  refine z_getI (M := M_X3_isRimOfBoth) (ci := 6) (C := RX3) (T := TX3) (Nf := 12) (ty := tyX3) cl6 dX3_isRimOfBoth_4 ly_222 6 (by decide) t_448 rfl rfl ?_
  rcases if_e H with ⟨h_9, H⟩ | ⟨h_9, H⟩
  · refine z_icmp_ge_f (M := M_X3_isRimOfBoth) (tgt := 64) dX3_isRimOfBoth_7 (by decide) rfl rfl h_9 ?_
    refine z_aload_n (M := M_X3_isRimOfBoth) dX3_isRimOfBoth_10 rfl ?_
    refine z_getR (M := M_X3_isRimOfBoth) (ci := 6) (C := RX3) (T := TX3) (Nf := 12) (ty := tyX3) cl6 dX3_isRimOfBoth_11 ly_222 0 (by decide) t_442 rfl ?_
    refine z_iload_n (M := M_X3_isRimOfBoth) dX3_isRimOfBoth_14 rfl ?_
    refine z_aload_n (M := M_X3_isRimOfBoth) dX3_isRimOfBoth_15 rfl ?_
    refine z_getR (M := M_X3_isRimOfBoth) (ci := 6) (C := RX3) (T := TX3) (Nf := 12) (ty := tyX3) cl6 dX3_isRimOfBoth_16 ly_222 3 (by decide) t_445 rfl ?_
    refine z_iload_n (M := M_X3_isRimOfBoth) dX3_isRimOfBoth_19 rfl ?_
    obtain ⟨x_28, x_28_e, hi_29, H⟩ := rd_e H
    refine z_iald (M := M_X3_isRimOfBoth) dX3_isRimOfBoth_20 ly_231 rfl rfl rfl hi_29 x_28_e ?_
    refine z_aload_n (M := M_X3_isRimOfBoth) dX3_isRimOfBoth_21 rfl ?_
    refine z_getR (M := M_X3_isRimOfBoth) (ci := 6) (C := RX3) (T := TX3) (Nf := 12) (ty := tyX3) cl6 dX3_isRimOfBoth_22 ly_222 4 (by decide) t_446 rfl ?_
    refine z_iload_n (M := M_X3_isRimOfBoth) dX3_isRimOfBoth_25 rfl ?_
    obtain ⟨x_30, x_30_e, hi_31, H⟩ := rd_e H
    refine z_iald (M := M_X3_isRimOfBoth) dX3_isRimOfBoth_26 ly_232 rfl rfl rfl hi_31 x_30_e ?_
    obtain ⟨x_33, hc_32, H⟩ := bd_e H
    refine z_callV (M := M_X3_isRimOfBoth) (M' := M_X5_holds) (as := [vi i_0, vi x_28, vi x_30]) (rest := []) rfl rfl dX3_isRimOfBoth_27 m_X5_holds t_1955 t_1956 t_1957 (c_X5_holds hl (by decide) hc_32) rfl rfl (ly_G (by decide)) rfl (Nat.le_of_ble_eq_true rfl) (Nat.le_of_ble_eq_true rfl) (Nat.le_of_ble_eq_true rfl) (Nat.le_of_ble_eq_true rfl) ?_
    refine z_st (st' := [zv x_33]) rfl ?_
    rcases if_e H with ⟨h_34, H⟩ | ⟨h_34, H⟩
    · refine z_zeq_f (M := M_X3_isRimOfBoth) (tgt := 58) dX3_isRimOfBoth_30 (by decide) h_34 ?_
      refine z_aload_n (M := M_X3_isRimOfBoth) dX3_isRimOfBoth_33 rfl ?_
      refine z_getR (M := M_X3_isRimOfBoth) (ci := 6) (C := RX3) (T := TX3) (Nf := 12) (ty := tyX3) cl6 dX3_isRimOfBoth_34 ly_222 0 (by decide) t_442 rfl ?_
      refine z_iload_n (M := M_X3_isRimOfBoth) dX3_isRimOfBoth_37 rfl ?_
      refine z_aload_n (M := M_X3_isRimOfBoth) dX3_isRimOfBoth_38 rfl ?_
      refine z_getR (M := M_X3_isRimOfBoth) (ci := 6) (C := RX3) (T := TX3) (Nf := 12) (ty := tyX3) cl6 dX3_isRimOfBoth_39 ly_222 3 (by decide) t_445 rfl ?_
      refine z_iload_n (M := M_X3_isRimOfBoth) dX3_isRimOfBoth_42 rfl ?_
      obtain ⟨x_35, x_35_e, hi_36, H⟩ := rd_e H
      refine z_iald (M := M_X3_isRimOfBoth) dX3_isRimOfBoth_43 ly_231 rfl rfl rfl hi_36 x_35_e ?_
      refine z_aload_n (M := M_X3_isRimOfBoth) dX3_isRimOfBoth_44 rfl ?_
      refine z_getR (M := M_X3_isRimOfBoth) (ci := 6) (C := RX3) (T := TX3) (Nf := 12) (ty := tyX3) cl6 dX3_isRimOfBoth_45 ly_222 4 (by decide) t_446 rfl ?_
      refine z_iload_n (M := M_X3_isRimOfBoth) dX3_isRimOfBoth_48 rfl ?_
      obtain ⟨x_37, x_37_e, hi_38, H⟩ := rd_e H
      refine z_iald (M := M_X3_isRimOfBoth) dX3_isRimOfBoth_49 ly_232 rfl rfl rfl hi_38 x_37_e ?_
      obtain ⟨x_40, hc_39, H⟩ := bd_e H
      refine z_callV (M := M_X3_isRimOfBoth) (M' := M_X5_holds) (as := [vi j_0, vi x_35, vi x_37]) (rest := []) rfl rfl dX3_isRimOfBoth_50 m_X5_holds t_1955 t_1956 t_1957 (c_X5_holds hl (by decide) hc_39) rfl rfl (ly_G (by decide)) rfl (Nat.le_of_ble_eq_true rfl) (Nat.le_of_ble_eq_true rfl) (Nat.le_of_ble_eq_true rfl) (Nat.le_of_ble_eq_true rfl) ?_
      refine z_st (st' := [zv x_40]) rfl ?_
      rcases if_e H with ⟨h_41, H⟩ | ⟨h_41, H⟩
      · refine z_zeq_f (M := M_X3_isRimOfBoth) (tgt := 58) dX3_isRimOfBoth_53 (by decide) h_41 ?_
        refine z_zconst (M := M_X3_isRimOfBoth) (b := true) dX3_isRimOfBoth_56 rfl ?_
        have H := congrArg some (hk_4 _ ((K_8 _ (Option.some.inj H).symm).symm))
        cases H
        exact z_zret (M := M_X3_isRimOfBoth) dX3_isRimOfBoth_57 rfl (Nat.le_of_ble_eq_true rfl) (Nat.le_of_ble_eq_true rfl) ⟨rfl, rfl⟩
      · refine z_zeq_t (M := M_X3_isRimOfBoth) (tgt := 58) dX3_isRimOfBoth_53 (by decide) h_41 ?_
        refine z_iinc (M := M_X3_isRimOfBoth) (lv' := [some (vr 222), some (vi i_0), some (vi j_0), some (vi (k_1 + 1))]) dX3_isRimOfBoth_58 rfl (Nat.le_of_ble_eq_true rfl) rfl rfl ?_
        refine z_goto (M := M_X3_isRimOfBoth) (tgt := 2) dX3_isRimOfBoth_61 (by decide) ?_
        exact K_7 _ (Option.some.inj H).symm
    · refine z_zeq_t (M := M_X3_isRimOfBoth) (tgt := 58) dX3_isRimOfBoth_30 (by decide) h_34 ?_
      refine z_iinc (M := M_X3_isRimOfBoth) (lv' := [some (vr 222), some (vi i_0), some (vi j_0), some (vi (k_1 + 1))]) dX3_isRimOfBoth_58 rfl (Nat.le_of_ble_eq_true rfl) rfl rfl ?_
      refine z_goto (M := M_X3_isRimOfBoth) (tgt := 2) dX3_isRimOfBoth_61 (by decide) ?_
      exact K_7 _ (Option.some.inj H).symm
  · refine z_icmp_ge_t (M := M_X3_isRimOfBoth) (tgt := 64) dX3_isRimOfBoth_7 (by decide) rfl rfl (Int.not_lt.mp h_9) ?_
    exact J_46 _ (K_8 _ (Option.some.inj H).symm).symm
theorem c_X3_addMeetings (hl : l.stackTraces = false) {σ : SG} {one_0 : Nat} {two_0 : Nat} {σ' : SG} (h_one : isS one_0) (h_two : isS two_0) (H : fT_addMeetings σ one_0 two_0 = some σ') : en_S l E M_X3_addMeetings 6 0 0 [vr 222, vr one_0, vr two_0] σ (pS (none) σ') := by
  unfold fT_addMeetings at H
  refine z_mk (lv := [some (vr 222), some (vr one_0), some (vr two_0), none, none, none, none, none]) m_X3_addMeetings rfl hl (Nat.le_of_ble_eq_true rfl) rfl ?_
  obtain ⟨v_95, he_96, hk_97⟩ := bd_e H
  have J_98 : ∀ x_6, v_95 = x_6 → YY l E M_X3_addMeetings 6 0 0 (pS (none) σ') 12 [some (vr 222), some (vr one_0), some (vr two_0), none, none, none, none, none] [vi x_6] σ 0 0 := by
    intro x_6 e
    have H := hk_97
    rw [e] at H
    refine z_istore_n (M := M_X3_addMeetings) (lv' := [some (vr 222), some (vr one_0), some (vr two_0), some (vi x_6), none, none, none, none]) dX3_addMeetings_12 (Nat.le_of_ble_eq_true rfl) rfl rfl ?_
    obtain ⟨v_91, he_92, hk_93⟩ := bd_e H
    have J_94 : ∀ x_12, v_91 = x_12 → YY l E M_X3_addMeetings 6 0 0 (pS (none) σ') 25 [some (vr 222), some (vr one_0), some (vr two_0), some (vi x_6), none, none, none, none] [vi x_12] σ 0 0 := by
      intro x_12 e
      have H := hk_93
      rw [e] at H
      refine z_istore (M := M_X3_addMeetings) (lv' := [some (vr 222), some (vr one_0), some (vr two_0), some (vi x_6), some (vi x_12), none, none, none]) dX3_addMeetings_25 (Nat.le_of_ble_eq_true rfl) rfl rfl ?_
      refine z_iconst (M := M_X3_addMeetings) dX3_addMeetings_27 ?_
      refine z_istore (M := M_X3_addMeetings) (lv' := [some (vr 222), some (vr one_0), some (vr two_0), some (vi x_6), some (vi x_12), some (vi 0), none, none]) dX3_addMeetings_28 (Nat.le_of_ble_eq_true rfl) rfl rfl ?_
      obtain ⟨rl_18, hw_15, hk_16⟩ := bd_e H
      have J_90 : ∀ i_88 σ_89, rl_18 = (i_88, σ_89) → YY l E M_X3_addMeetings 6 0 0 (pS (none) σ') 155 [some (vr 222), some (vr one_0), some (vr two_0), some (vi x_6), some (vi x_12), some (vi i_88), none, none] [] σ_89 0 0 := by
        intro i_88 σ_89 e
        have H := hk_16
        rw [e] at H
        cases H
        exact z_vret (M := M_X3_addMeetings) dX3_addMeetings_155 rfl (Nat.le_of_ble_eq_true rfl) (Nat.le_of_ble_eq_true rfl) ⟨rfl, rfl⟩
      refine whl_go hw_15 (fun (i_13, σ_14) => YY l E M_X3_addMeetings 6 0 0 (pS (none) σ') 30 [some (vr 222), some (vr one_0), some (vr two_0), some (vi x_6), some (vi x_12), some (vi i_13), none, none] [] σ_14 0 0) ?_
      rintro ⟨i_13, σ_14⟩ o_19 H K_20 K_21
      refine z_iload (M := M_X3_addMeetings) dX3_addMeetings_30 rfl ?_
      refine z_aload_n (M := M_X3_addMeetings) dX3_addMeetings_32 rfl ?_
      refine z_getR (M := M_X3_addMeetings) (ci := 6) (C := RX3) (T := TX3) (Nf := 12) (ty := tyX3) cl6 dX3_addMeetings_33 ly_222 0 (by decide) t_442 rfl ?_
      refine z_getI (M := M_X3_addMeetings) (ci := 8) (C := RX5) (T := TX5) (Nf := 8) (ty := tyX5) cl8 dX3_addMeetings_36 (ly_G (by decide)) 5 (by decide) t_257 rfl rfl ?_
      rcases if_e H with ⟨h_30, H⟩ | ⟨h_30, H⟩
      · refine z_icmp_ge_f (M := M_X3_addMeetings) (tgt := 155) dX3_addMeetings_39 (by decide) rfl rfl h_30 ?_
        refine z_aload_n (M := M_X3_addMeetings) dX3_addMeetings_42 rfl ?_
        refine z_getR (M := M_X3_addMeetings) (ci := 6) (C := RX3) (T := TX3) (Nf := 12) (ty := tyX3) cl6 dX3_addMeetings_43 ly_222 1 (by decide) t_443 rfl ?_
        refine z_iconst (M := M_X3_addMeetings) dX3_addMeetings_46 ?_
        refine z_iload_n (M := M_X3_addMeetings) dX3_addMeetings_47 rfl ?_
        refine z_imul (M := M_X3_addMeetings) dX3_addMeetings_48 ?_
        refine z_iload (M := M_X3_addMeetings) dX3_addMeetings_49 rfl ?_
        refine z_iadd (M := M_X3_addMeetings) dX3_addMeetings_51 ?_
        obtain ⟨x_31, x_31_e, hi_32, H⟩ := rd_e H
        refine z_iald (M := M_X3_addMeetings) dX3_addMeetings_52 ly_229 rfl rfl rfl hi_32 x_31_e ?_
        rcases if_e H with ⟨h_33, H⟩ | ⟨h_33, H⟩
        · refine z_if_ge_f (M := M_X3_addMeetings) (tgt := 155) dX3_addMeetings_53 (by decide) rfl h_33 ?_
          refine z_iload (M := M_X3_addMeetings) dX3_addMeetings_56 rfl ?_
          refine z_iconst (M := M_X3_addMeetings) dX3_addMeetings_58 ?_
          refine z_iadd (M := M_X3_addMeetings) dX3_addMeetings_59 ?_
          refine z_istore (M := M_X3_addMeetings) (lv' := [some (vr 222), some (vr one_0), some (vr two_0), some (vi x_6), some (vi x_12), some (vi i_13), some (vi (i_13 + 1)), none]) dX3_addMeetings_60 (Nat.le_of_ble_eq_true rfl) rfl rfl ?_
          obtain ⟨rl_39, hw_36, hk_37⟩ := bd_e H
          have J_85 : ∀ j_82 σ_83, rl_39 = (j_82, σ_83) → YY l E M_X3_addMeetings 6 0 0 (pS (none) σ') 149 [some (vr 222), some (vr one_0), some (vr two_0), some (vi x_6), some (vi x_12), some (vi i_13), some (vi j_82), none] [] σ_83 0 0 := by
            intro j_82 σ_83 e
            have H := hk_37
            rw [e] at H
            refine z_iinc (M := M_X3_addMeetings) (lv' := [some (vr 222), some (vr one_0), some (vr two_0), some (vi x_6), some (vi x_12), some (vi (i_13 + 1)), some (vi j_82), none]) dX3_addMeetings_149 rfl (Nat.le_of_ble_eq_true rfl) rfl rfl ?_
            refine z_goto (M := M_X3_addMeetings) (tgt := 30) dX3_addMeetings_152 (by decide) ?_
            refine z_le (lv' := [some (vr 222), some (vr one_0), some (vr two_0), some (vi x_6), some (vi x_12), some (vi (i_13 + 1)), none, none]) ⟨Or.inr rfl, Or.inr rfl, Or.inr rfl, Or.inr rfl, Or.inr rfl, Or.inr rfl, Or.inl rfl, Or.inl rfl, trivial⟩ ?_
            exact K_20 _ (Option.some.inj H).symm
          refine whl_go hw_36 (fun (j_34, σ_35) => YY l E M_X3_addMeetings 6 0 0 (pS (none) σ') 62 [some (vr 222), some (vr one_0), some (vr two_0), some (vi x_6), some (vi x_12), some (vi i_13), some (vi j_34), none] [] σ_35 0 0) ?_
          rintro ⟨j_34, σ_35⟩ o_40 H K_41 K_42
          refine z_iload (M := M_X3_addMeetings) dX3_addMeetings_62 rfl ?_
          refine z_aload_n (M := M_X3_addMeetings) dX3_addMeetings_64 rfl ?_
          refine z_getR (M := M_X3_addMeetings) (ci := 6) (C := RX3) (T := TX3) (Nf := 12) (ty := tyX3) cl6 dX3_addMeetings_65 ly_222 0 (by decide) t_442 rfl ?_
          refine z_getI (M := M_X3_addMeetings) (ci := 8) (C := RX5) (T := TX5) (Nf := 8) (ty := tyX5) cl8 dX3_addMeetings_68 (ly_G (by decide)) 5 (by decide) t_257 rfl rfl ?_
          rcases if_e H with ⟨h_43, H⟩ | ⟨h_43, H⟩
          · refine z_icmp_ge_f (M := M_X3_addMeetings) (tgt := 149) dX3_addMeetings_71 (by decide) rfl rfl h_43 ?_
            refine z_aload_n (M := M_X3_addMeetings) dX3_addMeetings_74 rfl ?_
            refine z_getR (M := M_X3_addMeetings) (ci := 6) (C := RX3) (T := TX3) (Nf := 12) (ty := tyX3) cl6 dX3_addMeetings_75 ly_222 0 (by decide) t_442 rfl ?_
            refine z_getR (M := M_X3_addMeetings) (ci := 8) (C := RX5) (T := TX5) (Nf := 8) (ty := tyX5) cl8 dX3_addMeetings_78 (ly_G (by decide)) 4 (by decide) t_253 rfl ?_
            refine z_iload (M := M_X3_addMeetings) dX3_addMeetings_81 rfl ?_
            obtain ⟨x_44, x_44_e, hi_45, H⟩ := rd_e H
            refine z_iald (M := M_X3_addMeetings) dX3_addMeetings_83 ly_228 rfl rfl rfl hi_45 x_44_e ?_
            refine z_aload_n (M := M_X3_addMeetings) dX3_addMeetings_84 rfl ?_
            refine z_getR (M := M_X3_addMeetings) (ci := 6) (C := RX3) (T := TX3) (Nf := 12) (ty := tyX3) cl6 dX3_addMeetings_85 ly_222 0 (by decide) t_442 rfl ?_
            refine z_getR (M := M_X3_addMeetings) (ci := 8) (C := RX5) (T := TX5) (Nf := 8) (ty := tyX5) cl8 dX3_addMeetings_88 (ly_G (by decide)) 4 (by decide) t_253 rfl ?_
            refine z_iload (M := M_X3_addMeetings) dX3_addMeetings_91 rfl ?_
            obtain ⟨x_46, x_46_e, hi_47, H⟩ := rd_e H
            refine z_iald (M := M_X3_addMeetings) dX3_addMeetings_93 ly_228 rfl rfl rfl hi_47 x_46_e ?_
            rcases if_e H with ⟨h_48, H⟩ | ⟨h_48, H⟩
            · refine z_icmp_ne_f (M := M_X3_addMeetings) (tgt := 100) dX3_addMeetings_94 (by decide) rfl rfl h_48 ?_
              refine z_goto (M := M_X3_addMeetings) (tgt := 143) dX3_addMeetings_97 (by decide) ?_
              refine z_iinc (M := M_X3_addMeetings) (lv' := [some (vr 222), some (vr one_0), some (vr two_0), some (vi x_6), some (vi x_12), some (vi i_13), some (vi (j_34 + 1)), none]) dX3_addMeetings_143 rfl (Nat.le_of_ble_eq_true rfl) rfl rfl ?_
              refine z_goto (M := M_X3_addMeetings) (tgt := 62) dX3_addMeetings_146 (by decide) ?_
              exact K_41 _ (Option.some.inj H).symm
            · refine z_icmp_ne_t (M := M_X3_addMeetings) (tgt := 100) dX3_addMeetings_94 (by decide) rfl rfl h_48 ?_
              refine z_aload_n (M := M_X3_addMeetings) dX3_addMeetings_100 rfl ?_
              refine z_getR (M := M_X3_addMeetings) (ci := 6) (C := RX3) (T := TX3) (Nf := 12) (ty := tyX3) cl6 dX3_addMeetings_101 ly_222 0 (by decide) t_442 rfl ?_
              refine z_iload (M := M_X3_addMeetings) dX3_addMeetings_104 rfl ?_
              refine z_iload (M := M_X3_addMeetings) dX3_addMeetings_106 rfl ?_
              obtain ⟨⟨x_52, σ_51⟩, hc_50, H⟩ := bd_e H
              refine z_callV (M := M_X3_addMeetings) (M' := M_X5_meet) (as := [vi i_13, vi j_34]) (rest := []) rfl rfl dX3_addMeetings_108 m_X5_meet t_1913 t_1256 t_1257 (c_X5_meet hl (by decide) hc_50) rfl rfl (ly_G (by decide)) rfl (Nat.le_of_ble_eq_true rfl) (Nat.le_of_ble_eq_true rfl) (Nat.le_of_ble_eq_true rfl) (Nat.le_of_ble_eq_true rfl) ?_
              refine z_st (st' := [vi x_52]) rfl ?_
              refine z_istore (M := M_X3_addMeetings) (lv' := [some (vr 222), some (vr one_0), some (vr two_0), some (vi x_6), some (vi x_12), some (vi i_13), some (vi j_34), some (vi x_52)]) dX3_addMeetings_111 (Nat.le_of_ble_eq_true rfl) rfl rfl ?_
              obtain ⟨v_56, he_53, hk_54⟩ := bd_e H
              have J_80 : ∀ σ_78, v_56 = σ_78 → YY l E M_X3_addMeetings 6 0 0 (pS (none) σ') 143 [some (vr 222), some (vr one_0), some (vr two_0), some (vi x_6), some (vi x_12), some (vi i_13), some (vi j_34), some (vi x_52)] [] σ_78 0 0 := by
                intro σ_78 e
                have H := hk_54
                rw [e] at H
                refine z_iinc (M := M_X3_addMeetings) (lv' := [some (vr 222), some (vr one_0), some (vr two_0), some (vi x_6), some (vi x_12), some (vi i_13), some (vi (j_34 + 1)), some (vi x_52)]) dX3_addMeetings_143 rfl (Nat.le_of_ble_eq_true rfl) rfl rfl ?_
                refine z_goto (M := M_X3_addMeetings) (tgt := 62) dX3_addMeetings_146 (by decide) ?_
                refine z_le (lv' := [some (vr 222), some (vr one_0), some (vr two_0), some (vi x_6), some (vi x_12), some (vi i_13), some (vi (j_34 + 1)), none]) ⟨Or.inr rfl, Or.inr rfl, Or.inr rfl, Or.inr rfl, Or.inr rfl, Or.inr rfl, Or.inr rfl, Or.inl rfl, trivial⟩ ?_
                exact K_41 _ (Option.some.inj H).symm
              have H := he_53
              refine z_iload (M := M_X3_addMeetings) dX3_addMeetings_113 rfl ?_
              rcases if_e H with ⟨h_67, H⟩ | ⟨h_67, H⟩
              · refine z_if_eq_f (M := M_X3_addMeetings) (tgt := 143) dX3_addMeetings_115 (by decide) rfl h_67 ?_
                refine z_iload (M := M_X3_addMeetings) dX3_addMeetings_118 rfl ?_
                refine z_iconst (M := M_X3_addMeetings) dX3_addMeetings_120 ?_
                rcases if_e H with ⟨h_68, H⟩ | ⟨h_68, H⟩
                · refine z_icmp_eq_f (M := M_X3_addMeetings) (tgt := 143) dX3_addMeetings_121 (by decide) rfl (by decide +kernel) h_68 ?_
                  refine z_aload_n (M := M_X3_addMeetings) dX3_addMeetings_124 rfl ?_
                  refine z_iload (M := M_X3_addMeetings) dX3_addMeetings_125 rfl ?_
                  refine z_iload (M := M_X3_addMeetings) dX3_addMeetings_127 rfl ?_
                  obtain ⟨x_70, hc_69, H⟩ := bd_e H
                  refine z_callV (M := M_X3_addMeetings) (M' := M_X3_isRimOfBoth) (as := [vi i_13, vi j_34]) (rest := []) rfl rfl dX3_addMeetings_129 m_X3_isRimOfBoth t_2011 t_2013 s_121 (c_X3_isRimOfBoth hl  hc_69) rfl rfl ly_222 rfl (Nat.le_of_ble_eq_true rfl) (Nat.le_of_ble_eq_true rfl) (Nat.le_of_ble_eq_true rfl) (Nat.le_of_ble_eq_true rfl) ?_
                  refine z_st (st' := [zv x_70]) rfl ?_
                  rcases if_e H with ⟨h_71, H⟩ | ⟨h_71, H⟩
                  · refine z_zne_t (M := M_X3_addMeetings) (tgt := 143) dX3_addMeetings_132 (by decide) h_71 ?_
                    exact J_80 _ (Option.some.inj H).symm
                  · refine z_zne_f (M := M_X3_addMeetings) (tgt := 143) dX3_addMeetings_132 (by decide) h_71 ?_
                    refine z_aload_n (M := M_X3_addMeetings) dX3_addMeetings_135 rfl ?_
                    refine z_iload_n (M := M_X3_addMeetings) dX3_addMeetings_136 rfl ?_
                    refine z_iload (M := M_X3_addMeetings) dX3_addMeetings_137 rfl ?_
                    refine z_iconst (M := M_X3_addMeetings) dX3_addMeetings_139 ?_
                    obtain ⟨σ_74, hc_73, H⟩ := bd_e H
                    refine z_callV (M := M_X3_addMeetings) (M' := M_X3_raise) (as := [vi x_6, vi x_12, vi 0]) (rest := []) rfl rfl dX3_addMeetings_140 m_X3_raise t_1998 t_2000 s_118 (c_X3_raise hl  hc_73) rfl rfl ly_222 rfl (Nat.le_of_ble_eq_true rfl) (Nat.le_of_ble_eq_true rfl) (Nat.le_of_ble_eq_true rfl) (Nat.le_of_ble_eq_true rfl) ?_
                    refine z_st (st' := []) rfl ?_
                    exact J_80 _ (Option.some.inj H).symm
                · refine z_icmp_eq_t (M := M_X3_addMeetings) (tgt := 143) dX3_addMeetings_121 (by decide) rfl (by decide +kernel) (Decidable.not_not.mp h_68) ?_
                  exact J_80 _ (Option.some.inj H).symm
              · refine z_if_eq_t (M := M_X3_addMeetings) (tgt := 143) dX3_addMeetings_115 (by decide) rfl (Decidable.not_not.mp h_67) ?_
                exact J_80 _ (Option.some.inj H).symm
          · refine z_icmp_ge_t (M := M_X3_addMeetings) (tgt := 149) dX3_addMeetings_71 (by decide) rfl rfl (Int.not_lt.mp h_43) ?_
            exact J_85 _ _ (K_42 _ (Option.some.inj H).symm).symm
        · refine z_if_ge_t (M := M_X3_addMeetings) (tgt := 155) dX3_addMeetings_53 (by decide) rfl (Int.not_lt.mp h_33) ?_
          exact J_90 _ _ (K_21 _ (Option.some.inj H).symm).symm
      · refine z_icmp_ge_t (M := M_X3_addMeetings) (tgt := 155) dX3_addMeetings_39 (by decide) rfl rfl (Int.not_lt.mp h_30) ?_
        exact J_90 _ _ (K_21 _ (Option.some.inj H).symm).symm
    have H := he_92
    refine z_aload_n (M := M_X3_addMeetings) dX3_addMeetings_13 rfl ?_
    obtain ⟨x_8, hc_7, H⟩ := bd_e H
    refine z_callS (M := M_X3_addMeetings) (M' := M_X3_isArea) (as := [vr two_0]) (rest := []) rfl rfl dX3_addMeetings_14 m_X3_isArea t_1905 t_1906 (c_X3_isArea hl h_two hc_7) rfl rfl (Nat.le_of_ble_eq_true rfl) (Nat.le_of_ble_eq_true rfl) (Nat.le_of_ble_eq_true rfl) (Nat.le_of_ble_eq_true rfl) ?_
    refine z_st (st' := [zv x_8]) rfl ?_
    rcases if_e H with ⟨h_9, H⟩ | ⟨h_9, H⟩
    · refine z_zeq_f (M := M_X3_addMeetings) (tgt := 24) dX3_addMeetings_17 (by decide) h_9 ?_
      refine z_iconst (M := M_X3_addMeetings) dX3_addMeetings_20 ?_
      refine z_goto (M := M_X3_addMeetings) (tgt := 25) dX3_addMeetings_21 (by decide) ?_
      exact J_94 _ (Option.some.inj H).symm
    · refine z_zeq_t (M := M_X3_addMeetings) (tgt := 24) dX3_addMeetings_17 (by decide) h_9 ?_
      refine z_iconst (M := M_X3_addMeetings) dX3_addMeetings_24 ?_
      exact J_94 _ (Option.some.inj H).symm
  have H := he_96
  refine z_aload_n (M := M_X3_addMeetings) dX3_addMeetings_0 rfl ?_
  obtain ⟨x_2, hc_1, H⟩ := bd_e H
  refine z_callS (M := M_X3_addMeetings) (M' := M_X3_isArea) (as := [vr one_0]) (rest := []) rfl rfl dX3_addMeetings_1 m_X3_isArea t_1905 t_1906 (c_X3_isArea hl h_one hc_1) rfl rfl (Nat.le_of_ble_eq_true rfl) (Nat.le_of_ble_eq_true rfl) (Nat.le_of_ble_eq_true rfl) (Nat.le_of_ble_eq_true rfl) ?_
  refine z_st (st' := [zv x_2]) rfl ?_
  rcases if_e H with ⟨h_3, H⟩ | ⟨h_3, H⟩
  · refine z_zeq_f (M := M_X3_addMeetings) (tgt := 11) dX3_addMeetings_4 (by decide) h_3 ?_
    refine z_iconst (M := M_X3_addMeetings) dX3_addMeetings_7 ?_
    refine z_goto (M := M_X3_addMeetings) (tgt := 12) dX3_addMeetings_8 (by decide) ?_
    exact J_98 _ (Option.some.inj H).symm
  · refine z_zeq_t (M := M_X3_addMeetings) (tgt := 11) dX3_addMeetings_4 (by decide) h_3 ?_
    refine z_iconst (M := M_X3_addMeetings) dX3_addMeetings_11 ?_
    exact J_98 _ (Option.some.inj H).symm
theorem c_X3_isOfPoints (hl : l.stackTraces = false) {σ : SG} {shape_0 : Nat} {r : Bool} (h_shape : isS shape_0) (H : fT_isOfPoints σ shape_0 = some r) : en_S l E M_X3_isOfPoints 2 0 0 [vr shape_0] σ (pS (some (zv r)) σ) := by
  unfold fT_isOfPoints at H
  refine z_mk (lv := [some (vr shape_0)]) m_X3_isOfPoints rfl hl (Nat.le_of_ble_eq_true rfl) rfl ?_
  obtain ⟨v_11, he_12, hk_13⟩ := bd_e H
  have J_14 : ∀ x_10, v_11 = x_10 → YY l E M_X3_isOfPoints 2 0 0 (pS (some (zv r)) σ) 21 [some (vr shape_0)] [zv x_10] σ 0 0 := by
    intro x_10 e
    have H := hk_13
    rw [e] at H
    cases H
    exact z_zret (M := M_X3_isOfPoints) dX3_isOfPoints_21 rfl (Nat.le_of_ble_eq_true rfl) (Nat.le_of_ble_eq_true rfl) ⟨rfl, rfl⟩
  have H := he_12
  refine z_aload_n (M := M_X3_isOfPoints) dX3_isOfPoints_0 rfl ?_
  obtain ⟨x_2, hc_1, H⟩ := bd_e H
  refine z_callV (M := M_X3_isOfPoints) (M' := M_X6_kind) (as := []) (rest := []) rfl rfl dX3_isOfPoints_1 m_X6_kind t_1896 t_951 t_952 (c_X6_kind hl h_shape hc_1) rfl rfl (ly_S h_shape) rfl (Nat.le_of_ble_eq_true rfl) (Nat.le_of_ble_eq_true rfl) (Nat.le_of_ble_eq_true rfl) (Nat.le_of_ble_eq_true rfl) ?_
  refine z_st (st' := [vi x_2]) rfl ?_
  refine z_iconst (M := M_X3_isOfPoints) dX3_isOfPoints_4 ?_
  rcases if_e H with ⟨h_3, H⟩ | ⟨h_3, H⟩
  · refine z_icmp_eq_t (M := M_X3_isOfPoints) (tgt := 16) dX3_isOfPoints_5 (by decide) rfl (by decide +kernel) h_3 ?_
    refine z_zconst (M := M_X3_isOfPoints) (b := true) dX3_isOfPoints_16 rfl ?_
    refine z_goto (M := M_X3_isOfPoints) (tgt := 21) dX3_isOfPoints_17 (by decide) ?_
    exact J_14 _ (Option.some.inj H).symm
  · refine z_icmp_eq_f (M := M_X3_isOfPoints) (tgt := 16) dX3_isOfPoints_5 (by decide) rfl (by decide +kernel) h_3 ?_
    refine z_aload_n (M := M_X3_isOfPoints) dX3_isOfPoints_8 rfl ?_
    obtain ⟨x_6, hc_5, H⟩ := bd_e H
    refine z_callV (M := M_X3_isOfPoints) (M' := M_X6_kind) (as := []) (rest := []) rfl rfl dX3_isOfPoints_9 m_X6_kind t_1896 t_951 t_952 (c_X6_kind hl h_shape hc_5) rfl rfl (ly_S h_shape) rfl (Nat.le_of_ble_eq_true rfl) (Nat.le_of_ble_eq_true rfl) (Nat.le_of_ble_eq_true rfl) (Nat.le_of_ble_eq_true rfl) ?_
    refine z_st (st' := [vi x_6]) rfl ?_
    refine z_iconst (M := M_X3_isOfPoints) dX3_isOfPoints_12 ?_
    rcases if_e H with ⟨h_7, H⟩ | ⟨h_7, H⟩
    · refine z_icmp_ne_f (M := M_X3_isOfPoints) (tgt := 20) dX3_isOfPoints_13 (by decide) rfl (by decide +kernel) h_7 ?_
      refine z_zconst (M := M_X3_isOfPoints) (b := true) dX3_isOfPoints_16 rfl ?_
      refine z_goto (M := M_X3_isOfPoints) (tgt := 21) dX3_isOfPoints_17 (by decide) ?_
      exact J_14 _ (Option.some.inj H).symm
    · refine z_icmp_ne_t (M := M_X3_isOfPoints) (tgt := 20) dX3_isOfPoints_13 (by decide) rfl (by decide +kernel) h_7 ?_
      refine z_zconst (M := M_X3_isOfPoints) (b := false) dX3_isOfPoints_20 rfl ?_
      exact J_14 _ (Option.some.inj H).symm
theorem c_X6_isAt (hl : l.stackTraces = false) {σ : SG} {this_0 : Nat} {i_0 : Int} {px_0 : Int} {py_0 : Int} {r : Bool} (h_this : isS this_0) (H : fA_isAt σ this_0 i_0 px_0 py_0 = some r) : en_S l E M_X6_isAt 1 0 0 [vr this_0, vi i_0, vi px_0, vi py_0] σ (pS (some (zv r)) σ) := by
  unfold fA_isAt at H
  refine z_mk (lv := [some (vr this_0), some (vi i_0), some (vi px_0), some (vi py_0)]) m_X6_isAt rfl hl (Nat.le_of_ble_eq_true rfl) rfl ?_
  obtain ⟨v_11, he_12, hk_13⟩ := bd_e H
  have J_14 : ∀ x_10, v_11 = x_10 → YY l E M_X6_isAt 1 0 0 (pS (some (zv r)) σ) 25 [some (vr this_0), some (vi i_0), some (vi px_0), some (vi py_0)] [zv x_10] σ 0 0 := by
    intro x_10 e
    have H := hk_13
    rw [e] at H
    cases H
    exact z_zret (M := M_X6_isAt) dX6_isAt_25 rfl (Nat.le_of_ble_eq_true rfl) (Nat.le_of_ble_eq_true rfl) ⟨rfl, rfl⟩
  have H := he_12
  refine z_aload_n (M := M_X6_isAt) dX6_isAt_0 rfl ?_
  refine z_getR (M := M_X6_isAt) (ci := 9) (C := RX6) (T := TX6) (Nf := 5) (ty := tyX6) cl9 dX6_isAt_1 (ly_S h_this) 1 (by decide) t_58 rfl ?_
  refine z_iload_n (M := M_X6_isAt) dX6_isAt_4 rfl ?_
  obtain ⟨x_1, x_1_e, hi_2, H⟩ := rd_e H
  refine z_iald (M := M_X6_isAt) dX6_isAt_5 (ly_Sx h_this) rfl rfl rfl hi_2 x_1_e ?_
  refine z_iload_n (M := M_X6_isAt) dX6_isAt_6 rfl ?_
  rcases if_e H with ⟨h_3, H⟩ | ⟨h_3, H⟩
  · refine z_icmp_ne_f (M := M_X6_isAt) (tgt := 24) dX6_isAt_7 (by decide) rfl rfl h_3 ?_
    refine z_aload_n (M := M_X6_isAt) dX6_isAt_10 rfl ?_
    refine z_getR (M := M_X6_isAt) (ci := 9) (C := RX6) (T := TX6) (Nf := 5) (ty := tyX6) cl9 dX6_isAt_11 (ly_S h_this) 2 (by decide) t_65 rfl ?_
    refine z_iload_n (M := M_X6_isAt) dX6_isAt_14 rfl ?_
    obtain ⟨x_4, x_4_e, hi_5, H⟩ := rd_e H
    refine z_iald (M := M_X6_isAt) dX6_isAt_15 (ly_Sy h_this) rfl rfl rfl hi_5 x_4_e ?_
    refine z_iload_n (M := M_X6_isAt) dX6_isAt_16 rfl ?_
    rcases if_e H with ⟨h_6, H⟩ | ⟨h_6, H⟩
    · refine z_icmp_ne_f (M := M_X6_isAt) (tgt := 24) dX6_isAt_17 (by decide) rfl rfl h_6 ?_
      refine z_zconst (M := M_X6_isAt) (b := true) dX6_isAt_20 rfl ?_
      refine z_goto (M := M_X6_isAt) (tgt := 25) dX6_isAt_21 (by decide) ?_
      exact J_14 _ (Option.some.inj H).symm
    · refine z_icmp_ne_t (M := M_X6_isAt) (tgt := 24) dX6_isAt_17 (by decide) rfl rfl h_6 ?_
      refine z_zconst (M := M_X6_isAt) (b := false) dX6_isAt_24 rfl ?_
      exact J_14 _ (Option.some.inj H).symm
  · refine z_icmp_ne_t (M := M_X6_isAt) (tgt := 24) dX6_isAt_7 (by decide) rfl rfl h_3 ?_
    refine z_zconst (M := M_X6_isAt) (b := false) dX6_isAt_24 rfl ?_
    exact J_14 _ (Option.some.inj H).symm
theorem c_X3_hasPoint (hl : l.stackTraces = false) {σ : SG} {shape_0 : Nat} {x_0 : Int} {y_0 : Int} {r : Bool} (h_shape : isS shape_0) (H : fT_hasPoint σ shape_0 x_0 y_0 = some r) : en_S l E M_X3_hasPoint 2 0 0 [vr shape_0, vi x_0, vi y_0] σ (pS (some (zv r)) σ) := by
  unfold fT_hasPoint at H
  refine z_mk (lv := [some (vr shape_0), some (vi x_0), some (vi y_0), none]) m_X3_hasPoint rfl hl (Nat.le_of_ble_eq_true rfl) rfl ?_
  refine z_iconst (M := M_X3_hasPoint) dX3_hasPoint_0 ?_
  refine z_istore_n (M := M_X3_hasPoint) (lv' := [some (vr shape_0), some (vi x_0), some (vi y_0), some (vi 0)]) dX3_hasPoint_1 (Nat.le_of_ble_eq_true rfl) rfl rfl ?_
  obtain ⟨rl_5, hw_2, hk_3, hk_4⟩ := bx_e H
  have J_16 : ∀ i_15, rl_5 = (.inl i_15) → YY l E M_X3_hasPoint 2 0 0 (pS (some (zv r)) σ) 28 [some (vr shape_0), some (vi x_0), some (vi y_0), some (vi i_15)] [] σ 0 0 := by
    intro i_15 e
    have H := hk_3 _ e
    refine z_zconst (M := M_X3_hasPoint) (b := false) dX3_hasPoint_28 rfl ?_
    cases H
    exact z_zret (M := M_X3_hasPoint) dX3_hasPoint_29 rfl (Nat.le_of_ble_eq_true rfl) (Nat.le_of_ble_eq_true rfl) ⟨rfl, rfl⟩
  refine whl_go hw_2 (fun i_1 => YY l E M_X3_hasPoint 2 0 0 (pS (some (zv r)) σ) 2 [some (vr shape_0), some (vi x_0), some (vi y_0), some (vi i_1)] [] σ 0 0) ?_
  rintro i_1 o_6 H K_7 K_8
  refine z_iload_n (M := M_X3_hasPoint) dX3_hasPoint_2 rfl ?_
  refine z_aload_n (M := M_X3_hasPoint) dX3_hasPoint_3 rfl ?_
  refine z_getI (M := M_X3_hasPoint) (ci := 9) (C := RX6) (T := TX6) (Nf := 5) (ty := tyX6) cl9 dX3_hasPoint_4 (ly_S h_shape) 4 (by decide) t_84 rfl rfl ?_
  rcases if_e H with ⟨h_9, H⟩ | ⟨h_9, H⟩
  · refine z_icmp_ge_f (M := M_X3_hasPoint) (tgt := 28) dX3_hasPoint_7 (by decide) rfl rfl h_9 ?_
    refine z_aload_n (M := M_X3_hasPoint) dX3_hasPoint_10 rfl ?_
    refine z_iload_n (M := M_X3_hasPoint) dX3_hasPoint_11 rfl ?_
    refine z_iload_n (M := M_X3_hasPoint) dX3_hasPoint_12 rfl ?_
    refine z_iload_n (M := M_X3_hasPoint) dX3_hasPoint_13 rfl ?_
    obtain ⟨x_11, hc_10, H⟩ := bd_e H
    refine z_callV (M := M_X3_hasPoint) (M' := M_X6_isAt) (as := [vi i_1, vi x_0, vi y_0]) (rest := []) rfl rfl dX3_hasPoint_14 m_X6_isAt t_2021 t_2022 t_2023 (c_X6_isAt hl h_shape hc_10) rfl rfl (ly_S h_shape) rfl (Nat.le_of_ble_eq_true rfl) (Nat.le_of_ble_eq_true rfl) (Nat.le_of_ble_eq_true rfl) (Nat.le_of_ble_eq_true rfl) ?_
    refine z_st (st' := [zv x_11]) rfl ?_
    rcases if_e H with ⟨h_12, H⟩ | ⟨h_12, H⟩
    · refine z_zeq_f (M := M_X3_hasPoint) (tgt := 22) dX3_hasPoint_17 (by decide) h_12 ?_
      refine z_zconst (M := M_X3_hasPoint) (b := true) dX3_hasPoint_20 rfl ?_
      have H := congrArg some (hk_4 _ ((K_8 _ (Option.some.inj H).symm).symm))
      cases H
      exact z_zret (M := M_X3_hasPoint) dX3_hasPoint_21 rfl (Nat.le_of_ble_eq_true rfl) (Nat.le_of_ble_eq_true rfl) ⟨rfl, rfl⟩
    · refine z_zeq_t (M := M_X3_hasPoint) (tgt := 22) dX3_hasPoint_17 (by decide) h_12 ?_
      refine z_iinc (M := M_X3_hasPoint) (lv' := [some (vr shape_0), some (vi x_0), some (vi y_0), some (vi (i_1 + 1))]) dX3_hasPoint_22 rfl (Nat.le_of_ble_eq_true rfl) rfl rfl ?_
      refine z_goto (M := M_X3_hasPoint) (tgt := 2) dX3_hasPoint_25 (by decide) ?_
      exact K_7 _ (Option.some.inj H).symm
  · refine z_icmp_ge_t (M := M_X3_hasPoint) (tgt := 28) dX3_hasPoint_7 (by decide) rfl rfl (Int.not_lt.mp h_9) ?_
    exact J_16 _ (K_8 _ (Option.some.inj H).symm).symm
end LFAJ
