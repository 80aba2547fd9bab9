section LFAK
variable {l : Launch} {E : EE}
theorem c_X3_whereIs (hl : l.stackTraces = false) {σ : SG} {shape_0 : Nat} {x_0 : Int} {y_0 : Int} {r : Int} (h_shape : isS shape_0) (H : fT_whereIs σ shape_0 x_0 y_0 = some r) : en_S l E M_X3_whereIs 4 0 0 [vr shape_0, vi x_0, vi y_0] σ (pS (some (vi r)) σ) := by
  unfold fT_whereIs at H
  refine z_mk (lv := [some (vr shape_0), some (vi x_0), some (vi y_0), none, none, none, none, none, none, none, none, none, none]) m_X3_whereIs rfl hl (Nat.le_of_ble_eq_true rfl) rfl ?_
  refine z_aload_n (M := M_X3_whereIs) dX3_whereIs_0 rfl ?_
  obtain ⟨x_2, hc_1, H⟩ := bd_e H
  refine z_callS (M := M_X3_whereIs) (M' := M_X3_isOfPoints) (as := [vr shape_0]) (rest := []) rfl rfl dX3_whereIs_1 m_X3_isOfPoints t_1893 t_1894 (c_X3_isOfPoints hl h_shape hc_1) rfl rfl (Nat.le_of_ble_eq_true rfl) (Nat.le_of_ble_eq_true rfl) (Nat.le_of_ble_eq_true rfl) (Nat.le_of_ble_eq_true rfl) ?_
  refine z_st (st' := [zv x_2]) rfl ?_
  rcases if_e H with ⟨h_3, H⟩ | ⟨h_3, H⟩
  · refine z_zeq_f (M := M_X3_whereIs) (tgt := 22) dX3_whereIs_4 (by decide) h_3 ?_
    obtain ⟨v_10, he_11, hk_12⟩ := bd_e H
    have J_13 : ∀ x_9, v_10 = x_9 → YY l E M_X3_whereIs 4 0 0 (pS (some (vi r)) σ) 21 [some (vr shape_0), some (vi x_0), some (vi y_0), none, none, none, none, none, none, none, none, none, none] [vi x_9] σ 0 0 := by
      intro x_9 e
      have H := hk_12
      rw [e] at H
      cases H
      exact z_iret (M := M_X3_whereIs) dX3_whereIs_21 rfl (Nat.le_of_ble_eq_true rfl) (Nat.le_of_ble_eq_true rfl) ⟨rfl, rfl⟩
    have H := he_11
    refine z_aload_n (M := M_X3_whereIs) dX3_whereIs_7 rfl ?_
    refine z_iload_n (M := M_X3_whereIs) dX3_whereIs_8 rfl ?_
    refine z_iload_n (M := M_X3_whereIs) dX3_whereIs_9 rfl ?_
    obtain ⟨x_5, hc_4, H⟩ := bd_e H
    refine z_callS (M := M_X3_whereIs) (M' := M_X3_hasPoint) (as := [vr shape_0, vi x_0, vi y_0]) (rest := []) rfl rfl dX3_whereIs_10 m_X3_hasPoint t_2018 t_2019 (c_X3_hasPoint hl h_shape hc_4) rfl rfl (Nat.le_of_ble_eq_true rfl) (Nat.le_of_ble_eq_true rfl) (Nat.le_of_ble_eq_true rfl) (Nat.le_of_ble_eq_true rfl) ?_
    refine z_st (st' := [zv x_5]) rfl ?_
    rcases if_e H with ⟨h_6, H⟩ | ⟨h_6, H⟩
    · refine z_zeq_f (M := M_X3_whereIs) (tgt := 20) dX3_whereIs_13 (by decide) h_6 ?_
      refine z_iconst (M := M_X3_whereIs) dX3_whereIs_16 ?_
      refine z_goto (M := M_X3_whereIs) (tgt := 21) dX3_whereIs_17 (by decide) ?_
      exact J_13 _ (Option.some.inj H).symm
    · refine z_zeq_t (M := M_X3_whereIs) (tgt := 20) dX3_whereIs_13 (by decide) h_6 ?_
      refine z_iconst (M := M_X3_whereIs) dX3_whereIs_20 ?_
      exact J_13 _ (Option.some.inj H).symm
  · refine z_zeq_t (M := M_X3_whereIs) (tgt := 22) dX3_whereIs_4 (by decide) h_3 ?_
    refine z_aload_n (M := M_X3_whereIs) dX3_whereIs_22 rfl ?_
    obtain ⟨x_15, hc_14, H⟩ := bd_e H
    refine z_callS (M := M_X3_whereIs) (M' := M_X3_isArea) (as := [vr shape_0]) (rest := []) rfl rfl dX3_whereIs_23 m_X3_isArea t_1905 t_1906 (c_X3_isArea hl h_shape hc_14) rfl rfl (Nat.le_of_ble_eq_true rfl) (Nat.le_of_ble_eq_true rfl) (Nat.le_of_ble_eq_true rfl) (Nat.le_of_ble_eq_true rfl) ?_
    refine z_st (st' := [zv x_15]) rfl ?_
    refine z_zstore_n (M := M_X3_whereIs) (lv' := [some (vr shape_0), some (vi x_0), some (vi y_0), some (zv x_15), none, none, none, none, none, none, none, none, none]) dX3_whereIs_26 (Nat.le_of_ble_eq_true rfl) rfl rfl ?_
    refine z_zconst (M := M_X3_whereIs) (b := false) dX3_whereIs_27 rfl ?_
    refine z_zstore (M := M_X3_whereIs) (lv' := [some (vr shape_0), some (vi x_0), some (vi y_0), some (zv x_15), some (zv false), none, none, none, none, none, none, none, none]) dX3_whereIs_28 (Nat.le_of_ble_eq_true rfl) rfl rfl ?_
    refine z_zconst (M := M_X3_whereIs) (b := false) dX3_whereIs_30 rfl ?_
    refine z_zstore (M := M_X3_whereIs) (lv' := [some (vr shape_0), some (vi x_0), some (vi y_0), some (zv x_15), some (zv false), some (zv false), none, none, none, none, none, none, none]) dX3_whereIs_31 (Nat.le_of_ble_eq_true rfl) rfl rfl ?_
    refine z_zconst (M := M_X3_whereIs) (b := false) dX3_whereIs_33 rfl ?_
    refine z_zstore (M := M_X3_whereIs) (lv' := [some (vr shape_0), some (vi x_0), some (vi y_0), some (zv x_15), some (zv false), some (zv false), some (zv false), none, none, none, none, none, none]) dX3_whereIs_34 (Nat.le_of_ble_eq_true rfl) rfl rfl ?_
    refine z_iconst (M := M_X3_whereIs) dX3_whereIs_36 ?_
    refine z_istore (M := M_X3_whereIs) (lv' := [some (vr shape_0), some (vi x_0), some (vi y_0), some (zv x_15), some (zv false), some (zv false), some (zv false), some (vi 0), none, none, none, none, none]) dX3_whereIs_37 (Nat.le_of_ble_eq_true rfl) rfl rfl ?_
    refine z_iconst (M := M_X3_whereIs) dX3_whereIs_39 ?_
    refine z_istore (M := M_X3_whereIs) (lv' := [some (vr shape_0), some (vi x_0), some (vi y_0), some (zv x_15), some (zv false), some (zv false), some (zv false), some (vi 0), some (vi 0), none, none, none, none]) dX3_whereIs_40 (Nat.le_of_ble_eq_true rfl) rfl rfl ?_
    obtain ⟨rl_24, hw_21, hk_22⟩ := bd_e H
    have J_222 : ∀ ends_204 held_205 odd_206 from_207 at_208, rl_24 = (ends_204, held_205, odd_206, from_207, at_208) → YY l E M_X3_whereIs 4 0 0 (pS (some (vi r)) σ) 290 [some (vr shape_0), some (vi x_0), some (vi y_0), some (zv x_15), some (zv ends_204), some (zv held_205), some (zv odd_206), some (vi from_207), some (vi at_208), none, none, none, none] [] σ 0 0 := by
      intro ends_204 held_205 odd_206 from_207 at_208 e
      have H := hk_22
      rw [e] at H
      refine z_zload_n (M := M_X3_whereIs) dX3_whereIs_290 rfl ?_
      rcases if_e H with ⟨h_209, H⟩ | ⟨h_209, H⟩
      · refine z_zeq_f (M := M_X3_whereIs) (tgt := 314) dX3_whereIs_291 (by decide) h_209 ?_
        have J_212 : YY l E M_X3_whereIs 4 0 0 (pS (some (vi r)) σ) 313 [some (vr shape_0), some (vi x_0), some (vi y_0), some (zv x_15), some (zv ends_204), some (zv held_205), some (zv odd_206), some (vi from_207), some (vi at_208), none, none, none, none] [vi (if held_205 = true then 1 else (if odd_206 = true then 0 else 2))] σ 0 0 := by
          cases H
          exact z_iret (M := M_X3_whereIs) dX3_whereIs_313 rfl (Nat.le_of_ble_eq_true rfl) (Nat.le_of_ble_eq_true rfl) ⟨rfl, rfl⟩
        refine z_zload (M := M_X3_whereIs) dX3_whereIs_294 rfl ?_
        by_cases h_213 : held_205 = true
        · refine z_zeq_f (M := M_X3_whereIs) (tgt := 303) dX3_whereIs_296 (by decide) h_213 ?_
          refine z_iconst (M := M_X3_whereIs) dX3_whereIs_299 ?_
          refine z_goto (M := M_X3_whereIs) (tgt := 313) dX3_whereIs_300 (by decide) ?_
          exact z_st (by rw [if_pos (c := held_205 = true) h_213]) J_212
        · refine z_zeq_t (M := M_X3_whereIs) (tgt := 303) dX3_whereIs_296 (by decide) h_213 ?_
          have J_214 : YY l E M_X3_whereIs 4 0 0 (pS (some (vi r)) σ) 313 [some (vr shape_0), some (vi x_0), some (vi y_0), some (zv x_15), some (zv ends_204), some (zv held_205), some (zv odd_206), some (vi from_207), some (vi at_208), none, none, none, none] [vi (if odd_206 = true then 0 else 2)] σ 0 0 := by
            exact z_st (by rw [if_neg (c := held_205 = true) h_213]) J_212
          refine z_zload (M := M_X3_whereIs) dX3_whereIs_303 rfl ?_
          by_cases h_215 : odd_206 = true
          · refine z_zeq_f (M := M_X3_whereIs) (tgt := 312) dX3_whereIs_305 (by decide) h_215 ?_
            refine z_iconst (M := M_X3_whereIs) dX3_whereIs_308 ?_
            refine z_goto (M := M_X3_whereIs) (tgt := 313) dX3_whereIs_309 (by decide) ?_
            exact z_st (by rw [if_pos (c := odd_206 = true) h_215]) J_214
          · refine z_zeq_t (M := M_X3_whereIs) (tgt := 312) dX3_whereIs_305 (by decide) h_215 ?_
            refine z_iconst (M := M_X3_whereIs) dX3_whereIs_312 ?_
            exact z_st (by rw [if_neg (c := odd_206 = true) h_215]) J_214
      · refine z_zeq_t (M := M_X3_whereIs) (tgt := 314) dX3_whereIs_291 (by decide) h_209 ?_
        have J_218 : YY l E M_X3_whereIs 4 0 0 (pS (some (vi r)) σ) 333 [some (vr shape_0), some (vi x_0), some (vi y_0), some (zv x_15), some (zv ends_204), some (zv held_205), some (zv odd_206), some (vi from_207), some (vi at_208), none, none, none, none] [vi (if ends_204 = true then 1 else (if held_205 = true then 0 else 2))] σ 0 0 := by
          cases H
          exact z_iret (M := M_X3_whereIs) dX3_whereIs_333 rfl (Nat.le_of_ble_eq_true rfl) (Nat.le_of_ble_eq_true rfl) ⟨rfl, rfl⟩
        refine z_zload (M := M_X3_whereIs) dX3_whereIs_314 rfl ?_
        by_cases h_219 : ends_204 = true
        · refine z_zeq_f (M := M_X3_whereIs) (tgt := 323) dX3_whereIs_316 (by decide) h_219 ?_
          refine z_iconst (M := M_X3_whereIs) dX3_whereIs_319 ?_
          refine z_goto (M := M_X3_whereIs) (tgt := 333) dX3_whereIs_320 (by decide) ?_
          exact z_st (by rw [if_pos (c := ends_204 = true) h_219]) J_218
        · refine z_zeq_t (M := M_X3_whereIs) (tgt := 323) dX3_whereIs_316 (by decide) h_219 ?_
          have J_220 : YY l E M_X3_whereIs 4 0 0 (pS (some (vi r)) σ) 333 [some (vr shape_0), some (vi x_0), some (vi y_0), some (zv x_15), some (zv ends_204), some (zv held_205), some (zv odd_206), some (vi from_207), some (vi at_208), none, none, none, none] [vi (if held_205 = true then 0 else 2)] σ 0 0 := by
            exact z_st (by rw [if_neg (c := ends_204 = true) h_219]) J_218
          refine z_zload (M := M_X3_whereIs) dX3_whereIs_323 rfl ?_
          by_cases h_221 : held_205 = true
          · refine z_zeq_f (M := M_X3_whereIs) (tgt := 332) dX3_whereIs_325 (by decide) h_221 ?_
            refine z_iconst (M := M_X3_whereIs) dX3_whereIs_328 ?_
            refine z_goto (M := M_X3_whereIs) (tgt := 333) dX3_whereIs_329 (by decide) ?_
            exact z_st (by rw [if_pos (c := held_205 = true) h_221]) J_220
          · refine z_zeq_t (M := M_X3_whereIs) (tgt := 332) dX3_whereIs_325 (by decide) h_221 ?_
            refine z_iconst (M := M_X3_whereIs) dX3_whereIs_332 ?_
            exact z_st (by rw [if_neg (c := held_205 = true) h_221]) J_220
    refine whl_go hw_21 (fun (ends_16, held_17, odd_18, from_19, at_20) => YY l E M_X3_whereIs 4 0 0 (pS (some (vi r)) σ) 42 [some (vr shape_0), some (vi x_0), some (vi y_0), some (zv x_15), some (zv ends_16), some (zv held_17), some (zv odd_18), some (vi from_19), some (vi at_20), none, none, none, none] [] σ 0 0) ?_
    rintro ⟨ends_16, held_17, odd_18, from_19, at_20⟩ o_25 H K_26 K_27
    refine z_iload (M := M_X3_whereIs) dX3_whereIs_42 rfl ?_
    refine z_iconst (M := M_X3_whereIs) dX3_whereIs_44 ?_
    refine z_iadd (M := M_X3_whereIs) dX3_whereIs_45 ?_
    refine z_aload_n (M := M_X3_whereIs) dX3_whereIs_46 rfl ?_
    refine z_getI (M := M_X3_whereIs) (ci := 9) (C := RX6) (T := TX6) (Nf := 5) (ty := tyX6) cl9 dX3_whereIs_47 (ly_S h_shape) 3 (by decide) t_76 rfl rfl ?_
    rcases if_e H with ⟨h_28, H⟩ | ⟨h_28, H⟩
    · refine z_icmp_ge_f (M := M_X3_whereIs) (tgt := 290) dX3_whereIs_50 (by decide) rfl rfl h_28 ?_
      refine z_iconst (M := M_X3_whereIs) dX3_whereIs_53 ?_
      refine z_istore (M := M_X3_whereIs) (lv' := [some (vr shape_0), some (vi x_0), some (vi y_0), some (zv x_15), some (zv ends_16), some (zv held_17), some (zv odd_18), some (vi from_19), some (vi at_20), some (vi 0), none, none, none]) dX3_whereIs_54 (Nat.le_of_ble_eq_true rfl) rfl rfl ?_
      obtain ⟨rl_37, hw_34, hk_35⟩ := bd_e H
      have J_202 : ∀ ends_194 held_195 odd_196 from_197 row_198, rl_37 = (ends_194, held_195, odd_196, from_197, row_198) → YY l E M_X3_whereIs 4 0 0 (pS (some (vi r)) σ) 279 [some (vr shape_0), some (vi x_0), some (vi y_0), some (zv x_15), some (zv ends_194), some (zv held_195), some (zv odd_196), some (vi from_197), some (vi at_20), some (vi row_198), none, none, none] [] σ 0 0 := by
        intro ends_194 held_195 odd_196 from_197 row_198 e
        have H := hk_35
        rw [e] at H
        refine z_aload_n (M := M_X3_whereIs) dX3_whereIs_279 rfl ?_
        refine z_iload (M := M_X3_whereIs) dX3_whereIs_280 rfl ?_
        obtain ⟨x_200, hc_199, H⟩ := bd_e H
        refine z_callV (M := M_X3_whereIs) (M' := M_X6_behind) (as := [vi at_20]) (rest := []) rfl rfl dX3_whereIs_282 m_X6_behind t_1898 t_1107 t_1108 (c_X6_behind hl h_shape hc_199) rfl rfl (ly_S h_shape) rfl (Nat.le_of_ble_eq_true rfl) (Nat.le_of_ble_eq_true rfl) (Nat.le_of_ble_eq_true rfl) (Nat.le_of_ble_eq_true rfl) ?_
        refine z_st (st' := [vi x_200]) rfl ?_
        refine z_istore (M := M_X3_whereIs) (lv' := [some (vr shape_0), some (vi x_0), some (vi y_0), some (zv x_15), some (zv ends_194), some (zv held_195), some (zv odd_196), some (vi from_197), some (vi x_200), some (vi row_198), none, none, none]) dX3_whereIs_285 (Nat.le_of_ble_eq_true rfl) rfl rfl ?_
        refine z_goto (M := M_X3_whereIs) (tgt := 42) dX3_whereIs_287 (by decide) ?_
        refine z_le (lv' := [some (vr shape_0), some (vi x_0), some (vi y_0), some (zv x_15), some (zv ends_194), some (zv held_195), some (zv odd_196), some (vi from_197), some (vi x_200), none, none, none, none]) ⟨Or.inr rfl, Or.inr rfl, Or.inr rfl, Or.inr rfl, Or.inr rfl, Or.inr rfl, Or.inr rfl, Or.inr rfl, Or.inr rfl, Or.inl rfl, Or.inl rfl, Or.inl rfl, Or.inl rfl, trivial⟩ ?_
        exact K_26 _ (Option.some.inj H).symm
      refine whl_go hw_34 (fun (ends_29, held_30, odd_31, from_32, row_33) => YY l E M_X3_whereIs 4 0 0 (pS (some (vi r)) σ) 56 [some (vr shape_0), some (vi x_0), some (vi y_0), some (zv x_15), some (zv ends_29), some (zv held_30), some (zv odd_31), some (vi from_32), some (vi at_20), some (vi row_33), none, none, none] [] σ 0 0) ?_
      rintro ⟨ends_29, held_30, odd_31, from_32, row_33⟩ o_38 H K_39 K_40
      refine z_iload (M := M_X3_whereIs) dX3_whereIs_56 rfl ?_
      refine z_aload_n (M := M_X3_whereIs) dX3_whereIs_58 rfl ?_
      refine z_iload (M := M_X3_whereIs) dX3_whereIs_59 rfl ?_
      obtain ⟨x_42, hc_41, H⟩ := bd_e H
      refine z_callV (M := M_X3_whereIs) (M' := M_X6_rows) (as := [vi at_20]) (rest := [vi row_33]) rfl rfl dX3_whereIs_61 m_X6_rows t_1897 t_1075 t_1076 (c_X6_rows hl h_shape hc_41) rfl rfl (ly_S h_shape) rfl (Nat.le_of_ble_eq_true rfl) (Nat.le_of_ble_eq_true rfl) (Nat.le_of_ble_eq_true rfl) (Nat.le_of_ble_eq_true rfl) ?_
      refine z_st (st' := [vi x_42, vi row_33]) rfl ?_
      rcases if_e H with ⟨h_43, H⟩ | ⟨h_43, H⟩
      · refine z_icmp_ge_f (M := M_X3_whereIs) (tgt := 279) dX3_whereIs_64 (by decide) rfl rfl h_43 ?_
        refine z_iload (M := M_X3_whereIs) dX3_whereIs_67 rfl ?_
        refine z_aload_n (M := M_X3_whereIs) dX3_whereIs_69 rfl ?_
        refine z_iload (M := M_X3_whereIs) dX3_whereIs_70 rfl ?_
        refine z_iload (M := M_X3_whereIs) dX3_whereIs_72 rfl ?_
        obtain ⟨x_45, hc_44, H⟩ := bd_e H
        refine z_callV (M := M_X3_whereIs) (M' := M_X6_rowLength) (as := [vi at_20, vi row_33]) (rest := [vi from_32]) rfl rfl dX3_whereIs_74 m_X6_rowLength t_1903 t_1080 t_1081 (c_X6_rowLength hl h_shape hc_44) rfl rfl (ly_S h_shape) rfl (Nat.le_of_ble_eq_true rfl) (Nat.le_of_ble_eq_true rfl) (Nat.le_of_ble_eq_true rfl) (Nat.le_of_ble_eq_true rfl) ?_
        refine z_st (st' := [vi x_45, vi from_32]) rfl ?_
        refine z_iadd (M := M_X3_whereIs) dX3_whereIs_77 ?_
        refine z_istore (M := M_X3_whereIs) (lv' := [some (vr shape_0), some (vi x_0), some (vi y_0), some (zv x_15), some (zv ends_29), some (zv held_30), some (zv odd_31), some (vi from_32), some (vi at_20), some (vi row_33), some (vi (from_32 + x_45)), none, none]) dX3_whereIs_78 (Nat.le_of_ble_eq_true rfl) rfl rfl ?_
        obtain ⟨v_49, he_46, hk_47⟩ := bd_e H
        have J_192 : ∀ ends_71, v_49 = ends_71 → YY l E M_X3_whereIs 4 0 0 (pS (some (vi r)) σ) 120 [some (vr shape_0), some (vi x_0), some (vi y_0), some (zv x_15), some (zv ends_71), some (zv held_30), some (zv odd_31), some (vi from_32), some (vi at_20), some (vi row_33), some (vi (from_32 + x_45)), none, none] [] σ 0 0 := by
          intro ends_71 e
          have H := hk_47
          rw [e] at H
          refine z_iload (M := M_X3_whereIs) dX3_whereIs_120 rfl ?_
          refine z_istore (M := M_X3_whereIs) (lv' := [some (vr shape_0), some (vi x_0), some (vi y_0), some (zv x_15), some (zv ends_71), some (zv held_30), some (zv odd_31), some (vi from_32), some (vi at_20), some (vi row_33), some (vi (from_32 + x_45)), some (vi from_32), none]) dX3_whereIs_122 (Nat.le_of_ble_eq_true rfl) rfl rfl ?_
          obtain ⟨rl_78, hw_75, hk_76⟩ := bd_e H
          have J_191 : ∀ held_187 odd_188 i_189, rl_78 = (held_187, odd_188, i_189) → YY l E M_X3_whereIs 4 0 0 (pS (some (vi r)) σ) 269 [some (vr shape_0), some (vi x_0), some (vi y_0), some (zv x_15), some (zv ends_71), some (zv held_187), some (zv odd_188), some (vi from_32), some (vi at_20), some (vi row_33), some (vi (from_32 + x_45)), some (vi i_189), none] [] σ 0 0 := by
            intro held_187 odd_188 i_189 e
            have H := hk_76
            rw [e] at H
            refine z_iload (M := M_X3_whereIs) dX3_whereIs_269 rfl ?_
            refine z_istore (M := M_X3_whereIs) (lv' := [some (vr shape_0), some (vi x_0), some (vi y_0), some (zv x_15), some (zv ends_71), some (zv held_187), some (zv odd_188), some (vi (from_32 + x_45)), some (vi at_20), some (vi row_33), some (vi (from_32 + x_45)), some (vi i_189), none]) dX3_whereIs_271 (Nat.le_of_ble_eq_true rfl) rfl rfl ?_
            refine z_iinc (M := M_X3_whereIs) (lv' := [some (vr shape_0), some (vi x_0), some (vi y_0), some (zv x_15), some (zv ends_71), some (zv held_187), some (zv odd_188), some (vi (from_32 + x_45)), some (vi at_20), some (vi (row_33 + 1)), some (vi (from_32 + x_45)), some (vi i_189), none]) dX3_whereIs_273 rfl (Nat.le_of_ble_eq_true rfl) rfl rfl ?_
            refine z_goto (M := M_X3_whereIs) (tgt := 56) dX3_whereIs_276 (by decide) ?_
            refine z_le (lv' := [some (vr shape_0), some (vi x_0), some (vi y_0), some (zv x_15), some (zv ends_71), some (zv held_187), some (zv odd_188), some (vi (from_32 + x_45)), some (vi at_20), some (vi (row_33 + 1)), none, none, none]) ⟨Or.inr rfl, Or.inr rfl, Or.inr rfl, Or.inr rfl, Or.inr rfl, Or.inr rfl, Or.inr rfl, Or.inr rfl, Or.inr rfl, Or.inr rfl, Or.inl rfl, Or.inl rfl, Or.inl rfl, trivial⟩ ?_
            exact K_39 _ (Option.some.inj H).symm
          refine whl_go hw_75 (fun (held_72, odd_73, i_74) => YY l E M_X3_whereIs 4 0 0 (pS (some (vi r)) σ) 124 [some (vr shape_0), some (vi x_0), some (vi y_0), some (zv x_15), some (zv ends_71), some (zv held_72), some (zv odd_73), some (vi from_32), some (vi at_20), some (vi row_33), some (vi (from_32 + x_45)), some (vi i_74), none] [] σ 0 0) ?_
          rintro ⟨held_72, odd_73, i_74⟩ o_79 H K_80 K_81
          refine z_iload (M := M_X3_whereIs) dX3_whereIs_124 rfl ?_
          refine z_iload (M := M_X3_whereIs) dX3_whereIs_126 rfl ?_
          rcases if_e H with ⟨h_82, H⟩ | ⟨h_82, H⟩
          · refine z_icmp_ge_f (M := M_X3_whereIs) (tgt := 269) dX3_whereIs_128 (by decide) rfl rfl h_82 ?_
            have J_83 : YY l E M_X3_whereIs 4 0 0 (pS (some (vi r)) σ) 149 [some (vr shape_0), some (vi x_0), some (vi y_0), some (zv x_15), some (zv ends_71), some (zv held_72), some (zv odd_73), some (vi from_32), some (vi at_20), some (vi row_33), some (vi (from_32 + x_45)), some (vi i_74), none] [vi (if (w32 (i_74 + 1)) < (w32 (from_32 + x_45)) then (i_74 + 1) else from_32)] σ 0 0 := by
              obtain ⟨x_84, x_84_e, H⟩ := lt_e H
              refine z_st (congrArg (fun z => vi z :: []) x_84_e) ?_
              refine z_istore (M := M_X3_whereIs) (lv' := [some (vr shape_0), some (vi x_0), some (vi y_0), some (zv x_15), some (zv ends_71), some (zv held_72), some (zv odd_73), some (vi from_32), some (vi at_20), some (vi row_33), some (vi (from_32 + x_45)), some (vi i_74), some (vi x_84)]) dX3_whereIs_149 (Nat.le_of_ble_eq_true rfl) rfl rfl ?_
              obtain ⟨v_180, he_181, hk_182⟩ := bd_e H
              have J_183 : v_180 = true → YY l E M_X3_whereIs 4 0 0 (pS (some (vi r)) σ) 263 [some (vr shape_0), some (vi x_0), some (vi y_0), some (zv x_15), some (zv ends_71), some (zv held_72), some (zv odd_73), some (vi from_32), some (vi at_20), some (vi row_33), some (vi (from_32 + x_45)), some (vi i_74), some (vi x_84)] [] σ 0 0 := by
                intro e
                have H := hk_182
                rw [e] at H
                rcases if_e H with ⟨_, H⟩ | ⟨q, H⟩
                · refine z_iinc (M := M_X3_whereIs) (lv' := [some (vr shape_0), some (vi x_0), some (vi y_0), some (zv x_15), some (zv ends_71), some (zv held_72), some (zv odd_73), some (vi from_32), some (vi at_20), some (vi row_33), some (vi (from_32 + x_45)), some (vi (i_74 + 1)), some (vi x_84)]) dX3_whereIs_263 rfl (Nat.le_of_ble_eq_true rfl) rfl rfl ?_
                  refine z_goto (M := M_X3_whereIs) (tgt := 124) dX3_whereIs_266 (by decide) ?_
                  refine z_le (lv' := [some (vr shape_0), some (vi x_0), some (vi y_0), some (zv x_15), some (zv ends_71), some (zv held_72), some (zv odd_73), some (vi from_32), some (vi at_20), some (vi row_33), some (vi (from_32 + x_45)), some (vi (i_74 + 1)), none]) ⟨Or.inr rfl, Or.inr rfl, Or.inr rfl, Or.inr rfl, Or.inr rfl, Or.inr rfl, Or.inr rfl, Or.inr rfl, Or.inr rfl, Or.inr rfl, Or.inr rfl, Or.inr rfl, Or.inl rfl, trivial⟩ ?_
                  exact K_80 _ (Option.some.inj H).symm
                · exact absurd rfl q
              have J_184 : v_180 = false → YY l E M_X3_whereIs 4 0 0 (pS (some (vi r)) σ) 176 [some (vr shape_0), some (vi x_0), some (vi y_0), some (zv x_15), some (zv ends_71), some (zv held_72), some (zv odd_73), some (vi from_32), some (vi at_20), some (vi row_33), some (vi (from_32 + x_45)), some (vi i_74), some (vi x_84)] [] σ 0 0 := by
                intro e
                have H := hk_182
                rw [e] at H
                rcases if_e H with ⟨q, H⟩ | ⟨_, H⟩
                · exact nomatch q
                · obtain ⟨v_146, he_143, hk_144⟩ := bd_e H
                  have J_179 : ∀ held_158, v_146 = held_158 → YY l E M_X3_whereIs 4 0 0 (pS (some (vi r)) σ) 215 [some (vr shape_0), some (vi x_0), some (vi y_0), some (zv x_15), some (zv ends_71), some (zv held_158), some (zv odd_73), some (vi from_32), some (vi at_20), some (vi row_33), some (vi (from_32 + x_45)), some (vi i_74), some (vi x_84)] [] σ 0 0 := by
                    intro held_158 e
                    have H := hk_144
                    rw [e] at H
                    obtain ⟨v_162, he_159, hk_160⟩ := bd_e H
                    have J_178 : ∀ odd_176, v_162 = odd_176 → YY l E M_X3_whereIs 4 0 0 (pS (some (vi r)) σ) 263 [some (vr shape_0), some (vi x_0), some (vi y_0), some (zv x_15), some (zv ends_71), some (zv held_158), some (zv odd_176), some (vi from_32), some (vi at_20), some (vi row_33), some (vi (from_32 + x_45)), some (vi i_74), some (vi x_84)] [] σ 0 0 := by
                      intro odd_176 e
                      have H := hk_160
                      rw [e] at H
                      refine z_iinc (M := M_X3_whereIs) (lv' := [some (vr shape_0), some (vi x_0), some (vi y_0), some (zv x_15), some (zv ends_71), some (zv held_158), some (zv odd_176), some (vi from_32), some (vi at_20), some (vi row_33), some (vi (from_32 + x_45)), some (vi (i_74 + 1)), some (vi x_84)]) dX3_whereIs_263 rfl (Nat.le_of_ble_eq_true rfl) rfl rfl ?_
                      refine z_goto (M := M_X3_whereIs) (tgt := 124) dX3_whereIs_266 (by decide) ?_
                      refine z_le (lv' := [some (vr shape_0), some (vi x_0), some (vi y_0), some (zv x_15), some (zv ends_71), some (zv held_158), some (zv odd_176), some (vi from_32), some (vi at_20), some (vi row_33), some (vi (from_32 + x_45)), some (vi (i_74 + 1)), none]) ⟨Or.inr rfl, Or.inr rfl, Or.inr rfl, Or.inr rfl, Or.inr rfl, Or.inr rfl, Or.inr rfl, Or.inr rfl, Or.inr rfl, Or.inr rfl, Or.inr rfl, Or.inr rfl, Or.inl rfl, trivial⟩ ?_
                      exact K_80 _ (Option.some.inj H).symm
                    have H := he_159
                    refine z_aload_n (M := M_X3_whereIs) dX3_whereIs_215 rfl ?_
                    refine z_getR (M := M_X3_whereIs) (ci := 9) (C := RX6) (T := TX6) (Nf := 5) (ty := tyX6) cl9 dX3_whereIs_216 (ly_S h_shape) 1 (by decide) t_62 rfl ?_
                    refine z_iload (M := M_X3_whereIs) dX3_whereIs_219 rfl ?_
                    obtain ⟨x_163, x_163_e, hi_164, H⟩ := rd_e H
                    refine z_iald (M := M_X3_whereIs) dX3_whereIs_221 (ly_Sx h_shape) rfl rfl rfl hi_164 x_163_e ?_
                    refine z_aload_n (M := M_X3_whereIs) dX3_whereIs_222 rfl ?_
                    refine z_getR (M := M_X3_whereIs) (ci := 9) (C := RX6) (T := TX6) (Nf := 5) (ty := tyX6) cl9 dX3_whereIs_223 (ly_S h_shape) 2 (by decide) t_69 rfl ?_
                    refine z_iload (M := M_X3_whereIs) dX3_whereIs_226 rfl ?_
                    obtain ⟨x_165, x_165_e, hi_166, H⟩ := rd_e H
                    refine z_iald (M := M_X3_whereIs) dX3_whereIs_228 (ly_Sy h_shape) rfl rfl rfl hi_166 x_165_e ?_
                    refine z_aload_n (M := M_X3_whereIs) dX3_whereIs_229 rfl ?_
                    refine z_getR (M := M_X3_whereIs) (ci := 9) (C := RX6) (T := TX6) (Nf := 5) (ty := tyX6) cl9 dX3_whereIs_230 (ly_S h_shape) 1 (by decide) t_62 rfl ?_
                    refine z_iload (M := M_X3_whereIs) dX3_whereIs_233 rfl ?_
                    obtain ⟨x_167, x_167_e, hi_168, H⟩ := rd_e H
                    refine z_iald (M := M_X3_whereIs) dX3_whereIs_235 (ly_Sx h_shape) rfl rfl rfl hi_168 x_167_e ?_
                    refine z_aload_n (M := M_X3_whereIs) dX3_whereIs_236 rfl ?_
                    refine z_getR (M := M_X3_whereIs) (ci := 9) (C := RX6) (T := TX6) (Nf := 5) (ty := tyX6) cl9 dX3_whereIs_237 (ly_S h_shape) 2 (by decide) t_69 rfl ?_
                    refine z_iload (M := M_X3_whereIs) dX3_whereIs_240 rfl ?_
                    obtain ⟨x_169, x_169_e, hi_170, H⟩ := rd_e H
                    refine z_iald (M := M_X3_whereIs) dX3_whereIs_242 (ly_Sy h_shape) rfl rfl rfl hi_170 x_169_e ?_
                    refine z_iload_n (M := M_X3_whereIs) dX3_whereIs_243 rfl ?_
                    refine z_iload_n (M := M_X3_whereIs) dX3_whereIs_244 rfl ?_
                    refine z_callSN (M := M_X3_whereIs) (M' := M_X11_isCrossedFrom) (as := [vi x_163, vi x_165, vi x_167, vi x_169, vi x_0, vi y_0]) (rest := []) rfl rfl dX3_whereIs_245 m_X11_isCrossedFrom n_2026 t_1325 (c_X11_isCrossedFrom hl  rfl) rfl rfl (Nat.le_of_ble_eq_true rfl) (Nat.le_of_ble_eq_true rfl) (Nat.le_of_ble_eq_true rfl) (Nat.le_of_ble_eq_true rfl) ?_
                    refine z_st (st' := [zv (fQ_isCrossedFrom x_163 x_165 x_167 x_169 x_0 y_0)]) rfl ?_
                    rcases if_e H with ⟨h_171, H⟩ | ⟨h_171, H⟩
                    · refine z_zeq_f (M := M_X3_whereIs) (tgt := 263) dX3_whereIs_248 (by decide) h_171 ?_
                      have J_172 : YY l E M_X3_whereIs 4 0 0 (pS (some (vi r)) σ) 261 [some (vr shape_0), some (vi x_0), some (vi y_0), some (zv x_15), some (zv ends_71), some (zv held_158), some (zv odd_73), some (vi from_32), some (vi at_20), some (vi row_33), some (vi (from_32 + x_45)), some (vi i_74), some (vi x_84)] [zv (decide (¬ (odd_73 = true)))] σ 0 0 := by
                        refine z_zstore (M := M_X3_whereIs) (lv' := [some (vr shape_0), some (vi x_0), some (vi y_0), some (zv x_15), some (zv ends_71), some (zv held_158), some (zv (decide (¬ (odd_73 = true)))), some (vi from_32), some (vi at_20), some (vi row_33), some (vi (from_32 + x_45)), some (vi i_74), some (vi x_84)]) dX3_whereIs_261 (Nat.le_of_ble_eq_true rfl) rfl rfl ?_
                        exact J_178 _ (Option.some.inj H).symm
                      refine z_zload (M := M_X3_whereIs) dX3_whereIs_251 rfl ?_
                      by_cases h_174 : odd_73 = true
                      · refine z_zne_t (M := M_X3_whereIs) (tgt := 260) dX3_whereIs_253 (by decide) h_174 ?_
                        refine z_iconst (M := M_X3_whereIs) dX3_whereIs_260 ?_
                        exact z_st (by rw [zv_f (p := ¬ (odd_73 = true)) (not_not_intro h_174)]) J_172
                      · refine z_zne_f (M := M_X3_whereIs) (tgt := 260) dX3_whereIs_253 (by decide) h_174 ?_
                        refine z_iconst (M := M_X3_whereIs) dX3_whereIs_256 ?_
                        refine z_goto (M := M_X3_whereIs) (tgt := 261) dX3_whereIs_257 (by decide) ?_
                        exact z_st (by rw [zv_t (p := ¬ (odd_73 = true)) h_174]) J_172
                    · refine z_zeq_t (M := M_X3_whereIs) (tgt := 263) dX3_whereIs_248 (by decide) h_171 ?_
                      exact J_178 _ (Option.some.inj H).symm
                  have H := he_143
                  refine z_aload_n (M := M_X3_whereIs) dX3_whereIs_176 rfl ?_
                  refine z_getR (M := M_X3_whereIs) (ci := 9) (C := RX6) (T := TX6) (Nf := 5) (ty := tyX6) cl9 dX3_whereIs_177 (ly_S h_shape) 1 (by decide) t_62 rfl ?_
                  refine z_iload (M := M_X3_whereIs) dX3_whereIs_180 rfl ?_
                  obtain ⟨x_147, x_147_e, hi_148, H⟩ := rd_e H
                  refine z_iald (M := M_X3_whereIs) dX3_whereIs_182 (ly_Sx h_shape) rfl rfl rfl hi_148 x_147_e ?_
                  refine z_aload_n (M := M_X3_whereIs) dX3_whereIs_183 rfl ?_
                  refine z_getR (M := M_X3_whereIs) (ci := 9) (C := RX6) (T := TX6) (Nf := 5) (ty := tyX6) cl9 dX3_whereIs_184 (ly_S h_shape) 2 (by decide) t_69 rfl ?_
                  refine z_iload (M := M_X3_whereIs) dX3_whereIs_187 rfl ?_
                  obtain ⟨x_149, x_149_e, hi_150, H⟩ := rd_e H
                  refine z_iald (M := M_X3_whereIs) dX3_whereIs_189 (ly_Sy h_shape) rfl rfl rfl hi_150 x_149_e ?_
                  refine z_aload_n (M := M_X3_whereIs) dX3_whereIs_190 rfl ?_
                  refine z_getR (M := M_X3_whereIs) (ci := 9) (C := RX6) (T := TX6) (Nf := 5) (ty := tyX6) cl9 dX3_whereIs_191 (ly_S h_shape) 1 (by decide) t_62 rfl ?_
                  refine z_iload (M := M_X3_whereIs) dX3_whereIs_194 rfl ?_
                  obtain ⟨x_151, x_151_e, hi_152, H⟩ := rd_e H
                  refine z_iald (M := M_X3_whereIs) dX3_whereIs_196 (ly_Sx h_shape) rfl rfl rfl hi_152 x_151_e ?_
                  refine z_aload_n (M := M_X3_whereIs) dX3_whereIs_197 rfl ?_
                  refine z_getR (M := M_X3_whereIs) (ci := 9) (C := RX6) (T := TX6) (Nf := 5) (ty := tyX6) cl9 dX3_whereIs_198 (ly_S h_shape) 2 (by decide) t_69 rfl ?_
                  refine z_iload (M := M_X3_whereIs) dX3_whereIs_201 rfl ?_
                  obtain ⟨x_153, x_153_e, hi_154, H⟩ := rd_e H
                  refine z_iald (M := M_X3_whereIs) dX3_whereIs_203 (ly_Sy h_shape) rfl rfl rfl hi_154 x_153_e ?_
                  refine z_iload_n (M := M_X3_whereIs) dX3_whereIs_204 rfl ?_
                  refine z_iload_n (M := M_X3_whereIs) dX3_whereIs_205 rfl ?_
                  refine z_callSN (M := M_X3_whereIs) (M' := M_X11_isOnSegment) (as := [vi x_147, vi x_149, vi x_151, vi x_153, vi x_0, vi y_0]) (rest := []) rfl rfl dX3_whereIs_206 m_X11_isOnSegment n_2025 t_1320 (c_X11_isOnSegment hl  rfl) rfl rfl (Nat.le_of_ble_eq_true rfl) (Nat.le_of_ble_eq_true rfl) (Nat.le_of_ble_eq_true rfl) (Nat.le_of_ble_eq_true rfl) ?_
                  refine z_st (st' := [zv (fQ_isOnSegment x_147 x_149 x_151 x_153 x_0 y_0)]) rfl ?_
                  rcases if_e H with ⟨h_155, H⟩ | ⟨h_155, H⟩
                  · refine z_zeq_f (M := M_X3_whereIs) (tgt := 215) dX3_whereIs_209 (by decide) h_155 ?_
                    refine z_zconst (M := M_X3_whereIs) (b := true) dX3_whereIs_212 rfl ?_
                    refine z_zstore (M := M_X3_whereIs) (lv' := [some (vr shape_0), some (vi x_0), some (vi y_0), some (zv x_15), some (zv ends_71), some (zv true), some (zv odd_73), some (vi from_32), some (vi at_20), some (vi row_33), some (vi (from_32 + x_45)), some (vi i_74), some (vi x_84)]) dX3_whereIs_213 (Nat.le_of_ble_eq_true rfl) rfl rfl ?_
                    exact J_179 _ (Option.some.inj H).symm
                  · refine z_zeq_t (M := M_X3_whereIs) (tgt := 215) dX3_whereIs_209 (by decide) h_155 ?_
                    exact J_179 _ (Option.some.inj H).symm
              have H := he_181
              refine z_aload_n (M := M_X3_whereIs) dX3_whereIs_151 rfl ?_
              refine z_iload (M := M_X3_whereIs) dX3_whereIs_152 rfl ?_
              refine z_iload (M := M_X3_whereIs) dX3_whereIs_154 rfl ?_
              obtain ⟨x_133, hc_132, H⟩ := bd_e H
              refine z_callV (M := M_X3_whereIs) (M' := M_X6_areLike) (as := [vi i_74, vi x_84]) (rest := []) rfl rfl dX3_whereIs_156 m_X6_areLike t_1904 t_1188 t_1189 (c_X6_areLike hl h_shape hc_132) rfl rfl (ly_S h_shape) rfl (Nat.le_of_ble_eq_true rfl) (Nat.le_of_ble_eq_true rfl) (Nat.le_of_ble_eq_true rfl) (Nat.le_of_ble_eq_true rfl) ?_
              refine z_st (st' := [zv x_133]) rfl ?_
              rcases if_e H with ⟨h_134, H⟩ | ⟨h_134, H⟩
              · refine z_zne_t (M := M_X3_whereIs) (tgt := 263) dX3_whereIs_159 (by decide) h_134 ?_
                exact J_183 (Option.some.inj H).symm
              · refine z_zne_f (M := M_X3_whereIs) (tgt := 263) dX3_whereIs_159 (by decide) h_134 ?_
                refine z_iload (M := M_X3_whereIs) dX3_whereIs_162 rfl ?_
                refine z_iload (M := M_X3_whereIs) dX3_whereIs_164 rfl ?_
                rcases if_e H with ⟨h_136, H⟩ | ⟨h_136, H⟩
                · refine z_icmp_ne_f (M := M_X3_whereIs) (tgt := 176) dX3_whereIs_166 (by decide) rfl rfl h_136 ?_
                  refine z_zload_n (M := M_X3_whereIs) dX3_whereIs_169 rfl ?_
                  rcases if_e H with ⟨h_137, H⟩ | ⟨h_137, H⟩
                  · refine z_zne_t (M := M_X3_whereIs) (tgt := 176) dX3_whereIs_170 (by decide) h_137 ?_
                    exact J_184 (Option.some.inj H).symm
                  · refine z_zne_f (M := M_X3_whereIs) (tgt := 176) dX3_whereIs_170 (by decide) h_137 ?_
                    refine z_goto (M := M_X3_whereIs) (tgt := 263) dX3_whereIs_173 (by decide) ?_
                    exact J_183 (Option.some.inj H).symm
                · refine z_icmp_ne_t (M := M_X3_whereIs) (tgt := 176) dX3_whereIs_166 (by decide) rfl rfl h_136 ?_
                  exact J_184 (Option.some.inj H).symm
            refine z_iload (M := M_X3_whereIs) dX3_whereIs_131 rfl ?_
            refine z_iconst (M := M_X3_whereIs) dX3_whereIs_133 ?_
            refine z_iadd (M := M_X3_whereIs) dX3_whereIs_134 ?_
            refine z_iload (M := M_X3_whereIs) dX3_whereIs_135 rfl ?_
            by_cases h_185 : (w32 (i_74 + 1)) < (w32 (from_32 + x_45))
            · refine z_icmp_ge_f (M := M_X3_whereIs) (tgt := 147) dX3_whereIs_137 (by decide) rfl rfl h_185 ?_
              refine z_iload (M := M_X3_whereIs) dX3_whereIs_140 rfl ?_
              refine z_iconst (M := M_X3_whereIs) dX3_whereIs_142 ?_
              refine z_iadd (M := M_X3_whereIs) dX3_whereIs_143 ?_
              refine z_goto (M := M_X3_whereIs) (tgt := 149) dX3_whereIs_144 (by decide) ?_
              exact z_st (by rw [if_pos (c := (w32 (i_74 + 1)) < (w32 (from_32 + x_45))) h_185]) J_83
            · refine z_icmp_ge_t (M := M_X3_whereIs) (tgt := 147) dX3_whereIs_137 (by decide) rfl rfl (Int.not_lt.mp h_185) ?_
              refine z_iload (M := M_X3_whereIs) dX3_whereIs_147 rfl ?_
              exact z_st (by rw [if_neg (c := (w32 (i_74 + 1)) < (w32 (from_32 + x_45))) h_185]) J_83
          · refine z_icmp_ge_t (M := M_X3_whereIs) (tgt := 269) dX3_whereIs_128 (by decide) rfl rfl (Int.not_lt.mp h_82) ?_
            exact J_191 _ _ _ (K_81 _ (Option.some.inj H).symm).symm
        have H := he_46
        refine z_iload (M := M_X3_whereIs) dX3_whereIs_80 rfl ?_
        refine z_iload (M := M_X3_whereIs) dX3_whereIs_82 rfl ?_
        rcases if_e H with ⟨h_60, H⟩ | ⟨h_60, H⟩
        · refine z_icmp_ge_f (M := M_X3_whereIs) (tgt := 120) dX3_whereIs_84 (by decide) rfl rfl h_60 ?_
          refine z_aload_n (M := M_X3_whereIs) dX3_whereIs_87 rfl ?_
          refine z_iload (M := M_X3_whereIs) dX3_whereIs_88 rfl ?_
          refine z_iload_n (M := M_X3_whereIs) dX3_whereIs_90 rfl ?_
          refine z_iload_n (M := M_X3_whereIs) dX3_whereIs_91 rfl ?_
          obtain ⟨x_62, hc_61, H⟩ := bd_e H
          refine z_callV (M := M_X3_whereIs) (M' := M_X6_isAt) (as := [vi from_32, vi x_0, vi y_0]) (rest := []) rfl rfl dX3_whereIs_92 m_X6_isAt t_2021 t_2022 t_2023 (c_X6_isAt hl h_shape hc_61) rfl rfl (ly_S h_shape) rfl (Nat.le_of_ble_eq_true rfl) (Nat.le_of_ble_eq_true rfl) (Nat.le_of_ble_eq_true rfl) (Nat.le_of_ble_eq_true rfl) ?_
          refine z_st (st' := [zv x_62]) rfl ?_
          refine z_aload_n (M := M_X3_whereIs) dX3_whereIs_95 rfl ?_
          refine z_iload (M := M_X3_whereIs) dX3_whereIs_96 rfl ?_
          refine z_iconst (M := M_X3_whereIs) dX3_whereIs_98 ?_
          refine z_isub (M := M_X3_whereIs) dX3_whereIs_99 ?_
          refine z_iload_n (M := M_X3_whereIs) dX3_whereIs_100 rfl ?_
          refine z_iload_n (M := M_X3_whereIs) dX3_whereIs_101 rfl ?_
          obtain ⟨x_64, hc_63, H⟩ := bd_e H
          refine z_callV (M := M_X3_whereIs) (M' := M_X6_isAt) (as := [vi ((from_32 + x_45) - 1), vi x_0, vi y_0]) (rest := [zv x_62]) rfl rfl dX3_whereIs_102 m_X6_isAt t_2021 t_2022 t_2023 (c_X6_isAt hl h_shape hc_63) rfl rfl (ly_S h_shape) rfl (Nat.le_of_ble_eq_true rfl) (Nat.le_of_ble_eq_true rfl) (Nat.le_of_ble_eq_true rfl) (Nat.le_of_ble_eq_true rfl) ?_
          refine z_st (st' := [zv x_64, zv x_62]) rfl ?_
          rcases if_e H with ⟨h_65, H⟩ | ⟨h_65, H⟩
          · refine z_ceq_f (M := M_X3_whereIs) (tgt := 120) dX3_whereIs_105 (by decide)  h_65 ?_
            have J_66 : YY l E M_X3_whereIs 4 0 0 (pS (some (vi r)) σ) 118 [some (vr shape_0), some (vi x_0), some (vi y_0), some (zv x_15), some (zv ends_29), some (zv held_30), some (zv odd_31), some (vi from_32), some (vi at_20), some (vi row_33), some (vi (from_32 + x_45)), none, none] [zv (decide (¬ (ends_29 = true)))] σ 0 0 := by
              refine z_zstore (M := M_X3_whereIs) (lv' := [some (vr shape_0), some (vi x_0), some (vi y_0), some (zv x_15), some (zv (decide (¬ (ends_29 = true)))), some (zv held_30), some (zv odd_31), some (vi from_32), some (vi at_20), some (vi row_33), some (vi (from_32 + x_45)), none, none]) dX3_whereIs_118 (Nat.le_of_ble_eq_true rfl) rfl rfl ?_
              exact J_192 _ (Option.some.inj H).symm
            refine z_zload (M := M_X3_whereIs) dX3_whereIs_108 rfl ?_
            by_cases h_68 : ends_29 = true
            · refine z_zne_t (M := M_X3_whereIs) (tgt := 117) dX3_whereIs_110 (by decide) h_68 ?_
              refine z_iconst (M := M_X3_whereIs) dX3_whereIs_117 ?_
              exact z_st (by rw [zv_f (p := ¬ (ends_29 = true)) (not_not_intro h_68)]) J_66
            · refine z_zne_f (M := M_X3_whereIs) (tgt := 117) dX3_whereIs_110 (by decide) h_68 ?_
              refine z_iconst (M := M_X3_whereIs) dX3_whereIs_113 ?_
              refine z_goto (M := M_X3_whereIs) (tgt := 118) dX3_whereIs_114 (by decide) ?_
              exact z_st (by rw [zv_t (p := ¬ (ends_29 = true)) h_68]) J_66
          · refine z_ceq_t (M := M_X3_whereIs) (tgt := 120) dX3_whereIs_105 (by decide)  (Decidable.not_not.mp h_65) ?_
            exact J_192 _ (Option.some.inj H).symm
        · refine z_icmp_ge_t (M := M_X3_whereIs) (tgt := 120) dX3_whereIs_84 (by decide) rfl rfl (Int.not_lt.mp h_60) ?_
          exact J_192 _ (Option.some.inj H).symm
      · refine z_icmp_ge_t (M := M_X3_whereIs) (tgt := 279) dX3_whereIs_64 (by decide) rfl rfl (Int.not_lt.mp h_43) ?_
        exact J_202 _ _ _ _ _ (K_40 _ (Option.some.inj H).symm).symm
    · refine z_icmp_ge_t (M := M_X3_whereIs) (tgt := 290) dX3_whereIs_50 (by decide) rfl rfl (Int.not_lt.mp h_28) ?_
      exact J_222 _ _ _ _ _ (K_27 _ (Option.some.inj H).symm).symm
theorem c_X3_addPoints (hl : l.stackTraces = false) {σ : SG} {one_0 : Nat} {two_0 : Nat} {σ' : SG} (h_one : isS one_0) (h_two : isS two_0) (H : fT_addPoints σ one_0 two_0 = some σ') : en_S l E M_X3_addPoints 5 0 0 [vr 222, vr one_0, vr two_0] σ (pS (none) σ') := by
  unfold fT_addPoints at H
  refine z_mk (lv := [some (vr 222), some (vr one_0), some (vr two_0), none]) m_X3_addPoints rfl hl (Nat.le_of_ble_eq_true rfl) rfl ?_
  refine z_iconst (M := M_X3_addPoints) dX3_addPoints_0 ?_
  refine z_istore_n (M := M_X3_addPoints) (lv' := [some (vr 222), some (vr one_0), some (vr two_0), some (vi 0)]) dX3_addPoints_1 (Nat.le_of_ble_eq_true rfl) rfl rfl ?_
  obtain ⟨rl_6, hw_3, hk_4⟩ := bd_e H
  have J_70 : ∀ i_33 σ_34, rl_6 = (i_33, σ_34) → YY l E M_X3_addPoints 5 0 0 (pS (none) σ') 45 [some (vr 222), some (vr one_0), some (vr two_0), some (vi i_33)] [] σ_34 0 0 := by
    intro i_33 σ_34 e
    have H := hk_4
    rw [e] at H
    refine z_iconst (M := M_X3_addPoints) dX3_addPoints_45 ?_
    refine z_istore_n (M := M_X3_addPoints) (lv' := [some (vr 222), some (vr one_0), some (vr two_0), some (vi 0)]) dX3_addPoints_46 (Nat.le_of_ble_eq_true rfl) rfl rfl ?_
    obtain ⟨rl_40, hw_37, hk_38⟩ := bd_e H
    have J_69 : ∀ i_67 σ_68, rl_40 = (i_67, σ_68) → YY l E M_X3_addPoints 5 0 0 (pS (none) σ') 90 [some (vr 222), some (vr one_0), some (vr two_0), some (vi i_67)] [] σ_68 0 0 := by
      intro i_67 σ_68 e
      have H := hk_38
      rw [e] at H
      cases H
      exact z_vret (M := M_X3_addPoints) dX3_addPoints_90 rfl (Nat.le_of_ble_eq_true rfl) (Nat.le_of_ble_eq_true rfl) ⟨rfl, rfl⟩
    refine whl_go hw_37 (fun (i_35, σ_36) => YY l E M_X3_addPoints 5 0 0 (pS (none) σ') 47 [some (vr 222), some (vr one_0), some (vr two_0), some (vi i_35)] [] σ_36 0 0) ?_
    rintro ⟨i_35, σ_36⟩ o_41 H K_42 K_43
    refine z_iload_n (M := M_X3_addPoints) dX3_addPoints_47 rfl ?_
    refine z_aload_n (M := M_X3_addPoints) dX3_addPoints_48 rfl ?_
    refine z_getI (M := M_X3_addPoints) (ci := 9) (C := RX6) (T := TX6) (Nf := 5) (ty := tyX6) cl9 dX3_addPoints_49 (ly_S h_two) 4 (by decide) t_84 rfl rfl ?_
    rcases if_e H with ⟨h_52, H⟩ | ⟨h_52, H⟩
    · refine z_icmp_ge_f (M := M_X3_addPoints) (tgt := 90) dX3_addPoints_52 (by decide) rfl rfl h_52 ?_
      refine z_aload_n (M := M_X3_addPoints) dX3_addPoints_55 rfl ?_
      obtain ⟨x_54, hc_53, H⟩ := bd_e H
      refine z_callS (M := M_X3_addPoints) (M' := M_X3_isOfPoints) (as := [vr two_0]) (rest := []) rfl rfl dX3_addPoints_56 m_X3_isOfPoints t_1893 t_1894 (c_X3_isOfPoints hl h_two hc_53) rfl rfl (Nat.le_of_ble_eq_true rfl) (Nat.le_of_ble_eq_true rfl) (Nat.le_of_ble_eq_true rfl) (Nat.le_of_ble_eq_true rfl) ?_
      refine z_st (st' := [zv x_54]) rfl ?_
      rcases if_e H with ⟨h_55, H⟩ | ⟨h_55, H⟩
      · refine z_zeq_f (M := M_X3_addPoints) (tgt := 90) dX3_addPoints_59 (by decide) h_55 ?_
        refine z_aload_n (M := M_X3_addPoints) dX3_addPoints_62 rfl ?_
        refine z_aload_n (M := M_X3_addPoints) dX3_addPoints_63 rfl ?_
        refine z_aload_n (M := M_X3_addPoints) dX3_addPoints_64 rfl ?_
        refine z_getR (M := M_X3_addPoints) (ci := 9) (C := RX6) (T := TX6) (Nf := 5) (ty := tyX6) cl9 dX3_addPoints_65 (ly_S h_two) 1 (by decide) t_62 rfl ?_
        refine z_iload_n (M := M_X3_addPoints) dX3_addPoints_68 rfl ?_
        obtain ⟨x_56, x_56_e, hi_57, H⟩ := rd_e H
        refine z_iald (M := M_X3_addPoints) dX3_addPoints_69 (ly_Sx h_two) rfl rfl rfl hi_57 x_56_e ?_
        refine z_aload_n (M := M_X3_addPoints) dX3_addPoints_70 rfl ?_
        refine z_getR (M := M_X3_addPoints) (ci := 9) (C := RX6) (T := TX6) (Nf := 5) (ty := tyX6) cl9 dX3_addPoints_71 (ly_S h_two) 2 (by decide) t_69 rfl ?_
        refine z_iload_n (M := M_X3_addPoints) dX3_addPoints_74 rfl ?_
        obtain ⟨x_58, x_58_e, hi_59, H⟩ := rd_e H
        refine z_iald (M := M_X3_addPoints) dX3_addPoints_75 (ly_Sy h_two) rfl rfl rfl hi_59 x_58_e ?_
        obtain ⟨x_61, hc_60, H⟩ := bd_e H
        refine z_callS (M := M_X3_addPoints) (M' := M_X3_whereIs) (as := [vr one_0, vi x_56, vi x_58]) (rest := [vr 222]) rfl rfl dX3_addPoints_76 m_X3_whereIs t_2015 t_2016 (c_X3_whereIs hl h_one hc_60) rfl rfl (Nat.le_of_ble_eq_true rfl) (Nat.le_of_ble_eq_true rfl) (Nat.le_of_ble_eq_true rfl) (Nat.le_of_ble_eq_true rfl) ?_
        refine z_st (st' := [vi x_61, vr 222]) rfl ?_
        refine z_iconst (M := M_X3_addPoints) dX3_addPoints_79 ?_
        refine z_iconst (M := M_X3_addPoints) dX3_addPoints_80 ?_
        obtain ⟨σ_63, hc_62, H⟩ := bd_e H
        refine z_callV (M := M_X3_addPoints) (M' := M_X3_raise) (as := [vi x_61, vi 0, vi 0]) (rest := []) rfl rfl dX3_addPoints_81 m_X3_raise t_1998 t_2000 s_118 (c_X3_raise hl  hc_62) rfl rfl ly_222 rfl (Nat.le_of_ble_eq_true rfl) (Nat.le_of_ble_eq_true rfl) (Nat.le_of_ble_eq_true rfl) (Nat.le_of_ble_eq_true rfl) ?_
        refine z_st (st' := []) rfl ?_
        refine z_iinc (M := M_X3_addPoints) (lv' := [some (vr 222), some (vr one_0), some (vr two_0), some (vi (i_35 + 1))]) dX3_addPoints_84 rfl (Nat.le_of_ble_eq_true rfl) rfl rfl ?_
        refine z_goto (M := M_X3_addPoints) (tgt := 47) dX3_addPoints_87 (by decide) ?_
        exact K_42 _ (Option.some.inj H).symm
      · refine z_zeq_t (M := M_X3_addPoints) (tgt := 90) dX3_addPoints_59 (by decide) h_55 ?_
        exact J_69 _ _ (K_43 _ (Option.some.inj H).symm).symm
    · refine z_icmp_ge_t (M := M_X3_addPoints) (tgt := 90) dX3_addPoints_52 (by decide) rfl rfl (Int.not_lt.mp h_52) ?_
      exact J_69 _ _ (K_43 _ (Option.some.inj H).symm).symm
  refine whl_go hw_3 (fun (i_1, σ_2) => YY l E M_X3_addPoints 5 0 0 (pS (none) σ') 2 [some (vr 222), some (vr one_0), some (vr two_0), some (vi i_1)] [] σ_2 0 0) ?_
  rintro ⟨i_1, σ_2⟩ o_7 H K_8 K_9
  refine z_iload_n (M := M_X3_addPoints) dX3_addPoints_2 rfl ?_
  refine z_aload_n (M := M_X3_addPoints) dX3_addPoints_3 rfl ?_
  refine z_getI (M := M_X3_addPoints) (ci := 9) (C := RX6) (T := TX6) (Nf := 5) (ty := tyX6) cl9 dX3_addPoints_4 (ly_S h_one) 4 (by decide) t_84 rfl rfl ?_
  rcases if_e H with ⟨h_18, H⟩ | ⟨h_18, H⟩
  · refine z_icmp_ge_f (M := M_X3_addPoints) (tgt := 45) dX3_addPoints_7 (by decide) rfl rfl h_18 ?_
    refine z_aload_n (M := M_X3_addPoints) dX3_addPoints_10 rfl ?_
    obtain ⟨x_20, hc_19, H⟩ := bd_e H
    refine z_callS (M := M_X3_addPoints) (M' := M_X3_isOfPoints) (as := [vr one_0]) (rest := []) rfl rfl dX3_addPoints_11 m_X3_isOfPoints t_1893 t_1894 (c_X3_isOfPoints hl h_one hc_19) rfl rfl (Nat.le_of_ble_eq_true rfl) (Nat.le_of_ble_eq_true rfl) (Nat.le_of_ble_eq_true rfl) (Nat.le_of_ble_eq_true rfl) ?_
    refine z_st (st' := [zv x_20]) rfl ?_
    rcases if_e H with ⟨h_21, H⟩ | ⟨h_21, H⟩
    · refine z_zeq_f (M := M_X3_addPoints) (tgt := 45) dX3_addPoints_14 (by decide) h_21 ?_
      refine z_aload_n (M := M_X3_addPoints) dX3_addPoints_17 rfl ?_
      refine z_iconst (M := M_X3_addPoints) dX3_addPoints_18 ?_
      refine z_aload_n (M := M_X3_addPoints) dX3_addPoints_19 rfl ?_
      refine z_aload_n (M := M_X3_addPoints) dX3_addPoints_20 rfl ?_
      refine z_getR (M := M_X3_addPoints) (ci := 9) (C := RX6) (T := TX6) (Nf := 5) (ty := tyX6) cl9 dX3_addPoints_21 (ly_S h_one) 1 (by decide) t_62 rfl ?_
      refine z_iload_n (M := M_X3_addPoints) dX3_addPoints_24 rfl ?_
      obtain ⟨x_22, x_22_e, hi_23, H⟩ := rd_e H
      refine z_iald (M := M_X3_addPoints) dX3_addPoints_25 (ly_Sx h_one) rfl rfl rfl hi_23 x_22_e ?_
      refine z_aload_n (M := M_X3_addPoints) dX3_addPoints_26 rfl ?_
      refine z_getR (M := M_X3_addPoints) (ci := 9) (C := RX6) (T := TX6) (Nf := 5) (ty := tyX6) cl9 dX3_addPoints_27 (ly_S h_one) 2 (by decide) t_69 rfl ?_
      refine z_iload_n (M := M_X3_addPoints) dX3_addPoints_30 rfl ?_
      obtain ⟨x_24, x_24_e, hi_25, H⟩ := rd_e H
      refine z_iald (M := M_X3_addPoints) dX3_addPoints_31 (ly_Sy h_one) rfl rfl rfl hi_25 x_24_e ?_
      obtain ⟨x_27, hc_26, H⟩ := bd_e H
      refine z_callS (M := M_X3_addPoints) (M' := M_X3_whereIs) (as := [vr two_0, vi x_22, vi x_24]) (rest := [vi 0, vr 222]) rfl rfl dX3_addPoints_32 m_X3_whereIs t_2015 t_2016 (c_X3_whereIs hl h_two hc_26) rfl rfl (Nat.le_of_ble_eq_true rfl) (Nat.le_of_ble_eq_true rfl) (Nat.le_of_ble_eq_true rfl) (Nat.le_of_ble_eq_true rfl) ?_
      refine z_st (st' := [vi x_27, vi 0, vr 222]) rfl ?_
      refine z_iconst (M := M_X3_addPoints) dX3_addPoints_35 ?_
      obtain ⟨σ_29, hc_28, H⟩ := bd_e H
      refine z_callV (M := M_X3_addPoints) (M' := M_X3_raise) (as := [vi 0, vi x_27, vi 0]) (rest := []) rfl rfl dX3_addPoints_36 m_X3_raise t_1998 t_2000 s_118 (c_X3_raise hl  hc_28) rfl rfl ly_222 rfl (Nat.le_of_ble_eq_true rfl) (Nat.le_of_ble_eq_true rfl) (Nat.le_of_ble_eq_true rfl) (Nat.le_of_ble_eq_true rfl) ?_
      refine z_st (st' := []) rfl ?_
      refine z_iinc (M := M_X3_addPoints) (lv' := [some (vr 222), some (vr one_0), some (vr two_0), some (vi (i_1 + 1))]) dX3_addPoints_39 rfl (Nat.le_of_ble_eq_true rfl) rfl rfl ?_
      refine z_goto (M := M_X3_addPoints) (tgt := 2) dX3_addPoints_42 (by decide) ?_
      exact K_8 _ (Option.some.inj H).symm
    · refine z_zeq_t (M := M_X3_addPoints) (tgt := 45) dX3_addPoints_14 (by decide) h_21 ?_
      exact J_70 _ _ (K_9 _ (Option.some.inj H).symm).symm
  · refine z_icmp_ge_t (M := M_X3_addPoints) (tgt := 45) dX3_addPoints_7 (by decide) rfl rfl (Int.not_lt.mp h_18) ?_
    exact J_70 _ _ (K_9 _ (Option.some.inj H).symm).symm
theorem c_X3_collect (hl : l.stackTraces = false) {σ : SG} {shape_0 : Nat} {owner_0 : Int} {r : Bool} {σ' : SG} (h_shape : isS shape_0) (H : fT_collect σ shape_0 owner_0 = some (r, σ')) : en_S l E M_X3_collect 3 0 0 [vr 222, vr shape_0, vi owner_0] σ (pS (some (zv r)) σ') := by
  unfold fT_collect at H
  refine z_mk (lv := [some (vr 222), some (vr shape_0), some (vi owner_0), none, none, none, none, none, none]) m_X3_collect rfl hl (Nat.le_of_ble_eq_true rfl) rfl ?_
  refine z_aload_n (M := M_X3_collect) dX3_collect_0 rfl ?_
  obtain ⟨x_2, hc_1, H⟩ := bd_e H
  refine z_callS (M := M_X3_collect) (M' := M_X3_isOfPoints) (as := [vr shape_0]) (rest := []) rfl rfl dX3_collect_1 m_X3_isOfPoints t_1893 t_1894 (c_X3_isOfPoints hl h_shape hc_1) rfl rfl (Nat.le_of_ble_eq_true rfl) (Nat.le_of_ble_eq_true rfl) (Nat.le_of_ble_eq_true rfl) (Nat.le_of_ble_eq_true rfl) ?_
  refine z_st (st' := [zv x_2]) rfl ?_
  rcases if_e H with ⟨h_3, H⟩ | ⟨h_3, H⟩
  · refine z_zeq_f (M := M_X3_collect) (tgt := 9) dX3_collect_4 (by decide) h_3 ?_
    refine z_zconst (M := M_X3_collect) (b := true) dX3_collect_7 rfl ?_
    cases H
    exact z_zret (M := M_X3_collect) dX3_collect_8 rfl (Nat.le_of_ble_eq_true rfl) (Nat.le_of_ble_eq_true rfl) ⟨rfl, rfl⟩
  · refine z_zeq_t (M := M_X3_collect) (tgt := 9) dX3_collect_4 (by decide) h_3 ?_
    refine z_iconst (M := M_X3_collect) dX3_collect_9 ?_
    refine z_istore_n (M := M_X3_collect) (lv' := [some (vr 222), some (vr shape_0), some (vi owner_0), some (vi 0), none, none, none, none, none]) dX3_collect_10 (Nat.le_of_ble_eq_true rfl) rfl rfl ?_
    refine z_iconst (M := M_X3_collect) dX3_collect_11 ?_
    refine z_istore (M := M_X3_collect) (lv' := [some (vr 222), some (vr shape_0), some (vi owner_0), some (vi 0), some (vi 0), none, none, none, none]) dX3_collect_12 (Nat.le_of_ble_eq_true rfl) rfl rfl ?_
    obtain ⟨rl_10, hw_7, hk_8, hk_9⟩ := bx_e H
    have J_96 : ∀ from_93 at_94 σ_95, rl_10 = (.inl (from_93, at_94, σ_95)) → YY l E M_X3_collect 3 0 0 (pS (some (zv r)) σ') 151 [some (vr 222), some (vr shape_0), some (vi owner_0), some (vi from_93), some (vi at_94), none, none, none, none] [] σ_95 0 0 := by
      intro from_93 at_94 σ_95 e
      have H := hk_8 _ e
      refine z_zconst (M := M_X3_collect) (b := true) dX3_collect_151 rfl ?_
      cases H
      exact z_zret (M := M_X3_collect) dX3_collect_152 rfl (Nat.le_of_ble_eq_true rfl) (Nat.le_of_ble_eq_true rfl) ⟨rfl, rfl⟩
    refine whl_go hw_7 (fun (from_4, at_5, σ_6) => YY l E M_X3_collect 3 0 0 (pS (some (zv r)) σ') 14 [some (vr 222), some (vr shape_0), some (vi owner_0), some (vi from_4), some (vi at_5), none, none, none, none] [] σ_6 0 0) ?_
    rintro ⟨from_4, at_5, σ_6⟩ o_11 H K_12 K_13
    refine z_iload (M := M_X3_collect) dX3_collect_14 rfl ?_
    refine z_iconst (M := M_X3_collect) dX3_collect_16 ?_
    refine z_iadd (M := M_X3_collect) dX3_collect_17 ?_
    refine z_aload_n (M := M_X3_collect) dX3_collect_18 rfl ?_
    refine z_getI (M := M_X3_collect) (ci := 9) (C := RX6) (T := TX6) (Nf := 5) (ty := tyX6) cl9 dX3_collect_19 (ly_S h_shape) 3 (by decide) t_76 rfl rfl ?_
    rcases if_e H with ⟨h_14, H⟩ | ⟨h_14, H⟩
    · refine z_icmp_ge_f (M := M_X3_collect) (tgt := 151) dX3_collect_22 (by decide) rfl rfl h_14 ?_
      refine z_iconst (M := M_X3_collect) dX3_collect_25 ?_
      refine z_istore (M := M_X3_collect) (lv' := [some (vr 222), some (vr shape_0), some (vi owner_0), some (vi from_4), some (vi at_5), some (vi 0), none, none, none]) dX3_collect_26 (Nat.le_of_ble_eq_true rfl) rfl rfl ?_
      obtain ⟨rl_21, hw_18, hk_19, hk_20⟩ := bx_e H
      have J_91 : ∀ from_85 row_86 σ_87, rl_21 = (.inl (from_85, row_86, σ_87)) → YY l E M_X3_collect 3 0 0 (pS (some (zv r)) σ') 140 [some (vr 222), some (vr shape_0), some (vi owner_0), some (vi from_85), some (vi at_5), some (vi row_86), none, none, none] [] σ_87 0 0 := by
        intro from_85 row_86 σ_87 e
        have H := hk_19 _ e
        refine z_aload_n (M := M_X3_collect) dX3_collect_140 rfl ?_
        refine z_iload (M := M_X3_collect) dX3_collect_141 rfl ?_
        obtain ⟨x_89, hc_88, H⟩ := bd_e H
        refine z_callV (M := M_X3_collect) (M' := M_X6_behind) (as := [vi at_5]) (rest := []) rfl rfl dX3_collect_143 m_X6_behind t_1898 t_1107 t_1108 (c_X6_behind hl h_shape hc_88) rfl rfl (ly_S h_shape) rfl (Nat.le_of_ble_eq_true rfl) (Nat.le_of_ble_eq_true rfl) (Nat.le_of_ble_eq_true rfl) (Nat.le_of_ble_eq_true rfl) ?_
        refine z_st (st' := [vi x_89]) rfl ?_
        refine z_istore (M := M_X3_collect) (lv' := [some (vr 222), some (vr shape_0), some (vi owner_0), some (vi from_85), some (vi x_89), some (vi row_86), none, none, none]) dX3_collect_146 (Nat.le_of_ble_eq_true rfl) rfl rfl ?_
        refine z_goto (M := M_X3_collect) (tgt := 14) dX3_collect_148 (by decide) ?_
        refine z_le (lv' := [some (vr 222), some (vr shape_0), some (vi owner_0), some (vi from_85), some (vi x_89), none, none, none, none]) ⟨Or.inr rfl, Or.inr rfl, Or.inr rfl, Or.inr rfl, Or.inr rfl, Or.inl rfl, Or.inl rfl, Or.inl rfl, Or.inl rfl, trivial⟩ ?_
        exact K_12 _ (Option.some.inj H).symm
      refine whl_go hw_18 (fun (from_15, row_16, σ_17) => YY l E M_X3_collect 3 0 0 (pS (some (zv r)) σ') 28 [some (vr 222), some (vr shape_0), some (vi owner_0), some (vi from_15), some (vi at_5), some (vi row_16), none, none, none] [] σ_17 0 0) ?_
      rintro ⟨from_15, row_16, σ_17⟩ o_22 H K_23 K_24
      refine z_iload (M := M_X3_collect) dX3_collect_28 rfl ?_
      refine z_aload_n (M := M_X3_collect) dX3_collect_30 rfl ?_
      refine z_iload (M := M_X3_collect) dX3_collect_31 rfl ?_
      obtain ⟨x_26, hc_25, H⟩ := bd_e H
      refine z_callV (M := M_X3_collect) (M' := M_X6_rows) (as := [vi at_5]) (rest := [vi row_16]) rfl rfl dX3_collect_33 m_X6_rows t_1897 t_1075 t_1076 (c_X6_rows hl h_shape hc_25) rfl rfl (ly_S h_shape) rfl (Nat.le_of_ble_eq_true rfl) (Nat.le_of_ble_eq_true rfl) (Nat.le_of_ble_eq_true rfl) (Nat.le_of_ble_eq_true rfl) ?_
      refine z_st (st' := [vi x_26, vi row_16]) rfl ?_
      rcases if_e H with ⟨h_27, H⟩ | ⟨h_27, H⟩
      · refine z_icmp_ge_f (M := M_X3_collect) (tgt := 140) dX3_collect_36 (by decide) rfl rfl h_27 ?_
        refine z_iload_n (M := M_X3_collect) dX3_collect_39 rfl ?_
        refine z_aload_n (M := M_X3_collect) dX3_collect_40 rfl ?_
        refine z_iload (M := M_X3_collect) dX3_collect_41 rfl ?_
        refine z_iload (M := M_X3_collect) dX3_collect_43 rfl ?_
        obtain ⟨x_29, hc_28, H⟩ := bd_e H
        refine z_callV (M := M_X3_collect) (M' := M_X6_rowLength) (as := [vi at_5, vi row_16]) (rest := [vi from_15]) rfl rfl dX3_collect_45 m_X6_rowLength t_1903 t_1080 t_1081 (c_X6_rowLength hl h_shape hc_28) rfl rfl (ly_S h_shape) rfl (Nat.le_of_ble_eq_true rfl) (Nat.le_of_ble_eq_true rfl) (Nat.le_of_ble_eq_true rfl) (Nat.le_of_ble_eq_true rfl) ?_
        refine z_st (st' := [vi x_29, vi from_15]) rfl ?_
        refine z_iadd (M := M_X3_collect) dX3_collect_48 ?_
        refine z_istore (M := M_X3_collect) (lv' := [some (vr 222), some (vr shape_0), some (vi owner_0), some (vi from_15), some (vi at_5), some (vi row_16), some (vi (from_15 + x_29)), none, none]) dX3_collect_49 (Nat.le_of_ble_eq_true rfl) rfl rfl ?_
        refine z_iload_n (M := M_X3_collect) dX3_collect_51 rfl ?_
        refine z_istore (M := M_X3_collect) (lv' := [some (vr 222), some (vr shape_0), some (vi owner_0), some (vi from_15), some (vi at_5), some (vi row_16), some (vi (from_15 + x_29)), some (vi from_15), none]) dX3_collect_52 (Nat.le_of_ble_eq_true rfl) rfl rfl ?_
        obtain ⟨rl_35, hw_32, hk_33, hk_34⟩ := bx_e H
        have J_83 : ∀ i_80 σ_81, rl_35 = (.inl (i_80, σ_81)) → YY l E M_X3_collect 3 0 0 (pS (some (zv r)) σ') 131 [some (vr 222), some (vr shape_0), some (vi owner_0), some (vi from_15), some (vi at_5), some (vi row_16), some (vi (from_15 + x_29)), some (vi i_80), none] [] σ_81 0 0 := by
          intro i_80 σ_81 e
          have H := hk_33 _ e
          refine z_iload (M := M_X3_collect) dX3_collect_131 rfl ?_
          refine z_istore_n (M := M_X3_collect) (lv' := [some (vr 222), some (vr shape_0), some (vi owner_0), some (vi (from_15 + x_29)), some (vi at_5), some (vi row_16), some (vi (from_15 + x_29)), some (vi i_80), none]) dX3_collect_133 (Nat.le_of_ble_eq_true rfl) rfl rfl ?_
          refine z_iinc (M := M_X3_collect) (lv' := [some (vr 222), some (vr shape_0), some (vi owner_0), some (vi (from_15 + x_29)), some (vi at_5), some (vi (row_16 + 1)), some (vi (from_15 + x_29)), some (vi i_80), none]) dX3_collect_134 rfl (Nat.le_of_ble_eq_true rfl) rfl rfl ?_
          refine z_goto (M := M_X3_collect) (tgt := 28) dX3_collect_137 (by decide) ?_
          refine z_le (lv' := [some (vr 222), some (vr shape_0), some (vi owner_0), some (vi (from_15 + x_29)), some (vi at_5), some (vi (row_16 + 1)), none, none, none]) ⟨Or.inr rfl, Or.inr rfl, Or.inr rfl, Or.inr rfl, Or.inr rfl, Or.inr rfl, Or.inl rfl, Or.inl rfl, Or.inl rfl, trivial⟩ ?_
          exact K_23 _ (Option.some.inj H).symm
        refine whl_go hw_32 (fun (i_30, σ_31) => YY l E M_X3_collect 3 0 0 (pS (some (zv r)) σ') 54 [some (vr 222), some (vr shape_0), some (vi owner_0), some (vi from_15), some (vi at_5), some (vi row_16), some (vi (from_15 + x_29)), some (vi i_30), none] [] σ_31 0 0) ?_
        rintro ⟨i_30, σ_31⟩ o_36 H K_37 K_38
        refine z_iload (M := M_X3_collect) dX3_collect_54 rfl ?_
        refine z_iload (M := M_X3_collect) dX3_collect_56 rfl ?_
        rcases if_e H with ⟨h_39, H⟩ | ⟨h_39, H⟩
        · refine z_icmp_ge_f (M := M_X3_collect) (tgt := 131) dX3_collect_58 (by decide) rfl rfl h_39 ?_
          have J_40 : YY l E M_X3_collect 3 0 0 (pS (some (zv r)) σ') 78 [some (vr 222), some (vr shape_0), some (vi owner_0), some (vi from_15), some (vi at_5), some (vi row_16), some (vi (from_15 + x_29)), some (vi i_30), none] [vi (if (w32 (i_30 + 1)) < (w32 (from_15 + x_29)) then (i_30 + 1) else from_15)] σ_31 0 0 := by
            obtain ⟨x_41, x_41_e, H⟩ := lt_e H
            refine z_st (congrArg (fun z => vi z :: []) x_41_e) ?_
            refine z_istore (M := M_X3_collect) (lv' := [some (vr 222), some (vr shape_0), some (vi owner_0), some (vi from_15), some (vi at_5), some (vi row_16), some (vi (from_15 + x_29)), some (vi i_30), some (vi x_41)]) dX3_collect_78 (Nat.le_of_ble_eq_true rfl) rfl rfl ?_
            refine z_aload_n (M := M_X3_collect) dX3_collect_80 rfl ?_
            refine z_iload (M := M_X3_collect) dX3_collect_81 rfl ?_
            refine z_iload (M := M_X3_collect) dX3_collect_83 rfl ?_
            obtain ⟨x_60, hc_59, H⟩ := bd_e H
            refine z_callV (M := M_X3_collect) (M' := M_X6_areLike) (as := [vi i_30, vi x_41]) (rest := []) rfl rfl dX3_collect_85 m_X6_areLike t_1904 t_1188 t_1189 (c_X6_areLike hl h_shape hc_59) rfl rfl (ly_S h_shape) rfl (Nat.le_of_ble_eq_true rfl) (Nat.le_of_ble_eq_true rfl) (Nat.le_of_ble_eq_true rfl) (Nat.le_of_ble_eq_true rfl) ?_
            refine z_st (st' := [zv x_60]) rfl ?_
            rcases if_e H with ⟨h_61, H⟩ | ⟨h_61, H⟩
            · refine z_zne_t (M := M_X3_collect) (tgt := 125) dX3_collect_88 (by decide) h_61 ?_
              refine z_iinc (M := M_X3_collect) (lv' := [some (vr 222), some (vr shape_0), some (vi owner_0), some (vi from_15), some (vi at_5), some (vi row_16), some (vi (from_15 + x_29)), some (vi (i_30 + 1)), some (vi x_41)]) dX3_collect_125 rfl (Nat.le_of_ble_eq_true rfl) rfl rfl ?_
              refine z_goto (M := M_X3_collect) (tgt := 54) dX3_collect_128 (by decide) ?_
              refine z_le (lv' := [some (vr 222), some (vr shape_0), some (vi owner_0), some (vi from_15), some (vi at_5), some (vi row_16), some (vi (from_15 + x_29)), some (vi (i_30 + 1)), none]) ⟨Or.inr rfl, Or.inr rfl, Or.inr rfl, Or.inr rfl, Or.inr rfl, Or.inr rfl, Or.inr rfl, Or.inr rfl, Or.inl rfl, trivial⟩ ?_
              exact K_37 _ (Option.some.inj H).symm
            · refine z_zne_f (M := M_X3_collect) (tgt := 125) dX3_collect_88 (by decide) h_61 ?_
              refine z_iload (M := M_X3_collect) dX3_collect_91 rfl ?_
              refine z_iload_n (M := M_X3_collect) dX3_collect_93 rfl ?_
              rcases if_e H with ⟨h_63, H⟩ | ⟨h_63, H⟩
              · refine z_icmp_ne_f (M := M_X3_collect) (tgt := 107) dX3_collect_94 (by decide) rfl rfl h_63 ?_
                refine z_aload_n (M := M_X3_collect) dX3_collect_97 rfl ?_
                obtain ⟨x_65, hc_64, H⟩ := bd_e H
                refine z_callS (M := M_X3_collect) (M' := M_X3_isArea) (as := [vr shape_0]) (rest := []) rfl rfl dX3_collect_98 m_X3_isArea t_1905 t_1906 (c_X3_isArea hl h_shape hc_64) rfl rfl (Nat.le_of_ble_eq_true rfl) (Nat.le_of_ble_eq_true rfl) (Nat.le_of_ble_eq_true rfl) (Nat.le_of_ble_eq_true rfl) ?_
                refine z_st (st' := [zv x_65]) rfl ?_
                rcases if_e H with ⟨h_66, H⟩ | ⟨h_66, H⟩
                · refine z_zne_t (M := M_X3_collect) (tgt := 107) dX3_collect_101 (by decide) h_66 ?_
                  refine z_aload_n (M := M_X3_collect) dX3_collect_107 rfl ?_
                  refine z_getR (M := M_X3_collect) (ci := 6) (C := RX3) (T := TX3) (Nf := 12) (ty := tyX3) cl6 dX3_collect_108 ly_222 0 (by decide) t_442 rfl ?_
                  refine z_aload_n (M := M_X3_collect) dX3_collect_111 rfl ?_
                  refine z_iload (M := M_X3_collect) dX3_collect_112 rfl ?_
                  refine z_iload (M := M_X3_collect) dX3_collect_114 rfl ?_
                  refine z_iload_n (M := M_X3_collect) dX3_collect_116 rfl ?_
                  obtain ⟨⟨x_69, σ_68⟩, hc_67, H⟩ := bd_e H
                  refine z_callV (M := M_X3_collect) (M' := M_X5_add) (as := [vr shape_0, vi i_30, vi x_41, vi owner_0]) (rest := []) rfl rfl dX3_collect_117 m_X5_add t_1908 t_1218 t_1219 (c_X5_add hl (by decide) h_shape hc_67) rfl rfl (ly_G (by decide)) rfl (Nat.le_of_ble_eq_true rfl) (Nat.le_of_ble_eq_true rfl) (Nat.le_of_ble_eq_true rfl) (Nat.le_of_ble_eq_true rfl) ?_
                  refine z_st (st' := [zv x_69]) rfl ?_
                  rcases if_e H with ⟨h_70, H⟩ | ⟨h_70, H⟩
                  · refine z_zne_t (M := M_X3_collect) (tgt := 125) dX3_collect_120 (by decide) h_70 ?_
                    refine z_iinc (M := M_X3_collect) (lv' := [some (vr 222), some (vr shape_0), some (vi owner_0), some (vi from_15), some (vi at_5), some (vi row_16), some (vi (from_15 + x_29)), some (vi (i_30 + 1)), some (vi x_41)]) dX3_collect_125 rfl (Nat.le_of_ble_eq_true rfl) rfl rfl ?_
                    refine z_goto (M := M_X3_collect) (tgt := 54) dX3_collect_128 (by decide) ?_
                    refine z_le (lv' := [some (vr 222), some (vr shape_0), some (vi owner_0), some (vi from_15), some (vi at_5), some (vi row_16), some (vi (from_15 + x_29)), some (vi (i_30 + 1)), none]) ⟨Or.inr rfl, Or.inr rfl, Or.inr rfl, Or.inr rfl, Or.inr rfl, Or.inr rfl, Or.inr rfl, Or.inr rfl, Or.inl rfl, trivial⟩ ?_
                    exact K_37 _ (Option.some.inj H).symm
                  · refine z_zne_f (M := M_X3_collect) (tgt := 125) dX3_collect_120 (by decide) h_70 ?_
                    refine z_zconst (M := M_X3_collect) (b := false) dX3_collect_123 rfl ?_
                    have H := congrArg some (hk_34 _ ((K_38 _ (Option.some.inj H).symm).symm))
                    have H := congrArg some (hk_20 _ ((K_24 _ (Option.some.inj H).symm).symm))
                    have H := congrArg some (hk_9 _ ((K_13 _ (Option.some.inj H).symm).symm))
                    cases H
                    exact z_zret (M := M_X3_collect) dX3_collect_124 rfl (Nat.le_of_ble_eq_true rfl) (Nat.le_of_ble_eq_true rfl) ⟨rfl, rfl⟩
                · refine z_zne_f (M := M_X3_collect) (tgt := 107) dX3_collect_101 (by decide) h_66 ?_
                  refine z_goto (M := M_X3_collect) (tgt := 125) dX3_collect_104 (by decide) ?_
                  refine z_iinc (M := M_X3_collect) (lv' := [some (vr 222), some (vr shape_0), some (vi owner_0), some (vi from_15), some (vi at_5), some (vi row_16), some (vi (from_15 + x_29)), some (vi (i_30 + 1)), some (vi x_41)]) dX3_collect_125 rfl (Nat.le_of_ble_eq_true rfl) rfl rfl ?_
                  refine z_goto (M := M_X3_collect) (tgt := 54) dX3_collect_128 (by decide) ?_
                  refine z_le (lv' := [some (vr 222), some (vr shape_0), some (vi owner_0), some (vi from_15), some (vi at_5), some (vi row_16), some (vi (from_15 + x_29)), some (vi (i_30 + 1)), none]) ⟨Or.inr rfl, Or.inr rfl, Or.inr rfl, Or.inr rfl, Or.inr rfl, Or.inr rfl, Or.inr rfl, Or.inr rfl, Or.inl rfl, trivial⟩ ?_
                  exact K_37 _ (Option.some.inj H).symm
              · refine z_icmp_ne_t (M := M_X3_collect) (tgt := 107) dX3_collect_94 (by decide) rfl rfl h_63 ?_
                refine z_aload_n (M := M_X3_collect) dX3_collect_107 rfl ?_
                refine z_getR (M := M_X3_collect) (ci := 6) (C := RX3) (T := TX3) (Nf := 12) (ty := tyX3) cl6 dX3_collect_108 ly_222 0 (by decide) t_442 rfl ?_
                refine z_aload_n (M := M_X3_collect) dX3_collect_111 rfl ?_
                refine z_iload (M := M_X3_collect) dX3_collect_112 rfl ?_
                refine z_iload (M := M_X3_collect) dX3_collect_114 rfl ?_
                refine z_iload_n (M := M_X3_collect) dX3_collect_116 rfl ?_
                obtain ⟨⟨x_75, σ_74⟩, hc_73, H⟩ := bd_e H
                refine z_callV (M := M_X3_collect) (M' := M_X5_add) (as := [vr shape_0, vi i_30, vi x_41, vi owner_0]) (rest := []) rfl rfl dX3_collect_117 m_X5_add t_1908 t_1218 t_1219 (c_X5_add hl (by decide) h_shape hc_73) rfl rfl (ly_G (by decide)) rfl (Nat.le_of_ble_eq_true rfl) (Nat.le_of_ble_eq_true rfl) (Nat.le_of_ble_eq_true rfl) (Nat.le_of_ble_eq_true rfl) ?_
                refine z_st (st' := [zv x_75]) rfl ?_
                rcases if_e H with ⟨h_76, H⟩ | ⟨h_76, H⟩
                · refine z_zne_t (M := M_X3_collect) (tgt := 125) dX3_collect_120 (by decide) h_76 ?_
                  refine z_iinc (M := M_X3_collect) (lv' := [some (vr 222), some (vr shape_0), some (vi owner_0), some (vi from_15), some (vi at_5), some (vi row_16), some (vi (from_15 + x_29)), some (vi (i_30 + 1)), some (vi x_41)]) dX3_collect_125 rfl (Nat.le_of_ble_eq_true rfl) rfl rfl ?_
                  refine z_goto (M := M_X3_collect) (tgt := 54) dX3_collect_128 (by decide) ?_
                  refine z_le (lv' := [some (vr 222), some (vr shape_0), some (vi owner_0), some (vi from_15), some (vi at_5), some (vi row_16), some (vi (from_15 + x_29)), some (vi (i_30 + 1)), none]) ⟨Or.inr rfl, Or.inr rfl, Or.inr rfl, Or.inr rfl, Or.inr rfl, Or.inr rfl, Or.inr rfl, Or.inr rfl, Or.inl rfl, trivial⟩ ?_
                  exact K_37 _ (Option.some.inj H).symm
                · refine z_zne_f (M := M_X3_collect) (tgt := 125) dX3_collect_120 (by decide) h_76 ?_
                  refine z_zconst (M := M_X3_collect) (b := false) dX3_collect_123 rfl ?_
                  have H := congrArg some (hk_34 _ ((K_38 _ (Option.some.inj H).symm).symm))
                  have H := congrArg some (hk_20 _ ((K_24 _ (Option.some.inj H).symm).symm))
                  have H := congrArg some (hk_9 _ ((K_13 _ (Option.some.inj H).symm).symm))
                  cases H
                  exact z_zret (M := M_X3_collect) dX3_collect_124 rfl (Nat.le_of_ble_eq_true rfl) (Nat.le_of_ble_eq_true rfl) ⟨rfl, rfl⟩
          refine z_iload (M := M_X3_collect) dX3_collect_61 rfl ?_
          refine z_iconst (M := M_X3_collect) dX3_collect_63 ?_
          refine z_iadd (M := M_X3_collect) dX3_collect_64 ?_
          refine z_iload (M := M_X3_collect) dX3_collect_65 rfl ?_
          by_cases h_78 : (w32 (i_30 + 1)) < (w32 (from_15 + x_29))
          · refine z_icmp_ge_f (M := M_X3_collect) (tgt := 77) dX3_collect_67 (by decide) rfl rfl h_78 ?_
            refine z_iload (M := M_X3_collect) dX3_collect_70 rfl ?_
            refine z_iconst (M := M_X3_collect) dX3_collect_72 ?_
            refine z_iadd (M := M_X3_collect) dX3_collect_73 ?_
            refine z_goto (M := M_X3_collect) (tgt := 78) dX3_collect_74 (by decide) ?_
            exact z_st (by rw [if_pos (c := (w32 (i_30 + 1)) < (w32 (from_15 + x_29))) h_78]) J_40
          · refine z_icmp_ge_t (M := M_X3_collect) (tgt := 77) dX3_collect_67 (by decide) rfl rfl (Int.not_lt.mp h_78) ?_
            refine z_iload_n (M := M_X3_collect) dX3_collect_77 rfl ?_
            exact z_st (by rw [if_neg (c := (w32 (i_30 + 1)) < (w32 (from_15 + x_29))) h_78]) J_40
        · refine z_icmp_ge_t (M := M_X3_collect) (tgt := 131) dX3_collect_58 (by decide) rfl rfl (Int.not_lt.mp h_39) ?_
          exact J_83 _ _ (K_38 _ (Option.some.inj H).symm).symm
      · refine z_icmp_ge_t (M := M_X3_collect) (tgt := 140) dX3_collect_36 (by decide) rfl rfl (Int.not_lt.mp h_27) ?_
        exact J_91 _ _ _ (K_24 _ (Option.some.inj H).symm).symm
    · refine z_icmp_ge_t (M := M_X3_collect) (tgt := 151) dX3_collect_22 (by decide) rfl rfl (Int.not_lt.mp h_14) ?_
      exact J_96 _ _ _ (K_13 _ (Option.some.inj H).symm).symm
theorem c_X3_hasTooManyMeetings (hl : l.stackTraces = false) {σ : SG} {r : Bool} {σ' : SG}  (H : fT_hasTooManyMeetings σ = some (r, σ')) : en_S l E M_X3_hasTooManyMeetings 5 0 0 [vr 222] σ (pS (some (zv r)) σ') := by
  unfold fT_hasTooManyMeetings at H
  refine z_mk (lv := [some (vr 222), none, none, none]) m_X3_hasTooManyMeetings rfl hl (Nat.le_of_ble_eq_true rfl) rfl ?_
  refine z_iconst (M := M_X3_hasTooManyMeetings) dX3_hasTooManyMeetings_0 ?_
  refine z_istore_n (M := M_X3_hasTooManyMeetings) (lv' := [some (vr 222), some (vi 0), none, none]) dX3_hasTooManyMeetings_1 (Nat.le_of_ble_eq_true rfl) rfl rfl ?_
  refine z_iconst (M := M_X3_hasTooManyMeetings) dX3_hasTooManyMeetings_2 ?_
  refine z_istore_n (M := M_X3_hasTooManyMeetings) (lv' := [some (vr 222), some (vi 0), some (vi 0), none]) dX3_hasTooManyMeetings_3 (Nat.le_of_ble_eq_true rfl) rfl rfl ?_
  obtain ⟨rl_7, hw_4, hk_5⟩ := bd_e H
  have J_49 : ∀ meetings_44 i_45 σ_46, rl_7 = (meetings_44, i_45, σ_46) → YY l E M_X3_hasTooManyMeetings 5 0 0 (pS (some (zv r)) σ') 57 [some (vr 222), some (vi meetings_44), some (vi i_45), none] [] σ_46 0 0 := by
    intro meetings_44 i_45 σ_46 e
    have H := hk_5
    rw [e] at H
    have J_47 : YY l E M_X3_hasTooManyMeetings 5 0 0 (pS (some (zv r)) σ') 69 [some (vr 222), some (vi meetings_44), some (vi i_45), none] [zv (decide (1024 < (w32 meetings_44)))] σ_46 0 0 := by
      cases H
      exact z_zret (M := M_X3_hasTooManyMeetings) dX3_hasTooManyMeetings_69 rfl (Nat.le_of_ble_eq_true rfl) (Nat.le_of_ble_eq_true rfl) ⟨rfl, rfl⟩
    refine z_iload_n (M := M_X3_hasTooManyMeetings) dX3_hasTooManyMeetings_57 rfl ?_
    refine z_sipush (M := M_X3_hasTooManyMeetings) dX3_hasTooManyMeetings_58 (by decide +kernel) ?_
    by_cases h_48 : 1024 < (w32 meetings_44)
    · refine z_icmp_le_f (M := M_X3_hasTooManyMeetings) (tgt := 68) dX3_hasTooManyMeetings_61 (by decide) rfl (by decide +kernel) h_48 ?_
      refine z_iconst (M := M_X3_hasTooManyMeetings) dX3_hasTooManyMeetings_64 ?_
      refine z_goto (M := M_X3_hasTooManyMeetings) (tgt := 69) dX3_hasTooManyMeetings_65 (by decide) ?_
      exact z_st (by rw [zv_t (p := 1024 < (w32 meetings_44)) h_48]) J_47
    · refine z_icmp_le_t (M := M_X3_hasTooManyMeetings) (tgt := 68) dX3_hasTooManyMeetings_61 (by decide) rfl (by decide +kernel) (Int.not_lt.mp h_48) ?_
      refine z_iconst (M := M_X3_hasTooManyMeetings) dX3_hasTooManyMeetings_68 ?_
      exact z_st (by rw [zv_f (p := 1024 < (w32 meetings_44)) h_48]) J_47
  refine whl_go hw_4 (fun (meetings_1, i_2, σ_3) => YY l E M_X3_hasTooManyMeetings 5 0 0 (pS (some (zv r)) σ') 4 [some (vr 222), some (vi meetings_1), some (vi i_2), none] [] σ_3 0 0) ?_
  rintro ⟨meetings_1, i_2, σ_3⟩ o_8 H K_9 K_10
  refine z_iload_n (M := M_X3_hasTooManyMeetings) dX3_hasTooManyMeetings_4 rfl ?_
  refine z_aload_n (M := M_X3_hasTooManyMeetings) dX3_hasTooManyMeetings_5 rfl ?_
  refine z_getR (M := M_X3_hasTooManyMeetings) (ci := 6) (C := RX3) (T := TX3) (Nf := 12) (ty := tyX3) cl6 dX3_hasTooManyMeetings_6 ly_222 0 (by decide) t_442 rfl ?_
  refine z_getI (M := M_X3_hasTooManyMeetings) (ci := 8) (C := RX5) (T := TX5) (Nf := 8) (ty := tyX5) cl8 dX3_hasTooManyMeetings_9 (ly_G (by decide)) 5 (by decide) t_257 rfl rfl ?_
  rcases if_e H with ⟨h_11, H⟩ | ⟨h_11, H⟩
  · refine z_icmp_ge_f (M := M_X3_hasTooManyMeetings) (tgt := 57) dX3_hasTooManyMeetings_12 (by decide) rfl rfl h_11 ?_
    refine z_iload_n (M := M_X3_hasTooManyMeetings) dX3_hasTooManyMeetings_15 rfl ?_
    refine z_iconst (M := M_X3_hasTooManyMeetings) dX3_hasTooManyMeetings_16 ?_
    refine z_iadd (M := M_X3_hasTooManyMeetings) dX3_hasTooManyMeetings_17 ?_
    refine z_istore_n (M := M_X3_hasTooManyMeetings) (lv' := [some (vr 222), some (vi meetings_1), some (vi i_2), some (vi (i_2 + 1))]) dX3_hasTooManyMeetings_18 (Nat.le_of_ble_eq_true rfl) rfl rfl ?_
    obtain ⟨rl_18, hw_15, hk_16⟩ := bd_e H
    have J_42 : ∀ meetings_38 j_39 σ_40, rl_18 = (meetings_38, j_39, σ_40) → YY l E M_X3_hasTooManyMeetings 5 0 0 (pS (some (zv r)) σ') 51 [some (vr 222), some (vi meetings_38), some (vi i_2), some (vi j_39)] [] σ_40 0 0 := by
      intro meetings_38 j_39 σ_40 e
      have H := hk_16
      rw [e] at H
      refine z_iinc (M := M_X3_hasTooManyMeetings) (lv' := [some (vr 222), some (vi meetings_38), some (vi (i_2 + 1)), some (vi j_39)]) dX3_hasTooManyMeetings_51 rfl (Nat.le_of_ble_eq_true rfl) rfl rfl ?_
      refine z_goto (M := M_X3_hasTooManyMeetings) (tgt := 4) dX3_hasTooManyMeetings_54 (by decide) ?_
      refine z_le (lv' := [some (vr 222), some (vi meetings_38), some (vi (i_2 + 1)), none]) ⟨Or.inr rfl, Or.inr rfl, Or.inr rfl, Or.inl rfl, trivial⟩ ?_
      exact K_9 _ (Option.some.inj H).symm
    refine whl_go hw_15 (fun (meetings_12, j_13, σ_14) => YY l E M_X3_hasTooManyMeetings 5 0 0 (pS (some (zv r)) σ') 19 [some (vr 222), some (vi meetings_12), some (vi i_2), some (vi j_13)] [] σ_14 0 0) ?_
    rintro ⟨meetings_12, j_13, σ_14⟩ o_19 H K_20 K_21
    refine z_iload_n (M := M_X3_hasTooManyMeetings) dX3_hasTooManyMeetings_19 rfl ?_
    refine z_aload_n (M := M_X3_hasTooManyMeetings) dX3_hasTooManyMeetings_20 rfl ?_
    refine z_getR (M := M_X3_hasTooManyMeetings) (ci := 6) (C := RX3) (T := TX3) (Nf := 12) (ty := tyX3) cl6 dX3_hasTooManyMeetings_21 ly_222 0 (by decide) t_442 rfl ?_
    refine z_getI (M := M_X3_hasTooManyMeetings) (ci := 8) (C := RX5) (T := TX5) (Nf := 8) (ty := tyX5) cl8 dX3_hasTooManyMeetings_24 (ly_G (by decide)) 5 (by decide) t_257 rfl rfl ?_
    rcases if_e H with ⟨h_22, H⟩ | ⟨h_22, H⟩
    · refine z_icmp_ge_f (M := M_X3_hasTooManyMeetings) (tgt := 51) dX3_hasTooManyMeetings_27 (by decide) rfl rfl h_22 ?_
      obtain ⟨v_26, he_23, hk_24⟩ := bd_e H
      have J_36 : ∀ meetings_33 σ_34, v_26 = (meetings_33, σ_34) → YY l E M_X3_hasTooManyMeetings 5 0 0 (pS (some (zv r)) σ') 45 [some (vr 222), some (vi meetings_33), some (vi i_2), some (vi j_13)] [] σ_34 0 0 := by
        intro meetings_33 σ_34 e
        have H := hk_24
        rw [e] at H
        refine z_iinc (M := M_X3_hasTooManyMeetings) (lv' := [some (vr 222), some (vi meetings_33), some (vi i_2), some (vi (j_13 + 1))]) dX3_hasTooManyMeetings_45 rfl (Nat.le_of_ble_eq_true rfl) rfl rfl ?_
        refine z_goto (M := M_X3_hasTooManyMeetings) (tgt := 19) dX3_hasTooManyMeetings_48 (by decide) ?_
        exact K_20 _ (Option.some.inj H).symm
      have H := he_23
      refine z_aload_n (M := M_X3_hasTooManyMeetings) dX3_hasTooManyMeetings_30 rfl ?_
      refine z_getR (M := M_X3_hasTooManyMeetings) (ci := 6) (C := RX3) (T := TX3) (Nf := 12) (ty := tyX3) cl6 dX3_hasTooManyMeetings_31 ly_222 0 (by decide) t_442 rfl ?_
      refine z_iload_n (M := M_X3_hasTooManyMeetings) dX3_hasTooManyMeetings_34 rfl ?_
      refine z_iload_n (M := M_X3_hasTooManyMeetings) dX3_hasTooManyMeetings_35 rfl ?_
      obtain ⟨⟨x_29, σ_28⟩, hc_27, H⟩ := bd_e H
      refine z_callV (M := M_X3_hasTooManyMeetings) (M' := M_X5_meet) (as := [vi i_2, vi j_13]) (rest := []) rfl rfl dX3_hasTooManyMeetings_36 m_X5_meet t_1913 t_1256 t_1257 (c_X5_meet hl (by decide) hc_27) rfl rfl (ly_G (by decide)) rfl (Nat.le_of_ble_eq_true rfl) (Nat.le_of_ble_eq_true rfl) (Nat.le_of_ble_eq_true rfl) (Nat.le_of_ble_eq_true rfl) ?_
      refine z_st (st' := [vi x_29]) rfl ?_
      rcases if_e H with ⟨h_30, H⟩ | ⟨h_30, H⟩
      · refine z_if_eq_f (M := M_X3_hasTooManyMeetings) (tgt := 45) dX3_hasTooManyMeetings_39 (by decide) rfl h_30 ?_
        refine z_iinc (M := M_X3_hasTooManyMeetings) (lv' := [some (vr 222), some (vi (meetings_12 + 1)), some (vi i_2), some (vi j_13)]) dX3_hasTooManyMeetings_42 rfl (Nat.le_of_ble_eq_true rfl) rfl rfl ?_
        exact J_36 _ _ (Option.some.inj H).symm
      · refine z_if_eq_t (M := M_X3_hasTooManyMeetings) (tgt := 45) dX3_hasTooManyMeetings_39 (by decide) rfl (Decidable.not_not.mp h_30) ?_
        exact J_36 _ _ (Option.some.inj H).symm
    · refine z_icmp_ge_t (M := M_X3_hasTooManyMeetings) (tgt := 51) dX3_hasTooManyMeetings_27 (by decide) rfl rfl (Int.not_lt.mp h_22) ?_
      exact J_42 _ _ _ (K_21 _ (Option.some.inj H).symm).symm
  · refine z_icmp_ge_t (M := M_X3_hasTooManyMeetings) (tgt := 57) dX3_hasTooManyMeetings_12 (by decide) rfl rfl (Int.not_lt.mp h_11) ?_
    exact J_49 _ _ _ (K_10 _ (Option.some.inj H).symm).symm
theorem c_X3_hasTooManyParts (hl : l.stackTraces = false) {σ : SG} {shape_0 : Nat} {r : Bool} (h_shape : isS shape_0) (H : fT_hasTooManyParts σ shape_0 = some r) : en_S l E M_X3_hasTooManyParts 3 0 0 [vr shape_0] σ (pS (some (zv r)) σ) := by
  unfold fT_hasTooManyParts at H
  refine z_mk (lv := [some (vr shape_0), none, none]) m_X3_hasTooManyParts rfl hl (Nat.le_of_ble_eq_true rfl) rfl ?_
  refine z_aload_n (M := M_X3_hasTooManyParts) dX3_hasTooManyParts_0 rfl ?_
  obtain ⟨x_2, hc_1, H⟩ := bd_e H
  refine z_callS (M := M_X3_hasTooManyParts) (M' := M_X3_isOfPoints) (as := [vr shape_0]) (rest := []) rfl rfl dX3_hasTooManyParts_1 m_X3_isOfPoints t_1893 t_1894 (c_X3_isOfPoints hl h_shape hc_1) rfl rfl (Nat.le_of_ble_eq_true rfl) (Nat.le_of_ble_eq_true rfl) (Nat.le_of_ble_eq_true rfl) (Nat.le_of_ble_eq_true rfl) ?_
  refine z_st (st' := [zv x_2]) rfl ?_
  rcases if_e H with ⟨h_3, H⟩ | ⟨h_3, H⟩
  · refine z_zeq_f (M := M_X3_hasTooManyParts) (tgt := 9) dX3_hasTooManyParts_4 (by decide) h_3 ?_
    refine z_zconst (M := M_X3_hasTooManyParts) (b := false) dX3_hasTooManyParts_7 rfl ?_
    cases H
    exact z_zret (M := M_X3_hasTooManyParts) dX3_hasTooManyParts_8 rfl (Nat.le_of_ble_eq_true rfl) (Nat.le_of_ble_eq_true rfl) ⟨rfl, rfl⟩
  · refine z_zeq_t (M := M_X3_hasTooManyParts) (tgt := 9) dX3_hasTooManyParts_4 (by decide) h_3 ?_
    refine z_iconst (M := M_X3_hasTooManyParts) dX3_hasTooManyParts_9 ?_
    refine z_istore_n (M := M_X3_hasTooManyParts) (lv' := [some (vr shape_0), some (vi 0), none]) dX3_hasTooManyParts_10 (Nat.le_of_ble_eq_true rfl) rfl rfl ?_
    refine z_iconst (M := M_X3_hasTooManyParts) dX3_hasTooManyParts_11 ?_
    refine z_istore_n (M := M_X3_hasTooManyParts) (lv' := [some (vr shape_0), some (vi 0), some (vi 0)]) dX3_hasTooManyParts_12 (Nat.le_of_ble_eq_true rfl) rfl rfl ?_
    obtain ⟨rl_9, hw_6, hk_7⟩ := bd_e H
    have J_24 : ∀ parts_20 at_21, rl_9 = (parts_20, at_21) → YY l E M_X3_hasTooManyParts 3 0 0 (pS (some (zv r)) σ) 40 [some (vr shape_0), some (vi parts_20), some (vi at_21)] [] σ 0 0 := by
      intro parts_20 at_21 e
      have H := hk_7
      rw [e] at H
      have J_22 : YY l E M_X3_hasTooManyParts 3 0 0 (pS (some (zv r)) σ) 52 [some (vr shape_0), some (vi parts_20), some (vi at_21)] [zv (decide (1024 < (w32 parts_20)))] σ 0 0 := by
        cases H
        exact z_zret (M := M_X3_hasTooManyParts) dX3_hasTooManyParts_52 rfl (Nat.le_of_ble_eq_true rfl) (Nat.le_of_ble_eq_true rfl) ⟨rfl, rfl⟩
      refine z_iload_n (M := M_X3_hasTooManyParts) dX3_hasTooManyParts_40 rfl ?_
      refine z_sipush (M := M_X3_hasTooManyParts) dX3_hasTooManyParts_41 (by decide +kernel) ?_
      by_cases h_23 : 1024 < (w32 parts_20)
      · refine z_icmp_le_f (M := M_X3_hasTooManyParts) (tgt := 51) dX3_hasTooManyParts_44 (by decide) rfl (by decide +kernel) h_23 ?_
        refine z_iconst (M := M_X3_hasTooManyParts) dX3_hasTooManyParts_47 ?_
        refine z_goto (M := M_X3_hasTooManyParts) (tgt := 52) dX3_hasTooManyParts_48 (by decide) ?_
        exact z_st (by rw [zv_t (p := 1024 < (w32 parts_20)) h_23]) J_22
      · refine z_icmp_le_t (M := M_X3_hasTooManyParts) (tgt := 51) dX3_hasTooManyParts_44 (by decide) rfl (by decide +kernel) (Int.not_lt.mp h_23) ?_
        refine z_iconst (M := M_X3_hasTooManyParts) dX3_hasTooManyParts_51 ?_
        exact z_st (by rw [zv_f (p := 1024 < (w32 parts_20)) h_23]) J_22
    refine whl_go hw_6 (fun (parts_4, at_5) => YY l E M_X3_hasTooManyParts 3 0 0 (pS (some (zv r)) σ) 13 [some (vr shape_0), some (vi parts_4), some (vi at_5)] [] σ 0 0) ?_
    rintro ⟨parts_4, at_5⟩ o_10 H K_11 K_12
    refine z_iload_n (M := M_X3_hasTooManyParts) dX3_hasTooManyParts_13 rfl ?_
    refine z_iconst (M := M_X3_hasTooManyParts) dX3_hasTooManyParts_14 ?_
    refine z_iadd (M := M_X3_hasTooManyParts) dX3_hasTooManyParts_15 ?_
    refine z_aload_n (M := M_X3_hasTooManyParts) dX3_hasTooManyParts_16 rfl ?_
    refine z_getI (M := M_X3_hasTooManyParts) (ci := 9) (C := RX6) (T := TX6) (Nf := 5) (ty := tyX6) cl9 dX3_hasTooManyParts_17 (ly_S h_shape) 3 (by decide) t_76 rfl rfl ?_
    rcases if_e H with ⟨h_13, H⟩ | ⟨h_13, H⟩
    · refine z_icmp_ge_f (M := M_X3_hasTooManyParts) (tgt := 40) dX3_hasTooManyParts_20 (by decide) rfl rfl h_13 ?_
      refine z_iload_n (M := M_X3_hasTooManyParts) dX3_hasTooManyParts_23 rfl ?_
      refine z_aload_n (M := M_X3_hasTooManyParts) dX3_hasTooManyParts_24 rfl ?_
      refine z_iload_n (M := M_X3_hasTooManyParts) dX3_hasTooManyParts_25 rfl ?_
      obtain ⟨x_15, hc_14, H⟩ := bd_e H
      refine z_callV (M := M_X3_hasTooManyParts) (M' := M_X6_rows) (as := [vi at_5]) (rest := [vi parts_4]) rfl rfl dX3_hasTooManyParts_26 m_X6_rows t_1897 t_1075 t_1076 (c_X6_rows hl h_shape hc_14) rfl rfl (ly_S h_shape) rfl (Nat.le_of_ble_eq_true rfl) (Nat.le_of_ble_eq_true rfl) (Nat.le_of_ble_eq_true rfl) (Nat.le_of_ble_eq_true rfl) ?_
      refine z_st (st' := [vi x_15, vi parts_4]) rfl ?_
      refine z_iadd (M := M_X3_hasTooManyParts) dX3_hasTooManyParts_29 ?_
      refine z_istore_n (M := M_X3_hasTooManyParts) (lv' := [some (vr shape_0), some (vi (parts_4 + x_15)), some (vi at_5)]) dX3_hasTooManyParts_30 (Nat.le_of_ble_eq_true rfl) rfl rfl ?_
      refine z_aload_n (M := M_X3_hasTooManyParts) dX3_hasTooManyParts_31 rfl ?_
      refine z_iload_n (M := M_X3_hasTooManyParts) dX3_hasTooManyParts_32 rfl ?_
      obtain ⟨x_17, hc_16, H⟩ := bd_e H
      refine z_callV (M := M_X3_hasTooManyParts) (M' := M_X6_behind) (as := [vi at_5]) (rest := []) rfl rfl dX3_hasTooManyParts_33 m_X6_behind t_1898 t_1107 t_1108 (c_X6_behind hl h_shape hc_16) rfl rfl (ly_S h_shape) rfl (Nat.le_of_ble_eq_true rfl) (Nat.le_of_ble_eq_true rfl) (Nat.le_of_ble_eq_true rfl) (Nat.le_of_ble_eq_true rfl) ?_
      refine z_st (st' := [vi x_17]) rfl ?_
      refine z_istore_n (M := M_X3_hasTooManyParts) (lv' := [some (vr shape_0), some (vi (parts_4 + x_15)), some (vi x_17)]) dX3_hasTooManyParts_36 (Nat.le_of_ble_eq_true rfl) rfl rfl ?_
      refine z_goto (M := M_X3_hasTooManyParts) (tgt := 13) dX3_hasTooManyParts_37 (by decide) ?_
      exact K_11 _ (Option.some.inj H).symm
    · refine z_icmp_ge_t (M := M_X3_hasTooManyParts) (tgt := 40) dX3_hasTooManyParts_20 (by decide) rfl rfl (Int.not_lt.mp h_13) ?_
      exact J_24 _ _ (K_12 _ (Option.some.inj H).symm).symm
theorem c_X3_isOfLines (hl : l.stackTraces = false) {σ : SG} {shape_0 : Nat} {r : Bool} (h_shape : isS shape_0) (H : fT_isOfLines σ shape_0 = some r) : en_S l E M_X3_isOfLines 2 0 0 [vr shape_0] σ (pS (some (zv r)) σ) := by
  unfold fT_isOfLines at H
  refine z_mk (lv := [some (vr shape_0)]) m_X3_isOfLines rfl hl (Nat.le_of_ble_eq_true rfl) rfl ?_
  obtain ⟨v_11, he_12, hk_13⟩ := bd_e H
  have J_14 : ∀ x_10, v_11 = x_10 → YY l E M_X3_isOfLines 2 0 0 (pS (some (zv r)) σ) 21 [some (vr shape_0)] [zv x_10] σ 0 0 := by
    intro x_10 e
    have H := hk_13
    rw [e] at H
    cases H
    exact z_zret (M := M_X3_isOfLines) dX3_isOfLines_21 rfl (Nat.le_of_ble_eq_true rfl) (Nat.le_of_ble_eq_true rfl) ⟨rfl, rfl⟩
  have H := he_12
  refine z_aload_n (M := M_X3_isOfLines) dX3_isOfLines_0 rfl ?_
  obtain ⟨x_2, hc_1, H⟩ := bd_e H
  refine z_callV (M := M_X3_isOfLines) (M' := M_X6_kind) (as := []) (rest := []) rfl rfl dX3_isOfLines_1 m_X6_kind t_1896 t_951 t_952 (c_X6_kind hl h_shape hc_1) rfl rfl (ly_S h_shape) rfl (Nat.le_of_ble_eq_true rfl) (Nat.le_of_ble_eq_true rfl) (Nat.le_of_ble_eq_true rfl) (Nat.le_of_ble_eq_true rfl) ?_
  refine z_st (st' := [vi x_2]) rfl ?_
  refine z_iconst (M := M_X3_isOfLines) dX3_isOfLines_4 ?_
  rcases if_e H with ⟨h_3, H⟩ | ⟨h_3, H⟩
  · refine z_icmp_eq_t (M := M_X3_isOfLines) (tgt := 16) dX3_isOfLines_5 (by decide) rfl (by decide +kernel) h_3 ?_
    refine z_zconst (M := M_X3_isOfLines) (b := true) dX3_isOfLines_16 rfl ?_
    refine z_goto (M := M_X3_isOfLines) (tgt := 21) dX3_isOfLines_17 (by decide) ?_
    exact J_14 _ (Option.some.inj H).symm
  · refine z_icmp_eq_f (M := M_X3_isOfLines) (tgt := 16) dX3_isOfLines_5 (by decide) rfl (by decide +kernel) h_3 ?_
    refine z_aload_n (M := M_X3_isOfLines) dX3_isOfLines_8 rfl ?_
    obtain ⟨x_6, hc_5, H⟩ := bd_e H
    refine z_callV (M := M_X3_isOfLines) (M' := M_X6_kind) (as := []) (rest := []) rfl rfl dX3_isOfLines_9 m_X6_kind t_1896 t_951 t_952 (c_X6_kind hl h_shape hc_5) rfl rfl (ly_S h_shape) rfl (Nat.le_of_ble_eq_true rfl) (Nat.le_of_ble_eq_true rfl) (Nat.le_of_ble_eq_true rfl) (Nat.le_of_ble_eq_true rfl) ?_
    refine z_st (st' := [vi x_6]) rfl ?_
    refine z_iconst (M := M_X3_isOfLines) dX3_isOfLines_12 ?_
    rcases if_e H with ⟨h_7, H⟩ | ⟨h_7, H⟩
    · refine z_icmp_ne_f (M := M_X3_isOfLines) (tgt := 20) dX3_isOfLines_13 (by decide) rfl (by decide +kernel) h_7 ?_
      refine z_zconst (M := M_X3_isOfLines) (b := true) dX3_isOfLines_16 rfl ?_
      refine z_goto (M := M_X3_isOfLines) (tgt := 21) dX3_isOfLines_17 (by decide) ?_
      exact J_14 _ (Option.some.inj H).symm
    · refine z_icmp_ne_t (M := M_X3_isOfLines) (tgt := 20) dX3_isOfLines_13 (by decide) rfl (by decide +kernel) h_7 ?_
      refine z_zconst (M := M_X3_isOfLines) (b := false) dX3_isOfLines_20 rfl ?_
      exact J_14 _ (Option.some.inj H).symm
theorem c_X3_listRims (hl : l.stackTraces = false) {σ : SG} {shape_0 : Nat} {owner_0 : Int} {σ' : SG} (h_shape : isS shape_0) (H : fT_listRims σ shape_0 owner_0 = some σ') : en_S l E M_X3_listRims 3 0 0 [vr 222, vr shape_0, vi owner_0] σ (pS (none) σ') := by
  unfold fT_listRims at H
  refine z_mk (lv := [some (vr 222), some (vr shape_0), some (vi owner_0), none, none, none, none]) m_X3_listRims rfl hl (Nat.le_of_ble_eq_true rfl) rfl ?_
  refine z_aload_n (M := M_X3_listRims) dX3_listRims_0 rfl ?_
  obtain ⟨x_2, hc_1, H⟩ := bd_e H
  refine z_callS (M := M_X3_listRims) (M' := M_X3_isOfLines) (as := [vr shape_0]) (rest := []) rfl rfl dX3_listRims_1 m_X3_isOfLines t_1921 t_1922 (c_X3_isOfLines hl h_shape hc_1) rfl rfl (Nat.le_of_ble_eq_true rfl) (Nat.le_of_ble_eq_true rfl) (Nat.le_of_ble_eq_true rfl) (Nat.le_of_ble_eq_true rfl) ?_
  refine z_st (st' := [zv x_2]) rfl ?_
  rcases if_e H with ⟨h_3, H⟩ | ⟨h_3, H⟩
  · refine z_zne_t (M := M_X3_listRims) (tgt := 8) dX3_listRims_4 (by decide) h_3 ?_
    refine z_iconst (M := M_X3_listRims) dX3_listRims_8 ?_
    refine z_istore_n (M := M_X3_listRims) (lv' := [some (vr 222), some (vr shape_0), some (vi owner_0), some (vi 0), none, none, none]) dX3_listRims_9 (Nat.le_of_ble_eq_true rfl) rfl rfl ?_
    refine z_iconst (M := M_X3_listRims) dX3_listRims_10 ?_
    refine z_istore (M := M_X3_listRims) (lv' := [some (vr 222), some (vr shape_0), some (vi owner_0), some (vi 0), some (vi 0), none, none]) dX3_listRims_11 (Nat.le_of_ble_eq_true rfl) rfl rfl ?_
    refine z_iconst (M := M_X3_listRims) dX3_listRims_13 ?_
    refine z_istore (M := M_X3_listRims) (lv' := [some (vr 222), some (vr shape_0), some (vi owner_0), some (vi 0), some (vi 0), some (vi 0), none]) dX3_listRims_14 (Nat.le_of_ble_eq_true rfl) rfl rfl ?_
    obtain ⟨rl_11, hw_8, hk_9⟩ := bd_e H
    have J_163 : ∀ size_60 from_61 at_62 σ_63, rl_11 = (size_60, from_61, at_62, σ_63) → YY l E M_X3_listRims 3 0 0 (pS (none) σ') 137 [some (vr 222), some (vr shape_0), some (vi owner_0), some (vi size_60), some (vi from_61), some (vi at_62), none] [] σ_63 0 0 := by
      intro size_60 from_61 at_62 σ_63 e
      have H := hk_9
      rw [e] at H
      refine z_aload_n (M := M_X3_listRims) dX3_listRims_137 rfl ?_
      refine z_getR (M := M_X3_listRims) (ci := 6) (C := RX3) (T := TX3) (Nf := 12) (ty := tyX3) cl6 dX3_listRims_138 ly_222 2 (by decide) t_444 rfl ?_
      refine z_iload_n (M := M_X3_listRims) dX3_listRims_141 rfl ?_
      obtain ⟨σ_65, hc_64, H⟩ := bd_e H
      refine z_callSN (M := M_X3_listRims) (M' := M_X11_sortRow) (as := [vr 230, vi size_60]) (rest := []) rfl rfl dX3_listRims_142 m_X11_sortRow n_1926 t_1417 (c_X11_sortRow hl ly_230 hc_64) rfl rfl (Nat.le_of_ble_eq_true rfl) (Nat.le_of_ble_eq_true rfl) (Nat.le_of_ble_eq_true rfl) (Nat.le_of_ble_eq_true rfl) ?_
      refine z_st (st' := []) rfl ?_
      refine z_zconst (M := M_X3_listRims) (b := false) dX3_listRims_145 rfl ?_
      refine z_zstore (M := M_X3_listRims) (lv' := [some (vr 222), some (vr shape_0), some (vi owner_0), some (vi size_60), some (vi from_61), some (zv false), none]) dX3_listRims_146 (Nat.le_of_ble_eq_true rfl) rfl rfl ?_
      refine z_iconst (M := M_X3_listRims) dX3_listRims_148 ?_
      refine z_istore (M := M_X3_listRims) (lv' := [some (vr 222), some (vr shape_0), some (vi owner_0), some (vi size_60), some (vi from_61), some (zv false), some (vi 0)]) dX3_listRims_149 (Nat.le_of_ble_eq_true rfl) rfl rfl ?_
      obtain ⟨rl_72, hw_69, hk_70⟩ := bd_e H
      have J_162 : ∀ odd_159 i_160 σ_161, rl_72 = (odd_159, i_160, σ_161) → YY l E M_X3_listRims 3 0 0 (pS (none) σ') 284 [some (vr 222), some (vr shape_0), some (vi owner_0), some (vi size_60), some (vi from_61), some (zv odd_159), some (vi i_160)] [] σ_161 0 0 := by
        intro odd_159 i_160 σ_161 e
        have H := hk_70
        rw [e] at H
        cases H
        exact z_vret (M := M_X3_listRims) dX3_listRims_284 rfl (Nat.le_of_ble_eq_true rfl) (Nat.le_of_ble_eq_true rfl) ⟨rfl, rfl⟩
      refine whl_go hw_69 (fun (odd_66, i_67, σ_68) => YY l E M_X3_listRims 3 0 0 (pS (none) σ') 151 [some (vr 222), some (vr shape_0), some (vi owner_0), some (vi size_60), some (vi from_61), some (zv odd_66), some (vi i_67)] [] σ_68 0 0) ?_
      rintro ⟨odd_66, i_67, σ_68⟩ o_73 H K_74 K_75
      refine z_iload (M := M_X3_listRims) dX3_listRims_151 rfl ?_
      refine z_iload_n (M := M_X3_listRims) dX3_listRims_153 rfl ?_
      rcases if_e H with ⟨h_76, H⟩ | ⟨h_76, H⟩
      · refine z_icmp_ge_f (M := M_X3_listRims) (tgt := 284) dX3_listRims_154 (by decide) rfl rfl h_76 ?_
        have J_77 : YY l E M_X3_listRims 3 0 0 (pS (none) σ') 167 [some (vr 222), some (vr shape_0), some (vi owner_0), some (vi size_60), some (vi from_61), some (zv odd_66), some (vi i_67)] [zv (decide (¬ (odd_66 = true)))] σ_68 0 0 := by
          refine z_zstore (M := M_X3_listRims) (lv' := [some (vr 222), some (vr shape_0), some (vi owner_0), some (vi size_60), some (vi from_61), some (zv (decide (¬ (odd_66 = true)))), some (vi i_67)]) dX3_listRims_167 (Nat.le_of_ble_eq_true rfl) rfl rfl ?_
          obtain ⟨v_152, he_153, hk_154⟩ := bd_e H
          have J_155 : v_152 = true → YY l E M_X3_listRims 3 0 0 (pS (none) σ') 197 [some (vr 222), some (vr shape_0), some (vi owner_0), some (vi size_60), some (vi from_61), some (zv (decide (¬ (odd_66 = true)))), some (vi i_67)] [] σ_68 0 0 := by
            intro e
            have H := hk_154
            rw [e] at H
            rcases if_e H with ⟨_, H⟩ | ⟨q, H⟩
            · refine z_goto (M := M_X3_listRims) (tgt := 278) dX3_listRims_197 (by decide) ?_
              refine z_iinc (M := M_X3_listRims) (lv' := [some (vr 222), some (vr shape_0), some (vi owner_0), some (vi size_60), some (vi from_61), some (zv (decide (¬ (odd_66 = true)))), some (vi (i_67 + 1))]) dX3_listRims_278 rfl (Nat.le_of_ble_eq_true rfl) rfl rfl ?_
              refine z_goto (M := M_X3_listRims) (tgt := 151) dX3_listRims_281 (by decide) ?_
              exact K_74 _ (Option.some.inj H).symm
            · exact absurd rfl q
          have J_156 : v_152 = false → YY l E M_X3_listRims 3 0 0 (pS (none) σ') 200 [some (vr 222), some (vr shape_0), some (vi owner_0), some (vi size_60), some (vi from_61), some (zv (decide (¬ (odd_66 = true)))), some (vi i_67)] [] σ_68 0 0 := by
            intro e
            have H := hk_154
            rw [e] at H
            rcases if_e H with ⟨q, H⟩ | ⟨_, H⟩
            · exact nomatch q
            · obtain ⟨v_128, he_125, hk_126⟩ := bd_e H
              have J_151 : ∀ σ_149, v_128 = σ_149 → YY l E M_X3_listRims 3 0 0 (pS (none) σ') 275 [some (vr 222), some (vr shape_0), some (vi owner_0), some (vi size_60), some (vi from_61), some (zv (decide (¬ (odd_66 = true)))), some (vi i_67)] [] σ_149 0 0 := by
                intro σ_149 e
                have H := hk_126
                rw [e] at H
                refine z_zconst (M := M_X3_listRims) (b := false) dX3_listRims_275 rfl ?_
                refine z_zstore (M := M_X3_listRims) (lv' := [some (vr 222), some (vr shape_0), some (vi owner_0), some (vi size_60), some (vi from_61), some (zv false), some (vi i_67)]) dX3_listRims_276 (Nat.le_of_ble_eq_true rfl) rfl rfl ?_
                refine z_iinc (M := M_X3_listRims) (lv' := [some (vr 222), some (vr shape_0), some (vi owner_0), some (vi size_60), some (vi from_61), some (zv false), some (vi (i_67 + 1))]) dX3_listRims_278 rfl (Nat.le_of_ble_eq_true rfl) rfl rfl ?_
                refine z_goto (M := M_X3_listRims) (tgt := 151) dX3_listRims_281 (by decide) ?_
                exact K_74 _ (Option.some.inj H).symm
              have H := he_125
              rcases if_e H with ⟨h_142, H⟩ | ⟨h_142, H⟩
              · have J_143 : YY l E M_X3_listRims 3 0 0 (pS (none) σ') 217 [some (vr 222), some (vr shape_0), some (vi owner_0), some (vi size_60), some (vi from_61), some (zv (decide (¬ (odd_66 = true)))), some (vi i_67)] [] σ_68 0 0 := by
                  refine z_aload_n (M := M_X3_listRims) dX3_listRims_217 rfl ?_
                  refine z_getR (M := M_X3_listRims) (ci := 6) (C := RX3) (T := TX3) (Nf := 12) (ty := tyX3) cl6 dX3_listRims_218 ly_222 3 (by decide) t_445 rfl ?_
                  refine z_aload_n (M := M_X3_listRims) dX3_listRims_221 rfl ?_
                  refine z_getI (M := M_X3_listRims) (ci := 6) (C := RX3) (T := TX3) (Nf := 12) (ty := tyX3) cl6 dX3_listRims_222 ly_222 6 (by decide) t_448 rfl rfl ?_
                  refine z_aload_n (M := M_X3_listRims) dX3_listRims_225 rfl ?_
                  refine z_getR (M := M_X3_listRims) (ci := 6) (C := RX3) (T := TX3) (Nf := 12) (ty := tyX3) cl6 dX3_listRims_226 ly_222 2 (by decide) t_444 rfl ?_
                  refine z_iload (M := M_X3_listRims) dX3_listRims_229 rfl ?_
                  obtain ⟨x_129, x_129_e, hi_130, H⟩ := rd_e H
                  refine z_lald (M := M_X3_listRims) dX3_listRims_231 ly_230 rfl rfl rfl hi_130 x_129_e ?_
                  refine z_callSN (M := M_X3_listRims) (M' := M_X11_keyX) (as := [vl x_129]) (rest := [vi (σ_68 kT_rims 0), vr 231]) rfl rfl dX3_listRims_232 m_X11_keyX n_1927 t_1454 (c_X11_keyX hl  rfl) rfl rfl (Nat.le_of_ble_eq_true rfl) (Nat.le_of_ble_eq_true rfl) (Nat.le_of_ble_eq_true rfl) (Nat.le_of_ble_eq_true rfl) ?_
                  refine z_st (st' := [vi (fQ_keyX x_129), vi (σ_68 kT_rims 0), vr 231]) rfl ?_
                  obtain ⟨σ_131, σ_131_e, hi_132, H⟩ := wa_e H
                  refine z_iast (M := M_X3_listRims) dX3_listRims_235 ly_231 rfl rfl rfl hi_132 σ_131_e ?_
                  refine z_aload_n (M := M_X3_listRims) dX3_listRims_236 rfl ?_
                  refine z_getR (M := M_X3_listRims) (ci := 6) (C := RX3) (T := TX3) (Nf := 12) (ty := tyX3) cl6 dX3_listRims_237 ly_222 4 (by decide) t_446 rfl ?_
                  refine z_aload_n (M := M_X3_listRims) dX3_listRims_240 rfl ?_
                  refine z_getI (M := M_X3_listRims) (ci := 6) (C := RX3) (T := TX3) (Nf := 12) (ty := tyX3) cl6 dX3_listRims_241 ly_222 6 (by decide) t_448 rfl rfl ?_
                  refine z_aload_n (M := M_X3_listRims) dX3_listRims_244 rfl ?_
                  refine z_getR (M := M_X3_listRims) (ci := 6) (C := RX3) (T := TX3) (Nf := 12) (ty := tyX3) cl6 dX3_listRims_245 ly_222 2 (by decide) t_444 rfl ?_
                  refine z_iload (M := M_X3_listRims) dX3_listRims_248 rfl ?_
                  obtain ⟨x_133, x_133_e, hi_134, H⟩ := rd_e H
                  refine z_lald (M := M_X3_listRims) dX3_listRims_250 ly_230 rfl rfl rfl hi_134 x_133_e ?_
                  refine z_callSN (M := M_X3_listRims) (M' := M_X11_keyY) (as := [vl x_133]) (rest := [vi (σ_131 kT_rims 0), vr 232]) rfl rfl dX3_listRims_251 m_X11_keyY n_1928 t_1457 (c_X11_keyY hl  rfl) rfl rfl (Nat.le_of_ble_eq_true rfl) (Nat.le_of_ble_eq_true rfl) (Nat.le_of_ble_eq_true rfl) (Nat.le_of_ble_eq_true rfl) ?_
                  refine z_st (st' := [vi (fQ_keyY x_133), vi (σ_131 kT_rims 0), vr 232]) rfl ?_
                  obtain ⟨σ_135, σ_135_e, hi_136, H⟩ := wa_e H
                  refine z_iast (M := M_X3_listRims) dX3_listRims_254 ly_232 rfl rfl rfl hi_136 σ_135_e ?_
                  refine z_aload_n (M := M_X3_listRims) dX3_listRims_255 rfl ?_
                  refine z_getR (M := M_X3_listRims) (ci := 6) (C := RX3) (T := TX3) (Nf := 12) (ty := tyX3) cl6 dX3_listRims_256 ly_222 5 (by decide) t_447 rfl ?_
                  refine z_aload_n (M := M_X3_listRims) dX3_listRims_259 rfl ?_
                  refine z_getI (M := M_X3_listRims) (ci := 6) (C := RX3) (T := TX3) (Nf := 12) (ty := tyX3) cl6 dX3_listRims_260 ly_222 6 (by decide) t_448 rfl rfl ?_
                  refine z_iload_n (M := M_X3_listRims) dX3_listRims_263 rfl ?_
                  obtain ⟨σ_137, σ_137_e, hi_138, H⟩ := wa_e H
                  refine z_iast (M := M_X3_listRims) dX3_listRims_264 ly_233 rfl rfl rfl hi_138 σ_137_e ?_
                  refine z_aload_n (M := M_X3_listRims) dX3_listRims_265 rfl ?_
                  refine z_dup (M := M_X3_listRims) dX3_listRims_266 rfl ?_
                  refine z_getI (M := M_X3_listRims) (ci := 6) (C := RX3) (T := TX3) (Nf := 12) (ty := tyX3) cl6 dX3_listRims_267 ly_222 6 (by decide) t_448 rfl rfl ?_
                  refine z_iconst (M := M_X3_listRims) dX3_listRims_270 ?_
                  refine z_iadd (M := M_X3_listRims) dX3_listRims_271 ?_
                  obtain ⟨σ_139, σ_139_e, H⟩ := wf_e H
                  refine z_putI (M := M_X3_listRims) (ci := 6) (C := RX3) (T := TX3) (Nf := 12) (ty := tyX3) cl6 dX3_listRims_272 ly_222 6 (by decide) t_448 rfl rfl rfl rfl σ_139_e ?_
                  exact J_151 _ (Option.some.inj H).symm
                refine z_zload (M := M_X3_listRims) dX3_listRims_200 rfl ?_
                by_cases h_145 : (decide (¬ (odd_66 = true))) = true
                · refine z_zeq_f (M := M_X3_listRims) (tgt := 275) dX3_listRims_202 (by decide) h_145 ?_
                  refine z_aload_n (M := M_X3_listRims) dX3_listRims_205 rfl ?_
                  refine z_getI (M := M_X3_listRims) (ci := 6) (C := RX3) (T := TX3) (Nf := 12) (ty := tyX3) cl6 dX3_listRims_206 ly_222 6 (by decide) t_448 rfl rfl ?_
                  refine z_aload_n (M := M_X3_listRims) dX3_listRims_209 rfl ?_
                  refine z_getR (M := M_X3_listRims) (ci := 6) (C := RX3) (T := TX3) (Nf := 12) (ty := tyX3) cl6 dX3_listRims_210 ly_222 3 (by decide) t_445 rfl ?_
                  refine z_alen (M := M_X3_listRims) (N := 512) dX3_listRims_213 ly_231 (by decide) rfl ?_
                  by_cases h_146 : (w32 (σ_68 kT_rims 0)) < 512
                  · refine z_icmp_ge_f (M := M_X3_listRims) (tgt := 275) dX3_listRims_214 (by decide) rfl (by decide +kernel) h_146 ?_
                    exact J_143
                  · refine z_icmp_ge_t (M := M_X3_listRims) (tgt := 275) dX3_listRims_214 (by decide) rfl (by decide +kernel) (Int.not_lt.mp h_146) ?_
                    exact absurd h_142 (fun q => h_146 q.2)
                · refine z_zeq_t (M := M_X3_listRims) (tgt := 275) dX3_listRims_202 (by decide) h_145 ?_
                  exact absurd h_142 (fun q => h_145 q.1)
              · have J_144 : YY l E M_X3_listRims 3 0 0 (pS (none) σ') 275 [some (vr 222), some (vr shape_0), some (vi owner_0), some (vi size_60), some (vi from_61), some (zv (decide (¬ (odd_66 = true)))), some (vi i_67)] [] σ_68 0 0 := by
                  exact J_151 _ (Option.some.inj H).symm
                refine z_zload (M := M_X3_listRims) dX3_listRims_200 rfl ?_
                by_cases h_147 : (decide (¬ (odd_66 = true))) = true
                · refine z_zeq_f (M := M_X3_listRims) (tgt := 275) dX3_listRims_202 (by decide) h_147 ?_
                  refine z_aload_n (M := M_X3_listRims) dX3_listRims_205 rfl ?_
                  refine z_getI (M := M_X3_listRims) (ci := 6) (C := RX3) (T := TX3) (Nf := 12) (ty := tyX3) cl6 dX3_listRims_206 ly_222 6 (by decide) t_448 rfl rfl ?_
                  refine z_aload_n (M := M_X3_listRims) dX3_listRims_209 rfl ?_
                  refine z_getR (M := M_X3_listRims) (ci := 6) (C := RX3) (T := TX3) (Nf := 12) (ty := tyX3) cl6 dX3_listRims_210 ly_222 3 (by decide) t_445 rfl ?_
                  refine z_alen (M := M_X3_listRims) (N := 512) dX3_listRims_213 ly_231 (by decide) rfl ?_
                  by_cases h_148 : (w32 (σ_68 kT_rims 0)) < 512
                  · refine z_icmp_ge_f (M := M_X3_listRims) (tgt := 275) dX3_listRims_214 (by decide) rfl (by decide +kernel) h_148 ?_
                    exact absurd ⟨h_147, h_148⟩ h_142
                  · refine z_icmp_ge_t (M := M_X3_listRims) (tgt := 275) dX3_listRims_214 (by decide) rfl (by decide +kernel) (Int.not_lt.mp h_148) ?_
                    exact J_144
                · refine z_zeq_t (M := M_X3_listRims) (tgt := 275) dX3_listRims_202 (by decide) h_147 ?_
                  exact J_144
          have H := he_153
          refine z_iload (M := M_X3_listRims) dX3_listRims_169 rfl ?_
          refine z_iconst (M := M_X3_listRims) dX3_listRims_171 ?_
          refine z_iadd (M := M_X3_listRims) dX3_listRims_172 ?_
          refine z_iload_n (M := M_X3_listRims) dX3_listRims_173 rfl ?_
          rcases if_e H with ⟨h_114, H⟩ | ⟨h_114, H⟩
          · refine z_icmp_ge_f (M := M_X3_listRims) (tgt := 200) dX3_listRims_174 (by decide) rfl rfl h_114 ?_
            refine z_aload_n (M := M_X3_listRims) dX3_listRims_177 rfl ?_
            refine z_getR (M := M_X3_listRims) (ci := 6) (C := RX3) (T := TX3) (Nf := 12) (ty := tyX3) cl6 dX3_listRims_178 ly_222 2 (by decide) t_444 rfl ?_
            refine z_iload (M := M_X3_listRims) dX3_listRims_181 rfl ?_
            refine z_iconst (M := M_X3_listRims) dX3_listRims_183 ?_
            refine z_iadd (M := M_X3_listRims) dX3_listRims_184 ?_
            obtain ⟨x_115, x_115_e, hi_116, H⟩ := rd_e H
            refine z_lald (M := M_X3_listRims) dX3_listRims_185 ly_230 rfl rfl rfl hi_116 x_115_e ?_
            refine z_aload_n (M := M_X3_listRims) dX3_listRims_186 rfl ?_
            refine z_getR (M := M_X3_listRims) (ci := 6) (C := RX3) (T := TX3) (Nf := 12) (ty := tyX3) cl6 dX3_listRims_187 ly_222 2 (by decide) t_444 rfl ?_
            refine z_iload (M := M_X3_listRims) dX3_listRims_190 rfl ?_
            obtain ⟨x_117, x_117_e, hi_118, H⟩ := rd_e H
            refine z_lald (M := M_X3_listRims) dX3_listRims_192 ly_230 rfl rfl rfl hi_118 x_117_e ?_
            refine z_lcmp (M := M_X3_listRims) dX3_listRims_193 ?_
            rcases if_e H with ⟨h_119, H⟩ | ⟨h_119, H⟩
            · refine z_lif_ne_f (M := M_X3_listRims) (tgt := 200) dX3_listRims_194 (by decide) rfl rfl h_119 ?_
              exact J_155 (Option.some.inj H).symm
            · refine z_lif_ne_t (M := M_X3_listRims) (tgt := 200) dX3_listRims_194 (by decide) rfl rfl h_119 ?_
              exact J_156 (Option.some.inj H).symm
          · refine z_icmp_ge_t (M := M_X3_listRims) (tgt := 200) dX3_listRims_174 (by decide) rfl rfl (Int.not_lt.mp h_114) ?_
            exact J_156 (Option.some.inj H).symm
        refine z_zload (M := M_X3_listRims) dX3_listRims_157 rfl ?_
        by_cases h_157 : odd_66 = true
        · refine z_zne_t (M := M_X3_listRims) (tgt := 166) dX3_listRims_159 (by decide) h_157 ?_
          refine z_iconst (M := M_X3_listRims) dX3_listRims_166 ?_
          exact z_st (by rw [zv_f (p := ¬ (odd_66 = true)) (not_not_intro h_157)]) J_77
        · refine z_zne_f (M := M_X3_listRims) (tgt := 166) dX3_listRims_159 (by decide) h_157 ?_
          refine z_iconst (M := M_X3_listRims) dX3_listRims_162 ?_
          refine z_goto (M := M_X3_listRims) (tgt := 167) dX3_listRims_163 (by decide) ?_
          exact z_st (by rw [zv_t (p := ¬ (odd_66 = true)) h_157]) J_77
      · refine z_icmp_ge_t (M := M_X3_listRims) (tgt := 284) dX3_listRims_154 (by decide) rfl rfl (Int.not_lt.mp h_76) ?_
        exact J_162 _ _ _ (K_75 _ (Option.some.inj H).symm).symm
    refine whl_go hw_8 (fun (size_4, from_5, at_6, σ_7) => YY l E M_X3_listRims 3 0 0 (pS (none) σ') 16 [some (vr 222), some (vr shape_0), some (vi owner_0), some (vi size_4), some (vi from_5), some (vi at_6), none] [] σ_7 0 0) ?_
    rintro ⟨size_4, from_5, at_6, σ_7⟩ o_12 H K_13 K_14
    refine z_iload (M := M_X3_listRims) dX3_listRims_16 rfl ?_
    refine z_iconst (M := M_X3_listRims) dX3_listRims_18 ?_
    refine z_iadd (M := M_X3_listRims) dX3_listRims_19 ?_
    refine z_aload_n (M := M_X3_listRims) dX3_listRims_20 rfl ?_
    refine z_getI (M := M_X3_listRims) (ci := 9) (C := RX6) (T := TX6) (Nf := 5) (ty := tyX6) cl9 dX3_listRims_21 (ly_S h_shape) 3 (by decide) t_76 rfl rfl ?_
    rcases if_e H with ⟨h_15, H⟩ | ⟨h_15, H⟩
    · refine z_icmp_ge_f (M := M_X3_listRims) (tgt := 137) dX3_listRims_24 (by decide) rfl rfl h_15 ?_
      refine z_iload (M := M_X3_listRims) dX3_listRims_27 rfl ?_
      refine z_aload_n (M := M_X3_listRims) dX3_listRims_29 rfl ?_
      refine z_iload (M := M_X3_listRims) dX3_listRims_30 rfl ?_
      obtain ⟨x_17, hc_16, H⟩ := bd_e H
      refine z_callV (M := M_X3_listRims) (M' := M_X6_pointsAt) (as := [vi at_6]) (rest := [vi from_5]) rfl rfl dX3_listRims_32 m_X6_pointsAt t_1924 t_1097 t_1098 (c_X6_pointsAt hl h_shape hc_16) rfl rfl (ly_S h_shape) rfl (Nat.le_of_ble_eq_true rfl) (Nat.le_of_ble_eq_true rfl) (Nat.le_of_ble_eq_true rfl) (Nat.le_of_ble_eq_true rfl) ?_
      refine z_st (st' := [vi x_17, vi from_5]) rfl ?_
      refine z_iadd (M := M_X3_listRims) dX3_listRims_35 ?_
      refine z_iconst (M := M_X3_listRims) dX3_listRims_36 ?_
      refine z_isub (M := M_X3_listRims) dX3_listRims_37 ?_
      refine z_istore (M := M_X3_listRims) (lv' := [some (vr 222), some (vr shape_0), some (vi owner_0), some (vi size_4), some (vi from_5), some (vi at_6), some (vi ((from_5 + x_17) - 1))]) dX3_listRims_38 (Nat.le_of_ble_eq_true rfl) rfl rfl ?_
      obtain ⟨v_21, he_18, hk_19⟩ := bd_e H
      have J_58 : ∀ size_53 σ_54, v_21 = (size_53, σ_54) → YY l E M_X3_listRims 3 0 0 (pS (none) σ') 120 [some (vr 222), some (vr shape_0), some (vi owner_0), some (vi size_53), some (vi from_5), some (vi at_6), some (vi ((from_5 + x_17) - 1))] [] σ_54 0 0 := by
        intro size_53 σ_54 e
        have H := hk_19
        rw [e] at H
        refine z_iload (M := M_X3_listRims) dX3_listRims_120 rfl ?_
        refine z_iconst (M := M_X3_listRims) dX3_listRims_122 ?_
        refine z_iadd (M := M_X3_listRims) dX3_listRims_123 ?_
        refine z_istore (M := M_X3_listRims) (lv' := [some (vr 222), some (vr shape_0), some (vi owner_0), some (vi size_53), some (vi (((from_5 + x_17) - 1) + 1)), some (vi at_6), some (vi ((from_5 + x_17) - 1))]) dX3_listRims_124 (Nat.le_of_ble_eq_true rfl) rfl rfl ?_
        refine z_aload_n (M := M_X3_listRims) dX3_listRims_126 rfl ?_
        refine z_iload (M := M_X3_listRims) dX3_listRims_127 rfl ?_
        obtain ⟨x_56, hc_55, H⟩ := bd_e H
        refine z_callV (M := M_X3_listRims) (M' := M_X6_behind) (as := [vi at_6]) (rest := []) rfl rfl dX3_listRims_129 m_X6_behind t_1898 t_1107 t_1108 (c_X6_behind hl h_shape hc_55) rfl rfl (ly_S h_shape) rfl (Nat.le_of_ble_eq_true rfl) (Nat.le_of_ble_eq_true rfl) (Nat.le_of_ble_eq_true rfl) (Nat.le_of_ble_eq_true rfl) ?_
        refine z_st (st' := [vi x_56]) rfl ?_
        refine z_istore (M := M_X3_listRims) (lv' := [some (vr 222), some (vr shape_0), some (vi owner_0), some (vi size_53), some (vi (((from_5 + x_17) - 1) + 1)), some (vi x_56), some (vi ((from_5 + x_17) - 1))]) dX3_listRims_132 (Nat.le_of_ble_eq_true rfl) rfl rfl ?_
        refine z_goto (M := M_X3_listRims) (tgt := 16) dX3_listRims_134 (by decide) ?_
        refine z_le (lv' := [some (vr 222), some (vr shape_0), some (vi owner_0), some (vi size_53), some (vi (((from_5 + x_17) - 1) + 1)), some (vi x_56), none]) ⟨Or.inr rfl, Or.inr rfl, Or.inr rfl, Or.inr rfl, Or.inr rfl, Or.inr rfl, Or.inl rfl, trivial⟩ ?_
        exact K_13 _ (Option.some.inj H).symm
      have H := he_18
      refine z_iload (M := M_X3_listRims) dX3_listRims_40 rfl ?_
      refine z_iload (M := M_X3_listRims) dX3_listRims_42 rfl ?_
      rcases if_e H with ⟨h_32, H⟩ | ⟨h_32, H⟩
      · refine z_icmp_le_f (M := M_X3_listRims) (tgt := 120) dX3_listRims_44 (by decide) rfl rfl h_32 ?_
        refine z_aload_n (M := M_X3_listRims) dX3_listRims_47 rfl ?_
        refine z_iload (M := M_X3_listRims) dX3_listRims_48 rfl ?_
        refine z_iload (M := M_X3_listRims) dX3_listRims_50 rfl ?_
        obtain ⟨x_34, hc_33, H⟩ := bd_e H
        refine z_callV (M := M_X3_listRims) (M' := M_X6_areLike) (as := [vi from_5, vi ((from_5 + x_17) - 1)]) (rest := []) rfl rfl dX3_listRims_52 m_X6_areLike t_1904 t_1188 t_1189 (c_X6_areLike hl h_shape hc_33) rfl rfl (ly_S h_shape) rfl (Nat.le_of_ble_eq_true rfl) (Nat.le_of_ble_eq_true rfl) (Nat.le_of_ble_eq_true rfl) (Nat.le_of_ble_eq_true rfl) ?_
        refine z_st (st' := [zv x_34]) rfl ?_
        rcases if_e H with ⟨h_35, H⟩ | ⟨h_35, H⟩
        · refine z_zne_t (M := M_X3_listRims) (tgt := 120) dX3_listRims_55 (by decide) h_35 ?_
          exact J_58 _ _ (Option.some.inj H).symm
        · refine z_zne_f (M := M_X3_listRims) (tgt := 120) dX3_listRims_55 (by decide) h_35 ?_
          refine z_iload_n (M := M_X3_listRims) dX3_listRims_58 rfl ?_
          refine z_iconst (M := M_X3_listRims) dX3_listRims_59 ?_
          refine z_iadd (M := M_X3_listRims) dX3_listRims_60 ?_
          refine z_aload_n (M := M_X3_listRims) dX3_listRims_61 rfl ?_
          refine z_getR (M := M_X3_listRims) (ci := 6) (C := RX3) (T := TX3) (Nf := 12) (ty := tyX3) cl6 dX3_listRims_62 ly_222 2 (by decide) t_444 rfl ?_
          refine z_alen (M := M_X3_listRims) (N := 512) dX3_listRims_65 ly_230 (by decide) rfl ?_
          rcases if_e H with ⟨h_37, H⟩ | ⟨h_37, H⟩
          · refine z_icmp_ge_f (M := M_X3_listRims) (tgt := 120) dX3_listRims_66 (by decide) rfl (by decide +kernel) h_37 ?_
            refine z_aload_n (M := M_X3_listRims) dX3_listRims_69 rfl ?_
            refine z_getR (M := M_X3_listRims) (ci := 6) (C := RX3) (T := TX3) (Nf := 12) (ty := tyX3) cl6 dX3_listRims_70 ly_222 2 (by decide) t_444 rfl ?_
            refine z_iload_n (M := M_X3_listRims) dX3_listRims_73 rfl ?_
            refine z_aload_n (M := M_X3_listRims) dX3_listRims_74 rfl ?_
            refine z_getR (M := M_X3_listRims) (ci := 9) (C := RX6) (T := TX6) (Nf := 5) (ty := tyX6) cl9 dX3_listRims_75 (ly_S h_shape) 1 (by decide) t_62 rfl ?_
            refine z_iload (M := M_X3_listRims) dX3_listRims_78 rfl ?_
            obtain ⟨x_38, x_38_e, hi_39, H⟩ := rd_e H
            refine z_iald (M := M_X3_listRims) dX3_listRims_80 (ly_Sx h_shape) rfl rfl rfl hi_39 x_38_e ?_
            refine z_aload_n (M := M_X3_listRims) dX3_listRims_81 rfl ?_
            refine z_getR (M := M_X3_listRims) (ci := 9) (C := RX6) (T := TX6) (Nf := 5) (ty := tyX6) cl9 dX3_listRims_82 (ly_S h_shape) 2 (by decide) t_69 rfl ?_
            refine z_iload (M := M_X3_listRims) dX3_listRims_85 rfl ?_
            obtain ⟨x_40, x_40_e, hi_41, H⟩ := rd_e H
            refine z_iald (M := M_X3_listRims) dX3_listRims_87 (ly_Sy h_shape) rfl rfl rfl hi_41 x_40_e ?_
            refine z_callSN (M := M_X3_listRims) (M' := M_X11_keyOf) (as := [vi x_38, vi x_40]) (rest := [vi size_4, vr 230]) rfl rfl dX3_listRims_88 m_X11_keyOf n_1925 t_1426 (c_X11_keyOf hl  rfl) rfl rfl (Nat.le_of_ble_eq_true rfl) (Nat.le_of_ble_eq_true rfl) (Nat.le_of_ble_eq_true rfl) (Nat.le_of_ble_eq_true rfl) ?_
            refine z_st (st' := [vl (fQ_keyOf x_38 x_40), vi size_4, vr 230]) rfl ?_
            obtain ⟨σ_42, σ_42_e, hi_43, H⟩ := wa_e H
            refine z_last (M := M_X3_listRims) dX3_listRims_91 ly_230 rfl rfl rfl hi_43 σ_42_e ?_
            refine z_aload_n (M := M_X3_listRims) dX3_listRims_92 rfl ?_
            refine z_getR (M := M_X3_listRims) (ci := 6) (C := RX3) (T := TX3) (Nf := 12) (ty := tyX3) cl6 dX3_listRims_93 ly_222 2 (by decide) t_444 rfl ?_
            refine z_iload_n (M := M_X3_listRims) dX3_listRims_96 rfl ?_
            refine z_iconst (M := M_X3_listRims) dX3_listRims_97 ?_
            refine z_iadd (M := M_X3_listRims) dX3_listRims_98 ?_
            refine z_aload_n (M := M_X3_listRims) dX3_listRims_99 rfl ?_
            refine z_getR (M := M_X3_listRims) (ci := 9) (C := RX6) (T := TX6) (Nf := 5) (ty := tyX6) cl9 dX3_listRims_100 (ly_S h_shape) 1 (by decide) t_62 rfl ?_
            refine z_iload (M := M_X3_listRims) dX3_listRims_103 rfl ?_
            obtain ⟨x_44, x_44_e, hi_45, H⟩ := rd_e H
            refine z_iald (M := M_X3_listRims) dX3_listRims_105 (ly_Sx h_shape) rfl rfl rfl hi_45 x_44_e ?_
            refine z_aload_n (M := M_X3_listRims) dX3_listRims_106 rfl ?_
            refine z_getR (M := M_X3_listRims) (ci := 9) (C := RX6) (T := TX6) (Nf := 5) (ty := tyX6) cl9 dX3_listRims_107 (ly_S h_shape) 2 (by decide) t_69 rfl ?_
            refine z_iload (M := M_X3_listRims) dX3_listRims_110 rfl ?_
            obtain ⟨x_46, x_46_e, hi_47, H⟩ := rd_e H
            refine z_iald (M := M_X3_listRims) dX3_listRims_112 (ly_Sy h_shape) rfl rfl rfl hi_47 x_46_e ?_
            refine z_callSN (M := M_X3_listRims) (M' := M_X11_keyOf) (as := [vi x_44, vi x_46]) (rest := [vi (size_4 + 1), vr 230]) rfl rfl dX3_listRims_113 m_X11_keyOf n_1925 t_1426 (c_X11_keyOf hl  rfl) rfl rfl (Nat.le_of_ble_eq_true rfl) (Nat.le_of_ble_eq_true rfl) (Nat.le_of_ble_eq_true rfl) (Nat.le_of_ble_eq_true rfl) ?_
            refine z_st (st' := [vl (fQ_keyOf x_44 x_46), vi (size_4 + 1), vr 230]) rfl ?_
            obtain ⟨σ_48, σ_48_e, hi_49, H⟩ := wa_e H
            refine z_last (M := M_X3_listRims) dX3_listRims_116 ly_230 rfl rfl rfl hi_49 σ_48_e ?_
            refine z_iinc (M := M_X3_listRims) (lv' := [some (vr 222), some (vr shape_0), some (vi owner_0), some (vi (size_4 + 2)), some (vi from_5), some (vi at_6), some (vi ((from_5 + x_17) - 1))]) dX3_listRims_117 rfl (Nat.le_of_ble_eq_true rfl) rfl rfl ?_
            exact J_58 _ _ (Option.some.inj H).symm
          · refine z_icmp_ge_t (M := M_X3_listRims) (tgt := 120) dX3_listRims_66 (by decide) rfl (by decide +kernel) (Int.not_lt.mp h_37) ?_
            exact J_58 _ _ (Option.some.inj H).symm
      · refine z_icmp_le_t (M := M_X3_listRims) (tgt := 120) dX3_listRims_44 (by decide) rfl rfl (Int.not_lt.mp h_32) ?_
        exact J_58 _ _ (Option.some.inj H).symm
    · refine z_icmp_ge_t (M := M_X3_listRims) (tgt := 137) dX3_listRims_24 (by decide) rfl rfl (Int.not_lt.mp h_15) ?_
      exact J_163 _ _ _ _ (K_14 _ (Option.some.inj H).symm).symm
  · refine z_zne_f (M := M_X3_listRims) (tgt := 8) dX3_listRims_4 (by decide) h_3 ?_
    cases H
    exact z_vret (M := M_X3_listRims) dX3_listRims_7 rfl (Nat.le_of_ble_eq_true rfl) (Nat.le_of_ble_eq_true rfl) ⟨rfl, rfl⟩
theorem c_X3_fillMatrix (hl : l.stackTraces = false) {σ : SG} {one_0 : Nat} {two_0 : Nat} {r : Bool} {σ' : SG} (h_one : isS one_0) (h_two : isS two_0) (H : fT_fillMatrix σ one_0 two_0 = some (r, σ')) : en_S l E M_X3_fillMatrix 8 0 0 [vr 222, vr one_0, vr two_0] σ (pS (some (zv r)) σ') := by
  unfold fT_fillMatrix at H
  refine z_mk (lv := [some (vr 222), some (vr one_0), some (vr two_0), none, none]) m_X3_fillMatrix rfl hl (Nat.le_of_ble_eq_true rfl) rfl ?_
  refine z_aload_n (M := M_X3_fillMatrix) dX3_fillMatrix_0 rfl ?_
  refine z_getR (M := M_X3_fillMatrix) (ci := 6) (C := RX3) (T := TX3) (Nf := 12) (ty := tyX3) cl6 dX3_fillMatrix_1 ly_222 0 (by decide) t_442 rfl ?_
  refine z_iconst (M := M_X3_fillMatrix) dX3_fillMatrix_4 ?_
  obtain ⟨σ_1, σ_1_e, H⟩ := wf_e H
  refine z_putI (M := M_X3_fillMatrix) (ci := 8) (C := RX5) (T := TX5) (Nf := 8) (ty := tyX5) cl8 dX3_fillMatrix_5 (ly_G (by decide)) 5 (by decide) t_257 rfl rfl rfl rfl σ_1_e ?_
  refine z_aload_n (M := M_X3_fillMatrix) dX3_fillMatrix_8 rfl ?_
  obtain ⟨x_27, hc_26, H⟩ := bd_e H
  refine z_callS (M := M_X3_fillMatrix) (M' := M_X3_hasTooManyParts) (as := [vr one_0]) (rest := []) rfl rfl dX3_fillMatrix_9 m_X3_hasTooManyParts t_1890 t_1891 (c_X3_hasTooManyParts hl h_one hc_26) rfl rfl (Nat.le_of_ble_eq_true rfl) (Nat.le_of_ble_eq_true rfl) (Nat.le_of_ble_eq_true rfl) (Nat.le_of_ble_eq_true rfl) ?_
  refine z_st (st' := [zv x_27]) rfl ?_
  rcases if_e H with ⟨h_28, H⟩ | ⟨h_28, H⟩
  · refine z_zne_t (M := M_X3_fillMatrix) (tgt := 47) dX3_fillMatrix_12 (by decide) h_28 ?_
    refine z_zconst (M := M_X3_fillMatrix) (b := false) dX3_fillMatrix_47 rfl ?_
    cases H
    exact z_zret (M := M_X3_fillMatrix) dX3_fillMatrix_48 rfl (Nat.le_of_ble_eq_true rfl) (Nat.le_of_ble_eq_true rfl) ⟨rfl, rfl⟩
  · refine z_zne_f (M := M_X3_fillMatrix) (tgt := 47) dX3_fillMatrix_12 (by decide) h_28 ?_
    refine z_aload_n (M := M_X3_fillMatrix) dX3_fillMatrix_15 rfl ?_
    obtain ⟨x_30, hc_29, H⟩ := bd_e H
    refine z_callS (M := M_X3_fillMatrix) (M' := M_X3_hasTooManyParts) (as := [vr two_0]) (rest := []) rfl rfl dX3_fillMatrix_16 m_X3_hasTooManyParts t_1890 t_1891 (c_X3_hasTooManyParts hl h_two hc_29) rfl rfl (Nat.le_of_ble_eq_true rfl) (Nat.le_of_ble_eq_true rfl) (Nat.le_of_ble_eq_true rfl) (Nat.le_of_ble_eq_true rfl) ?_
    refine z_st (st' := [zv x_30]) rfl ?_
    rcases if_e H with ⟨h_31, H⟩ | ⟨h_31, H⟩
    · refine z_zne_t (M := M_X3_fillMatrix) (tgt := 47) dX3_fillMatrix_19 (by decide) h_31 ?_
      refine z_zconst (M := M_X3_fillMatrix) (b := false) dX3_fillMatrix_47 rfl ?_
      cases H
      exact z_zret (M := M_X3_fillMatrix) dX3_fillMatrix_48 rfl (Nat.le_of_ble_eq_true rfl) (Nat.le_of_ble_eq_true rfl) ⟨rfl, rfl⟩
    · refine z_zne_f (M := M_X3_fillMatrix) (tgt := 47) dX3_fillMatrix_19 (by decide) h_31 ?_
      refine z_aload_n (M := M_X3_fillMatrix) dX3_fillMatrix_22 rfl ?_
      refine z_aload_n (M := M_X3_fillMatrix) dX3_fillMatrix_23 rfl ?_
      refine z_iconst (M := M_X3_fillMatrix) dX3_fillMatrix_24 ?_
      obtain ⟨⟨x_34, σ_33⟩, hc_32, H⟩ := bd_e H
      refine z_callV (M := M_X3_fillMatrix) (M' := M_X3_collect) (as := [vr one_0, vi 0]) (rest := []) rfl rfl dX3_fillMatrix_25 m_X3_collect t_1899 t_1901 s_105 (c_X3_collect hl h_one hc_32) rfl rfl ly_222 rfl (Nat.le_of_ble_eq_true rfl) (Nat.le_of_ble_eq_true rfl) (Nat.le_of_ble_eq_true rfl) (Nat.le_of_ble_eq_true rfl) ?_
      refine z_st (st' := [zv x_34]) rfl ?_
      rcases if_e H with ⟨h_35, H⟩ | ⟨h_35, H⟩
      · refine z_zeq_f (M := M_X3_fillMatrix) (tgt := 47) dX3_fillMatrix_28 (by decide) h_35 ?_
        refine z_aload_n (M := M_X3_fillMatrix) dX3_fillMatrix_31 rfl ?_
        refine z_aload_n (M := M_X3_fillMatrix) dX3_fillMatrix_32 rfl ?_
        refine z_iconst (M := M_X3_fillMatrix) dX3_fillMatrix_33 ?_
        obtain ⟨⟨x_38, σ_37⟩, hc_36, H⟩ := bd_e H
        refine z_callV (M := M_X3_fillMatrix) (M' := M_X3_collect) (as := [vr two_0, vi 1]) (rest := []) rfl rfl dX3_fillMatrix_34 m_X3_collect t_1899 t_1901 s_105 (c_X3_collect hl h_two hc_36) rfl rfl ly_222 rfl (Nat.le_of_ble_eq_true rfl) (Nat.le_of_ble_eq_true rfl) (Nat.le_of_ble_eq_true rfl) (Nat.le_of_ble_eq_true rfl) ?_
        refine z_st (st' := [zv x_38]) rfl ?_
        rcases if_e H with ⟨h_39, H⟩ | ⟨h_39, H⟩
        · refine z_zeq_f (M := M_X3_fillMatrix) (tgt := 47) dX3_fillMatrix_37 (by decide) h_39 ?_
          refine z_aload_n (M := M_X3_fillMatrix) dX3_fillMatrix_40 rfl ?_
          obtain ⟨⟨x_42, σ_41⟩, hc_40, H⟩ := bd_e H
          refine z_callV (M := M_X3_fillMatrix) (M' := M_X3_hasTooManyMeetings) (as := []) (rest := []) rfl rfl dX3_fillMatrix_41 m_X3_hasTooManyMeetings t_1909 t_1911 s_106 (c_X3_hasTooManyMeetings hl  hc_40) rfl rfl ly_222 rfl (Nat.le_of_ble_eq_true rfl) (Nat.le_of_ble_eq_true rfl) (Nat.le_of_ble_eq_true rfl) (Nat.le_of_ble_eq_true rfl) ?_
          refine z_st (st' := [zv x_42]) rfl ?_
          rcases if_e H with ⟨h_43, H⟩ | ⟨h_43, H⟩
          · refine z_zeq_f (M := M_X3_fillMatrix) (tgt := 49) dX3_fillMatrix_44 (by decide) h_43 ?_
            refine z_zconst (M := M_X3_fillMatrix) (b := false) dX3_fillMatrix_47 rfl ?_
            cases H
            exact z_zret (M := M_X3_fillMatrix) dX3_fillMatrix_48 rfl (Nat.le_of_ble_eq_true rfl) (Nat.le_of_ble_eq_true rfl) ⟨rfl, rfl⟩
          · refine z_zeq_t (M := M_X3_fillMatrix) (tgt := 49) dX3_fillMatrix_44 (by decide) h_43 ?_
            refine z_getsN (M := M_X3_fillMatrix) dX3_fillMatrix_49 t_1914 ?_
            refine z_iconst (M := M_X3_fillMatrix) dX3_fillMatrix_52 ?_
            refine z_aload_n (M := M_X3_fillMatrix) dX3_fillMatrix_53 rfl ?_
            refine z_getR (M := M_X3_fillMatrix) (ci := 6) (C := RX3) (T := TX3) (Nf := 12) (ty := tyX3) cl6 dX3_fillMatrix_54 ly_222 1 (by decide) t_443 rfl ?_
            refine z_iconst (M := M_X3_fillMatrix) dX3_fillMatrix_57 ?_
            refine z_aload_n (M := M_X3_fillMatrix) dX3_fillMatrix_58 rfl ?_
            refine z_getR (M := M_X3_fillMatrix) (ci := 6) (C := RX3) (T := TX3) (Nf := 12) (ty := tyX3) cl6 dX3_fillMatrix_59 ly_222 1 (by decide) t_443 rfl ?_
            refine z_alen (M := M_X3_fillMatrix) (N := 9) dX3_fillMatrix_62 ly_229 (by decide) rfl ?_
            obtain ⟨σ_44, σ_44_e, H⟩ := lt_e H
            refine z_acopyN (M := M_X3_fillMatrix) dX3_fillMatrix_63 t_1916 t_630 t_629 t_21 ly_229 rfl σ_44_e.symm (Nat.le_of_ble_eq_true rfl) (Nat.le_of_ble_eq_true rfl) ?_
            refine z_aload_n (M := M_X3_fillMatrix) dX3_fillMatrix_66 rfl ?_
            refine z_iconst (M := M_X3_fillMatrix) dX3_fillMatrix_67 ?_
            obtain ⟨σ_45, σ_45_e, H⟩ := wf_e H
            refine z_putI (M := M_X3_fillMatrix) (ci := 6) (C := RX3) (T := TX3) (Nf := 12) (ty := tyX3) cl6 dX3_fillMatrix_68 ly_222 6 (by decide) t_448 rfl rfl rfl rfl σ_45_e ?_
            refine z_aload_n (M := M_X3_fillMatrix) dX3_fillMatrix_71 rfl ?_
            refine z_aload_n (M := M_X3_fillMatrix) dX3_fillMatrix_72 rfl ?_
            refine z_iconst (M := M_X3_fillMatrix) dX3_fillMatrix_73 ?_
            obtain ⟨σ_47, hc_46, H⟩ := bd_e H
            refine z_callV (M := M_X3_fillMatrix) (M' := M_X3_listRims) (as := [vr one_0, vi 0]) (rest := []) rfl rfl dX3_fillMatrix_74 m_X3_listRims t_1917 t_1919 s_107 (c_X3_listRims hl h_one hc_46) rfl rfl ly_222 rfl (Nat.le_of_ble_eq_true rfl) (Nat.le_of_ble_eq_true rfl) (Nat.le_of_ble_eq_true rfl) (Nat.le_of_ble_eq_true rfl) ?_
            refine z_st (st' := []) rfl ?_
            refine z_aload_n (M := M_X3_fillMatrix) dX3_fillMatrix_77 rfl ?_
            refine z_aload_n (M := M_X3_fillMatrix) dX3_fillMatrix_78 rfl ?_
            refine z_iconst (M := M_X3_fillMatrix) dX3_fillMatrix_79 ?_
            obtain ⟨σ_49, hc_48, H⟩ := bd_e H
            refine z_callV (M := M_X3_fillMatrix) (M' := M_X3_listRims) (as := [vr two_0, vi 1]) (rest := []) rfl rfl dX3_fillMatrix_80 m_X3_listRims t_1917 t_1919 s_107 (c_X3_listRims hl h_two hc_48) rfl rfl ly_222 rfl (Nat.le_of_ble_eq_true rfl) (Nat.le_of_ble_eq_true rfl) (Nat.le_of_ble_eq_true rfl) (Nat.le_of_ble_eq_true rfl) ?_
            refine z_st (st' := []) rfl ?_
            refine z_iconst (M := M_X3_fillMatrix) dX3_fillMatrix_83 ?_
            refine z_istore_n (M := M_X3_fillMatrix) (lv' := [some (vr 222), some (vr one_0), some (vr two_0), some (vi 0), none]) dX3_fillMatrix_84 (Nat.le_of_ble_eq_true rfl) rfl rfl ?_
            obtain ⟨rl_55, hw_52, hk_53⟩ := bd_e H
            have J_137 : ∀ i_64 σ_65, rl_55 = (i_64, σ_65) → YY l E M_X3_fillMatrix 8 0 0 (pS (some (zv r)) σ') 109 [some (vr 222), some (vr one_0), some (vr two_0), some (vi i_64), none] [] σ_65 0 0 := by
              intro i_64 σ_65 e
              have H := hk_53
              rw [e] at H
              refine z_aload_n (M := M_X3_fillMatrix) dX3_fillMatrix_109 rfl ?_
              refine z_aload_n (M := M_X3_fillMatrix) dX3_fillMatrix_110 rfl ?_
              refine z_aload_n (M := M_X3_fillMatrix) dX3_fillMatrix_111 rfl ?_
              obtain ⟨σ_67, hc_66, H⟩ := bd_e H
              refine z_callV (M := M_X3_fillMatrix) (M' := M_X3_addMeetings) (as := [vr one_0, vr two_0]) (rest := []) rfl rfl dX3_fillMatrix_112 m_X3_addMeetings t_2007 t_2009 s_120 (c_X3_addMeetings hl h_one h_two hc_66) rfl rfl ly_222 rfl (Nat.le_of_ble_eq_true rfl) (Nat.le_of_ble_eq_true rfl) (Nat.le_of_ble_eq_true rfl) (Nat.le_of_ble_eq_true rfl) ?_
              refine z_st (st' := []) rfl ?_
              refine z_iconst (M := M_X3_fillMatrix) dX3_fillMatrix_115 ?_
              refine z_istore_n (M := M_X3_fillMatrix) (lv' := [some (vr 222), some (vr one_0), some (vr two_0), some (vi 0), none]) dX3_fillMatrix_116 (Nat.le_of_ble_eq_true rfl) rfl rfl ?_
              obtain ⟨rl_73, hw_70, hk_71⟩ := bd_e H
              have J_136 : ∀ k_132 σ_133, rl_73 = (k_132, σ_133) → YY l E M_X3_fillMatrix 8 0 0 (pS (some (zv r)) σ') 202 [some (vr 222), some (vr one_0), some (vr two_0), some (vi k_132), none] [] σ_133 0 0 := by
                intro k_132 σ_133 e
                have H := hk_71
                rw [e] at H
                refine z_aload_n (M := M_X3_fillMatrix) dX3_fillMatrix_202 rfl ?_
                refine z_aload_n (M := M_X3_fillMatrix) dX3_fillMatrix_203 rfl ?_
                refine z_aload_n (M := M_X3_fillMatrix) dX3_fillMatrix_204 rfl ?_
                obtain ⟨σ_135, hc_134, H⟩ := bd_e H
                refine z_callV (M := M_X3_fillMatrix) (M' := M_X3_addPoints) (as := [vr one_0, vr two_0]) (rest := []) rfl rfl dX3_fillMatrix_205 m_X3_addPoints t_2027 t_2029 s_122 (c_X3_addPoints hl h_one h_two hc_134) rfl rfl ly_222 rfl (Nat.le_of_ble_eq_true rfl) (Nat.le_of_ble_eq_true rfl) (Nat.le_of_ble_eq_true rfl) (Nat.le_of_ble_eq_true rfl) ?_
                refine z_st (st' := []) rfl ?_
                refine z_zconst (M := M_X3_fillMatrix) (b := true) dX3_fillMatrix_208 rfl ?_
                cases H
                exact z_zret (M := M_X3_fillMatrix) dX3_fillMatrix_209 rfl (Nat.le_of_ble_eq_true rfl) (Nat.le_of_ble_eq_true rfl) ⟨rfl, rfl⟩
              refine whl_go hw_70 (fun (k_68, σ_69) => YY l E M_X3_fillMatrix 8 0 0 (pS (some (zv r)) σ') 117 [some (vr 222), some (vr one_0), some (vr two_0), some (vi k_68), none] [] σ_69 0 0) ?_
              rintro ⟨k_68, σ_69⟩ o_74 H K_75 K_76
              refine z_iload_n (M := M_X3_fillMatrix) dX3_fillMatrix_117 rfl ?_
              refine z_aload_n (M := M_X3_fillMatrix) dX3_fillMatrix_118 rfl ?_
              refine z_getI (M := M_X3_fillMatrix) (ci := 6) (C := RX3) (T := TX3) (Nf := 12) (ty := tyX3) cl6 dX3_fillMatrix_119 ly_222 6 (by decide) t_448 rfl rfl ?_
              rcases if_e H with ⟨h_77, H⟩ | ⟨h_77, H⟩
              · refine z_icmp_ge_f (M := M_X3_fillMatrix) (tgt := 202) dX3_fillMatrix_122 (by decide) rfl rfl h_77 ?_
                obtain ⟨v_127, he_128, hk_129⟩ := bd_e H
                have J_130 : ∀ x_83, v_127 = x_83 → YY l E M_X3_fillMatrix 8 0 0 (pS (some (zv r)) σ') 139 [some (vr 222), some (vr one_0), some (vr two_0), some (vi k_68), none] [zv x_83] σ_69 0 0 := by
                  intro x_83 e
                  have H := hk_129
                  rw [e] at H
                  refine z_zstore (M := M_X3_fillMatrix) (lv' := [some (vr 222), some (vr one_0), some (vr two_0), some (vi k_68), some (zv x_83)]) dX3_fillMatrix_139 (Nat.le_of_ble_eq_true rfl) rfl rfl ?_
                  refine z_aload_n (M := M_X3_fillMatrix) dX3_fillMatrix_141 rfl ?_
                  obtain ⟨v_123, he_124, hk_125⟩ := bd_e H
                  have J_126 : ∀ x_99, v_123 = x_99 → YY l E M_X3_fillMatrix 8 0 0 (pS (some (zv r)) σ') 167 [some (vr 222), some (vr one_0), some (vr two_0), some (vi k_68), some (zv x_83)] [vi x_99, vr 222] σ_69 0 0 := by
                    intro x_99 e
                    have H := hk_125
                    rw [e] at H
                    obtain ⟨v_119, he_120, hk_121⟩ := bd_e H
                    have J_122 : ∀ x_115, v_119 = x_115 → YY l E M_X3_fillMatrix 8 0 0 (pS (some (zv r)) σ') 192 [some (vr 222), some (vr one_0), some (vr two_0), some (vi k_68), some (zv x_83)] [vi x_115, vi x_99, vr 222] σ_69 0 0 := by
                      intro x_115 e
                      have H := hk_121
                      rw [e] at H
                      refine z_iconst (M := M_X3_fillMatrix) dX3_fillMatrix_192 ?_
                      obtain ⟨σ_117, hc_116, H⟩ := bd_e H
                      refine z_callV (M := M_X3_fillMatrix) (M' := M_X3_raise) (as := [vi x_99, vi x_115, vi 0]) (rest := []) rfl rfl dX3_fillMatrix_193 m_X3_raise t_1998 t_2000 s_118 (c_X3_raise hl  hc_116) rfl rfl ly_222 rfl (Nat.le_of_ble_eq_true rfl) (Nat.le_of_ble_eq_true rfl) (Nat.le_of_ble_eq_true rfl) (Nat.le_of_ble_eq_true rfl) ?_
                      refine z_st (st' := []) rfl ?_
                      refine z_iinc (M := M_X3_fillMatrix) (lv' := [some (vr 222), some (vr one_0), some (vr two_0), some (vi (k_68 + 1)), some (zv x_83)]) dX3_fillMatrix_196 rfl (Nat.le_of_ble_eq_true rfl) rfl rfl ?_
                      refine z_goto (M := M_X3_fillMatrix) (tgt := 117) dX3_fillMatrix_199 (by decide) ?_
                      refine z_le (lv' := [some (vr 222), some (vr one_0), some (vr two_0), some (vi (k_68 + 1)), none]) ⟨Or.inr rfl, Or.inr rfl, Or.inr rfl, Or.inr rfl, Or.inl rfl, trivial⟩ ?_
                      exact K_75 _ (Option.some.inj H).symm
                    have H := he_120
                    refine z_zload (M := M_X3_fillMatrix) dX3_fillMatrix_167 rfl ?_
                    rcases if_e H with ⟨h_106, H⟩ | ⟨h_106, H⟩
                    · refine z_zeq_f (M := M_X3_fillMatrix) (tgt := 191) dX3_fillMatrix_169 (by decide) h_106 ?_
                      refine z_aload_n (M := M_X3_fillMatrix) dX3_fillMatrix_172 rfl ?_
                      refine z_aload_n (M := M_X3_fillMatrix) dX3_fillMatrix_173 rfl ?_
                      refine z_getR (M := M_X3_fillMatrix) (ci := 6) (C := RX3) (T := TX3) (Nf := 12) (ty := tyX3) cl6 dX3_fillMatrix_174 ly_222 3 (by decide) t_445 rfl ?_
                      refine z_iload_n (M := M_X3_fillMatrix) dX3_fillMatrix_177 rfl ?_
                      obtain ⟨x_107, x_107_e, hi_108, H⟩ := rd_e H
                      refine z_iald (M := M_X3_fillMatrix) dX3_fillMatrix_178 ly_231 rfl rfl rfl hi_108 x_107_e ?_
                      refine z_aload_n (M := M_X3_fillMatrix) dX3_fillMatrix_179 rfl ?_
                      refine z_getR (M := M_X3_fillMatrix) (ci := 6) (C := RX3) (T := TX3) (Nf := 12) (ty := tyX3) cl6 dX3_fillMatrix_180 ly_222 4 (by decide) t_446 rfl ?_
                      refine z_iload_n (M := M_X3_fillMatrix) dX3_fillMatrix_183 rfl ?_
                      obtain ⟨x_109, x_109_e, hi_110, H⟩ := rd_e H
                      refine z_iald (M := M_X3_fillMatrix) dX3_fillMatrix_184 ly_232 rfl rfl rfl hi_110 x_109_e ?_
                      obtain ⟨x_112, hc_111, H⟩ := bd_e H
                      refine z_callS (M := M_X3_fillMatrix) (M' := M_X3_whereIs) (as := [vr two_0, vi x_107, vi x_109]) (rest := [vi x_99, vr 222]) rfl rfl dX3_fillMatrix_185 m_X3_whereIs t_2015 t_2016 (c_X3_whereIs hl h_two hc_111) rfl rfl (Nat.le_of_ble_eq_true rfl) (Nat.le_of_ble_eq_true rfl) (Nat.le_of_ble_eq_true rfl) (Nat.le_of_ble_eq_true rfl) ?_
                      refine z_st (st' := [vi x_112, vi x_99, vr 222]) rfl ?_
                      refine z_goto (M := M_X3_fillMatrix) (tgt := 192) dX3_fillMatrix_188 (by decide) ?_
                      exact J_122 _ (Option.some.inj H).symm
                    · refine z_zeq_t (M := M_X3_fillMatrix) (tgt := 191) dX3_fillMatrix_169 (by decide) h_106 ?_
                      refine z_iconst (M := M_X3_fillMatrix) dX3_fillMatrix_191 ?_
                      exact J_122 _ (Option.some.inj H).symm
                  have H := he_124
                  refine z_zload (M := M_X3_fillMatrix) dX3_fillMatrix_142 rfl ?_
                  rcases if_e H with ⟨h_90, H⟩ | ⟨h_90, H⟩
                  · refine z_zeq_f (M := M_X3_fillMatrix) (tgt := 151) dX3_fillMatrix_144 (by decide) h_90 ?_
                    refine z_iconst (M := M_X3_fillMatrix) dX3_fillMatrix_147 ?_
                    refine z_goto (M := M_X3_fillMatrix) (tgt := 167) dX3_fillMatrix_148 (by decide) ?_
                    exact J_126 _ (Option.some.inj H).symm
                  · refine z_zeq_t (M := M_X3_fillMatrix) (tgt := 151) dX3_fillMatrix_144 (by decide) h_90 ?_
                    refine z_aload_n (M := M_X3_fillMatrix) dX3_fillMatrix_151 rfl ?_
                    refine z_aload_n (M := M_X3_fillMatrix) dX3_fillMatrix_152 rfl ?_
                    refine z_getR (M := M_X3_fillMatrix) (ci := 6) (C := RX3) (T := TX3) (Nf := 12) (ty := tyX3) cl6 dX3_fillMatrix_153 ly_222 3 (by decide) t_445 rfl ?_
                    refine z_iload_n (M := M_X3_fillMatrix) dX3_fillMatrix_156 rfl ?_
                    obtain ⟨x_92, x_92_e, hi_93, H⟩ := rd_e H
                    refine z_iald (M := M_X3_fillMatrix) dX3_fillMatrix_157 ly_231 rfl rfl rfl hi_93 x_92_e ?_
                    refine z_aload_n (M := M_X3_fillMatrix) dX3_fillMatrix_158 rfl ?_
                    refine z_getR (M := M_X3_fillMatrix) (ci := 6) (C := RX3) (T := TX3) (Nf := 12) (ty := tyX3) cl6 dX3_fillMatrix_159 ly_222 4 (by decide) t_446 rfl ?_
                    refine z_iload_n (M := M_X3_fillMatrix) dX3_fillMatrix_162 rfl ?_
                    obtain ⟨x_94, x_94_e, hi_95, H⟩ := rd_e H
                    refine z_iald (M := M_X3_fillMatrix) dX3_fillMatrix_163 ly_232 rfl rfl rfl hi_95 x_94_e ?_
                    obtain ⟨x_97, hc_96, H⟩ := bd_e H
                    refine z_callS (M := M_X3_fillMatrix) (M' := M_X3_whereIs) (as := [vr one_0, vi x_92, vi x_94]) (rest := [vr 222]) rfl rfl dX3_fillMatrix_164 m_X3_whereIs t_2015 t_2016 (c_X3_whereIs hl h_one hc_96) rfl rfl (Nat.le_of_ble_eq_true rfl) (Nat.le_of_ble_eq_true rfl) (Nat.le_of_ble_eq_true rfl) (Nat.le_of_ble_eq_true rfl) ?_
                    refine z_st (st' := [vi x_97, vr 222]) rfl ?_
                    exact J_126 _ (Option.some.inj H).symm
                have H := he_128
                refine z_aload_n (M := M_X3_fillMatrix) dX3_fillMatrix_125 rfl ?_
                refine z_getR (M := M_X3_fillMatrix) (ci := 6) (C := RX3) (T := TX3) (Nf := 12) (ty := tyX3) cl6 dX3_fillMatrix_126 ly_222 5 (by decide) t_447 rfl ?_
                refine z_iload_n (M := M_X3_fillMatrix) dX3_fillMatrix_129 rfl ?_
                obtain ⟨x_78, x_78_e, hi_79, H⟩ := rd_e H
                refine z_iald (M := M_X3_fillMatrix) dX3_fillMatrix_130 ly_233 rfl rfl rfl hi_79 x_78_e ?_
                rcases if_e H with ⟨h_80, H⟩ | ⟨h_80, H⟩
                · refine z_if_ne_f (M := M_X3_fillMatrix) (tgt := 138) dX3_fillMatrix_131 (by decide) rfl h_80 ?_
                  refine z_zconst (M := M_X3_fillMatrix) (b := true) dX3_fillMatrix_134 rfl ?_
                  refine z_goto (M := M_X3_fillMatrix) (tgt := 139) dX3_fillMatrix_135 (by decide) ?_
                  exact J_130 _ (Option.some.inj H).symm
                · refine z_if_ne_t (M := M_X3_fillMatrix) (tgt := 138) dX3_fillMatrix_131 (by decide) rfl h_80 ?_
                  refine z_zconst (M := M_X3_fillMatrix) (b := false) dX3_fillMatrix_138 rfl ?_
                  exact J_130 _ (Option.some.inj H).symm
              · refine z_icmp_ge_t (M := M_X3_fillMatrix) (tgt := 202) dX3_fillMatrix_122 (by decide) rfl rfl (Int.not_lt.mp h_77) ?_
                exact J_136 _ _ (K_76 _ (Option.some.inj H).symm).symm
            refine whl_go hw_52 (fun (i_50, σ_51) => YY l E M_X3_fillMatrix 8 0 0 (pS (some (zv r)) σ') 85 [some (vr 222), some (vr one_0), some (vr two_0), some (vi i_50), none] [] σ_51 0 0) ?_
            rintro ⟨i_50, σ_51⟩ o_56 H K_57 K_58
            refine z_iload_n (M := M_X3_fillMatrix) dX3_fillMatrix_85 rfl ?_
            refine z_aload_n (M := M_X3_fillMatrix) dX3_fillMatrix_86 rfl ?_
            refine z_getR (M := M_X3_fillMatrix) (ci := 6) (C := RX3) (T := TX3) (Nf := 12) (ty := tyX3) cl6 dX3_fillMatrix_87 ly_222 0 (by decide) t_442 rfl ?_
            refine z_getI (M := M_X3_fillMatrix) (ci := 8) (C := RX5) (T := TX5) (Nf := 8) (ty := tyX5) cl8 dX3_fillMatrix_90 (ly_G (by decide)) 5 (by decide) t_257 rfl rfl ?_
            rcases if_e H with ⟨h_59, H⟩ | ⟨h_59, H⟩
            · refine z_icmp_ge_f (M := M_X3_fillMatrix) (tgt := 109) dX3_fillMatrix_93 (by decide) rfl rfl h_59 ?_
              refine z_aload_n (M := M_X3_fillMatrix) dX3_fillMatrix_96 rfl ?_
              refine z_aload_n (M := M_X3_fillMatrix) dX3_fillMatrix_97 rfl ?_
              refine z_aload_n (M := M_X3_fillMatrix) dX3_fillMatrix_98 rfl ?_
              refine z_iload_n (M := M_X3_fillMatrix) dX3_fillMatrix_99 rfl ?_
              obtain ⟨σ_61, hc_60, H⟩ := bd_e H
              refine z_callV (M := M_X3_fillMatrix) (M' := M_X3_addEdges) (as := [vr one_0, vr two_0, vi i_50]) (rest := []) rfl rfl dX3_fillMatrix_100 m_X3_addEdges t_1929 t_1931 s_108 (c_X3_addEdges hl h_one h_two hc_60) rfl rfl ly_222 rfl (Nat.le_of_ble_eq_true rfl) (Nat.le_of_ble_eq_true rfl) (Nat.le_of_ble_eq_true rfl) (Nat.le_of_ble_eq_true rfl) ?_
              refine z_st (st' := []) rfl ?_
              refine z_iinc (M := M_X3_fillMatrix) (lv' := [some (vr 222), some (vr one_0), some (vr two_0), some (vi (i_50 + 1)), none]) dX3_fillMatrix_103 rfl (Nat.le_of_ble_eq_true rfl) rfl rfl ?_
              refine z_goto (M := M_X3_fillMatrix) (tgt := 85) dX3_fillMatrix_106 (by decide) ?_
              exact K_57 _ (Option.some.inj H).symm
            · refine z_icmp_ge_t (M := M_X3_fillMatrix) (tgt := 109) dX3_fillMatrix_93 (by decide) rfl rfl (Int.not_lt.mp h_59) ?_
              exact J_137 _ _ (K_58 _ (Option.some.inj H).symm).symm
        · refine z_zeq_t (M := M_X3_fillMatrix) (tgt := 47) dX3_fillMatrix_37 (by decide) h_39 ?_
          refine z_zconst (M := M_X3_fillMatrix) (b := false) dX3_fillMatrix_47 rfl ?_
          cases H
          exact z_zret (M := M_X3_fillMatrix) dX3_fillMatrix_48 rfl (Nat.le_of_ble_eq_true rfl) (Nat.le_of_ble_eq_true rfl) ⟨rfl, rfl⟩
      · refine z_zeq_t (M := M_X3_fillMatrix) (tgt := 47) dX3_fillMatrix_28 (by decide) h_35 ?_
        refine z_zconst (M := M_X3_fillMatrix) (b := false) dX3_fillMatrix_47 rfl ?_
        cases H
        exact z_zret (M := M_X3_fillMatrix) dX3_fillMatrix_48 rfl (Nat.le_of_ble_eq_true rfl) (Nat.le_of_ble_eq_true rfl) ⟨rfl, rfl⟩
theorem c_X3_matrixNumber (hl : l.stackTraces = false) {σ : SG} {r : Int}  (H : fT_matrixNumber σ = some r) : en_S l E M_X3_matrixNumber 1 0 0 [vr 222] σ (pS (some (vi r)) σ) := by
  unfold fT_matrixNumber at H
  refine z_mk (lv := [some (vr 222), none, none]) m_X3_matrixNumber rfl hl (Nat.le_of_ble_eq_true rfl) rfl ?_
  refine z_iconst (M := M_X3_matrixNumber) dX3_matrixNumber_0 ?_
  refine z_istore_n (M := M_X3_matrixNumber) (lv' := [some (vr 222), some (vi 0), none]) dX3_matrixNumber_1 (Nat.le_of_ble_eq_true rfl) rfl rfl ?_
  refine z_iconst (M := M_X3_matrixNumber) dX3_matrixNumber_2 ?_
  refine z_istore_n (M := M_X3_matrixNumber) (lv' := [some (vr 222), some (vi 0), some (vi 0)]) dX3_matrixNumber_3 (Nat.le_of_ble_eq_true rfl) rfl rfl ?_
  obtain ⟨rl_6, hw_3, hk_4⟩ := bd_e H
  have J_17 : ∀ value_15 at_16, rl_6 = (value_15, at_16) → YY l E M_X3_matrixNumber 1 0 0 (pS (some (vi r)) σ) 32 [some (vr 222), some (vi value_15), some (vi at_16)] [] σ 0 0 := by
    intro value_15 at_16 e
    have H := hk_4
    rw [e] at H
    refine z_iload_n (M := M_X3_matrixNumber) dX3_matrixNumber_32 rfl ?_
    cases H
    exact z_iret (M := M_X3_matrixNumber) dX3_matrixNumber_33 rfl (Nat.le_of_ble_eq_true rfl) (Nat.le_of_ble_eq_true rfl) ⟨rfl, rfl⟩
  refine whl_go hw_3 (fun (value_1, at_2) => YY l E M_X3_matrixNumber 1 0 0 (pS (some (vi r)) σ) 4 [some (vr 222), some (vi value_1), some (vi at_2)] [] σ 0 0) ?_
  rintro ⟨value_1, at_2⟩ o_7 H K_8 K_9
  refine z_iload_n (M := M_X3_matrixNumber) dX3_matrixNumber_4 rfl ?_
  refine z_aload_n (M := M_X3_matrixNumber) dX3_matrixNumber_5 rfl ?_
  refine z_getR (M := M_X3_matrixNumber) (ci := 6) (C := RX3) (T := TX3) (Nf := 12) (ty := tyX3) cl6 dX3_matrixNumber_6 ly_222 1 (by decide) t_443 rfl ?_
  refine z_alen (M := M_X3_matrixNumber) (N := 9) dX3_matrixNumber_9 ly_229 (by decide) rfl ?_
  rcases if_e H with ⟨h_10, H⟩ | ⟨h_10, H⟩
  · refine z_icmp_ge_f (M := M_X3_matrixNumber) (tgt := 32) dX3_matrixNumber_10 (by decide) rfl (by decide +kernel) h_10 ?_
    refine z_iconst (M := M_X3_matrixNumber) dX3_matrixNumber_13 ?_
    refine z_iload_n (M := M_X3_matrixNumber) dX3_matrixNumber_14 rfl ?_
    refine z_imul (M := M_X3_matrixNumber) dX3_matrixNumber_15 ?_
    refine z_aload_n (M := M_X3_matrixNumber) dX3_matrixNumber_16 rfl ?_
    refine z_getR (M := M_X3_matrixNumber) (ci := 6) (C := RX3) (T := TX3) (Nf := 12) (ty := tyX3) cl6 dX3_matrixNumber_17 ly_222 1 (by decide) t_443 rfl ?_
    refine z_iload_n (M := M_X3_matrixNumber) dX3_matrixNumber_20 rfl ?_
    obtain ⟨x_11, x_11_e, hi_12, H⟩ := rd_e H
    refine z_iald (M := M_X3_matrixNumber) dX3_matrixNumber_21 ly_229 rfl rfl rfl hi_12 x_11_e ?_
    refine z_iadd (M := M_X3_matrixNumber) dX3_matrixNumber_22 ?_
    refine z_iconst (M := M_X3_matrixNumber) dX3_matrixNumber_23 ?_
    refine z_iadd (M := M_X3_matrixNumber) dX3_matrixNumber_24 ?_
    refine z_istore_n (M := M_X3_matrixNumber) (lv' := [some (vr 222), some (vi (((4 * value_1) + x_11) + 1)), some (vi at_2)]) dX3_matrixNumber_25 (Nat.le_of_ble_eq_true rfl) rfl rfl ?_
    refine z_iinc (M := M_X3_matrixNumber) (lv' := [some (vr 222), some (vi (((4 * value_1) + x_11) + 1)), some (vi (at_2 + 1))]) dX3_matrixNumber_26 rfl (Nat.le_of_ble_eq_true rfl) rfl rfl ?_
    refine z_goto (M := M_X3_matrixNumber) (tgt := 4) dX3_matrixNumber_29 (by decide) ?_
    exact K_8 _ (Option.some.inj H).symm
  · refine z_icmp_ge_t (M := M_X3_matrixNumber) (tgt := 32) dX3_matrixNumber_10 (by decide) rfl (by decide +kernel) (Int.not_lt.mp h_10) ?_
    exact J_17 _ _ (K_9 _ (Option.some.inj H).symm).symm
theorem c_X11_canBeRelated (hl : l.stackTraces = false) {σ : SG} {shape_0 : Nat} {r : Bool} (h_shape : isS shape_0) (H : fQ_canBeRelated σ shape_0 = some r) : en_S l E M_X11_canBeRelated 3 0 0 [vr shape_0] σ (pS (some (zv r)) σ) := by
  unfold fQ_canBeRelated at H
  refine z_mk (lv := [some (vr shape_0)]) m_X11_canBeRelated rfl hl (Nat.le_of_ble_eq_true rfl) rfl ?_
  obtain ⟨v_11, he_12, hk_13⟩ := bd_e H
  have J_14 : ∀ x_10, v_11 = x_10 → YY l E M_X11_canBeRelated 3 0 0 (pS (some (zv r)) σ) 23 [some (vr shape_0)] [zv x_10] σ 0 0 := by
    intro x_10 e
    have H := hk_13
    rw [e] at H
    cases H
    exact z_zret (M := M_X11_canBeRelated) dX11_canBeRelated_23 rfl (Nat.le_of_ble_eq_true rfl) (Nat.le_of_ble_eq_true rfl) ⟨rfl, rfl⟩
  have H := he_12
  refine z_aload_n (M := M_X11_canBeRelated) dX11_canBeRelated_0 rfl ?_
  obtain ⟨x_2, hc_1, H⟩ := bd_e H
  refine z_callV (M := M_X11_canBeRelated) (M' := M_X6_kind) (as := []) (rest := []) rfl rfl dX11_canBeRelated_1 m_X6_kind t_950 t_951 t_952 (c_X6_kind hl h_shape hc_1) rfl rfl (ly_S h_shape) rfl (Nat.le_of_ble_eq_true rfl) (Nat.le_of_ble_eq_true rfl) (Nat.le_of_ble_eq_true rfl) (Nat.le_of_ble_eq_true rfl) ?_
  refine z_st (st' := [vi x_2]) rfl ?_
  refine z_bipush (M := M_X11_canBeRelated) dX11_canBeRelated_4 (by decide +kernel) ?_
  rcases if_e H with ⟨h_3, H⟩ | ⟨h_3, H⟩
  · refine z_icmp_eq_f (M := M_X11_canBeRelated) (tgt := 22) dX11_canBeRelated_6 (by decide) rfl (by decide +kernel) h_3 ?_
    refine z_aload_n (M := M_X11_canBeRelated) dX11_canBeRelated_9 rfl ?_
    refine z_ldc (M := M_X11_canBeRelated) (n := 500000000) dX11_canBeRelated_10 t_1380 (by decide +kernel) ?_
    obtain ⟨x_5, hc_4, H⟩ := bd_e H
    refine z_callV (M := M_X11_canBeRelated) (M' := M_X6_liesWithin) (as := [vi 500000000]) (rest := []) rfl rfl dX11_canBeRelated_12 m_X6_liesWithin t_1381 t_1382 t_1383 (c_X6_liesWithin hl h_shape hc_4) rfl rfl (ly_S h_shape) rfl (Nat.le_of_ble_eq_true rfl) (Nat.le_of_ble_eq_true rfl) (Nat.le_of_ble_eq_true rfl) (Nat.le_of_ble_eq_true rfl) ?_
    refine z_st (st' := [zv x_5]) rfl ?_
    rcases if_e H with ⟨h_6, H⟩ | ⟨h_6, H⟩
    · refine z_zeq_f (M := M_X11_canBeRelated) (tgt := 22) dX11_canBeRelated_15 (by decide) h_6 ?_
      refine z_zconst (M := M_X11_canBeRelated) (b := true) dX11_canBeRelated_18 rfl ?_
      refine z_goto (M := M_X11_canBeRelated) (tgt := 23) dX11_canBeRelated_19 (by decide) ?_
      exact J_14 _ (Option.some.inj H).symm
    · refine z_zeq_t (M := M_X11_canBeRelated) (tgt := 22) dX11_canBeRelated_15 (by decide) h_6 ?_
      refine z_zconst (M := M_X11_canBeRelated) (b := false) dX11_canBeRelated_22 rfl ?_
      exact J_14 _ (Option.some.inj H).symm
  · refine z_icmp_eq_t (M := M_X11_canBeRelated) (tgt := 22) dX11_canBeRelated_6 (by decide) rfl (by decide +kernel) (Decidable.not_not.mp h_3) ?_
    refine z_zconst (M := M_X11_canBeRelated) (b := false) dX11_canBeRelated_22 rfl ?_
    exact J_14 _ (Option.some.inj H).symm
theorem c_X11_mustBeRelatable (hl : l.stackTraces = false) {σ : SG} {what_0 : Int} {slot_0 : Int} {other_0 : Int} {r : Unit ⊕ Nat} {σ' : SG}  (H : fQ_mustBeRelatable σ what_0 slot_0 other_0 = some (r, σ')) : en_S l E M_X11_mustBeRelatable 7 5 30 [vr 32, vi what_0, vi slot_0, vi other_0] σ (pT (ruT r) σ') := by
  unfold fQ_mustBeRelatable at H
  refine z_mk (lv := [some (vr 32), some (vi what_0), some (vi slot_0), some (vi other_0), none, none]) m_X11_mustBeRelatable rfl hl (Nat.le_of_ble_eq_true rfl) rfl ?_
  refine z_aload_n (M := M_X11_mustBeRelatable) dX11_mustBeRelatable_0 rfl ?_
  refine z_iload_n (M := M_X11_mustBeRelatable) dX11_mustBeRelatable_1 rfl ?_
  obtain ⟨z_47, σ_2, hc_1, K_4, K_5⟩ := bt_e H
  rcases z_47 with x_3 | z_47
  · have H := K_4 _ rfl
    refine z_callV (M := M_X11_mustBeRelatable) (M' := M_X11_slotNumbered) (as := [vi slot_0]) (rest := []) rfl rfl dX11_mustBeRelatable_2 m_X11_slotNumbered t_744 t_746 s_2 (v := some (vr x_3)) (c_X11_slotNumbered hl  hc_1) rfl rfl ly_32 rfl (Nat.le_of_ble_eq_true rfl) (Nat.le_of_ble_eq_true rfl) (Nat.le_of_ble_eq_true rfl) (Nat.le_of_ble_eq_true rfl) ?_
    refine z_st (st' := [vr x_3]) rfl ?_
    obtain ⟨hs_6, H⟩ := ck_e H
    refine z_astore (M := M_X11_mustBeRelatable) (lv' := [some (vr 32), some (vi what_0), some (vi slot_0), some (vi other_0), some (vr x_3), none]) dX11_mustBeRelatable_5 (Nat.le_of_ble_eq_true rfl) rfl rfl ?_
    refine z_aload_n (M := M_X11_mustBeRelatable) dX11_mustBeRelatable_7 rfl ?_
    refine z_iload_n (M := M_X11_mustBeRelatable) dX11_mustBeRelatable_8 rfl ?_
    obtain ⟨z_46, σ_8, hc_7, K_10, K_11⟩ := bt_e H
    rcases z_46 with x_9 | z_46
    · have H := K_10 _ rfl
      refine z_callV (M := M_X11_mustBeRelatable) (M' := M_X11_slotNumbered) (as := [vi other_0]) (rest := []) rfl rfl dX11_mustBeRelatable_9 m_X11_slotNumbered t_744 t_746 s_2 (v := some (vr x_9)) (c_X11_slotNumbered hl  hc_7) rfl rfl ly_32 rfl (Nat.le_of_ble_eq_true rfl) (Nat.le_of_ble_eq_true rfl) (Nat.le_of_ble_eq_true rfl) (Nat.le_of_ble_eq_true rfl) ?_
      refine z_st (st' := [vr x_9]) rfl ?_
      obtain ⟨hs_12, H⟩ := ck_e H
      refine z_astore (M := M_X11_mustBeRelatable) (lv' := [some (vr 32), some (vi what_0), some (vi slot_0), some (vi other_0), some (vr x_3), some (vr x_9)]) dX11_mustBeRelatable_12 (Nat.le_of_ble_eq_true rfl) rfl rfl ?_
      refine z_aload (M := M_X11_mustBeRelatable) dX11_mustBeRelatable_14 rfl ?_
      obtain ⟨z_45, σ_14, hc_13, K_16, K_17⟩ := bt_e H
      rcases z_45 with x_15 | z_45
      · have H := K_16 _ rfl
        refine z_callS (M := M_X11_mustBeRelatable) (M' := M_X11_mustBeThere) (as := [vr x_3]) (rest := []) rfl rfl dX11_mustBeRelatable_16 m_X11_mustBeThere t_1047 t_1048 (v := none) (c_X11_mustBeThere hl hs_6 hc_13) rfl rfl (Nat.le_of_ble_eq_true rfl) (Nat.le_of_ble_eq_true rfl) (Nat.le_of_ble_eq_true rfl) (Nat.le_of_ble_eq_true rfl) ?_
        refine z_st (st' := []) rfl ?_
        refine z_aload (M := M_X11_mustBeRelatable) dX11_mustBeRelatable_19 rfl ?_
        obtain ⟨z_44, σ_19, hc_18, K_21, K_22⟩ := bt_e H
        rcases z_44 with x_20 | z_44
        · have H := K_21 _ rfl
          refine z_callS (M := M_X11_mustBeRelatable) (M' := M_X11_mustBeThere) (as := [vr x_9]) (rest := []) rfl rfl dX11_mustBeRelatable_21 m_X11_mustBeThere t_1047 t_1048 (v := none) (c_X11_mustBeThere hl hs_12 hc_18) rfl rfl (Nat.le_of_ble_eq_true rfl) (Nat.le_of_ble_eq_true rfl) (Nat.le_of_ble_eq_true rfl) (Nat.le_of_ble_eq_true rfl) ?_
          refine z_st (st' := []) rfl ?_
          refine z_iload_n (M := M_X11_mustBeRelatable) dX11_mustBeRelatable_24 rfl ?_
          rcases if_e H with ⟨h_36, H⟩ | ⟨h_36, H⟩
          · refine z_if_lt_t (M := M_X11_mustBeRelatable) (tgt := 50) dX11_mustBeRelatable_25 (by decide) rfl h_36 ?_
            cases H
            exact z_throw (M := M_X11_mustBeRelatable) (names := en_nm) rfl dX11_mustBeRelatable_50 dX11_mustBeRelatable_53 dX11_mustBeRelatable_54 dX11_mustBeRelatable_57 (by decide +kernel) en_nm_ok (Or.inl t_721) (Or.inl t_19) at_X11_IllegalArgumentException_118 (Nat.le_of_ble_eq_true rfl) (Nat.le_of_ble_eq_true rfl) (Nat.le_of_ble_eq_true rfl) (Nat.le_of_ble_eq_true rfl) ⟨rfl, rfl⟩
          · refine z_if_lt_f (M := M_X11_mustBeRelatable) (tgt := 50) dX11_mustBeRelatable_25 (by decide) rfl (Int.not_lt.mp h_36) ?_
            refine z_iload_n (M := M_X11_mustBeRelatable) dX11_mustBeRelatable_28 rfl ?_
            refine z_bipush (M := M_X11_mustBeRelatable) dX11_mustBeRelatable_29 (by decide +kernel) ?_
            rcases if_e H with ⟨h_37, H⟩ | ⟨h_37, H⟩
            · refine z_icmp_ge_t (M := M_X11_mustBeRelatable) (tgt := 50) dX11_mustBeRelatable_31 (by decide) rfl (by decide +kernel) h_37 ?_
              cases H
              exact z_throw (M := M_X11_mustBeRelatable) (names := en_nm) rfl dX11_mustBeRelatable_50 dX11_mustBeRelatable_53 dX11_mustBeRelatable_54 dX11_mustBeRelatable_57 (by decide +kernel) en_nm_ok (Or.inl t_721) (Or.inl t_19) at_X11_IllegalArgumentException_118 (Nat.le_of_ble_eq_true rfl) (Nat.le_of_ble_eq_true rfl) (Nat.le_of_ble_eq_true rfl) (Nat.le_of_ble_eq_true rfl) ⟨rfl, rfl⟩
            · refine z_icmp_ge_f (M := M_X11_mustBeRelatable) (tgt := 50) dX11_mustBeRelatable_31 (by decide) rfl (by decide +kernel) (Int.not_le.mp h_37) ?_
              refine z_aload (M := M_X11_mustBeRelatable) dX11_mustBeRelatable_34 rfl ?_
              obtain ⟨x_39, hc_38, H⟩ := bd_e H
              refine z_callS (M := M_X11_mustBeRelatable) (M' := M_X11_canBeRelated) (as := [vr x_3]) (rest := []) rfl rfl dX11_mustBeRelatable_36 m_X11_canBeRelated t_1883 t_1884 (c_X11_canBeRelated hl hs_6 hc_38) rfl rfl (Nat.le_of_ble_eq_true rfl) (Nat.le_of_ble_eq_true rfl) (Nat.le_of_ble_eq_true rfl) (Nat.le_of_ble_eq_true rfl) ?_
              refine z_st (st' := [zv x_39]) rfl ?_
              rcases if_e H with ⟨h_40, H⟩ | ⟨h_40, H⟩
              · refine z_zeq_f (M := M_X11_mustBeRelatable) (tgt := 50) dX11_mustBeRelatable_39 (by decide) h_40 ?_
                refine z_aload (M := M_X11_mustBeRelatable) dX11_mustBeRelatable_42 rfl ?_
                obtain ⟨x_42, hc_41, H⟩ := bd_e H
                refine z_callS (M := M_X11_mustBeRelatable) (M' := M_X11_canBeRelated) (as := [vr x_9]) (rest := []) rfl rfl dX11_mustBeRelatable_44 m_X11_canBeRelated t_1883 t_1884 (c_X11_canBeRelated hl hs_12 hc_41) rfl rfl (Nat.le_of_ble_eq_true rfl) (Nat.le_of_ble_eq_true rfl) (Nat.le_of_ble_eq_true rfl) (Nat.le_of_ble_eq_true rfl) ?_
                refine z_st (st' := [zv x_42]) rfl ?_
                rcases if_e H with ⟨h_43, H⟩ | ⟨h_43, H⟩
                · refine z_zne_t (M := M_X11_mustBeRelatable) (tgt := 58) dX11_mustBeRelatable_47 (by decide) h_43 ?_
                  cases H
                  exact z_vret (M := M_X11_mustBeRelatable) dX11_mustBeRelatable_58 rfl (Nat.le_of_ble_eq_true rfl) (Nat.le_of_ble_eq_true rfl) ⟨rfl, rfl⟩
                · refine z_zne_f (M := M_X11_mustBeRelatable) (tgt := 58) dX11_mustBeRelatable_47 (by decide) h_43 ?_
                  cases H
                  exact z_throw (M := M_X11_mustBeRelatable) (names := en_nm) rfl dX11_mustBeRelatable_50 dX11_mustBeRelatable_53 dX11_mustBeRelatable_54 dX11_mustBeRelatable_57 (by decide +kernel) en_nm_ok (Or.inl t_721) (Or.inl t_19) at_X11_IllegalArgumentException_118 (Nat.le_of_ble_eq_true rfl) (Nat.le_of_ble_eq_true rfl) (Nat.le_of_ble_eq_true rfl) (Nat.le_of_ble_eq_true rfl) ⟨rfl, rfl⟩
              · refine z_zeq_t (M := M_X11_mustBeRelatable) (tgt := 50) dX11_mustBeRelatable_39 (by decide) h_40 ?_
                cases H
                exact z_throw (M := M_X11_mustBeRelatable) (names := en_nm) rfl dX11_mustBeRelatable_50 dX11_mustBeRelatable_53 dX11_mustBeRelatable_54 dX11_mustBeRelatable_57 (by decide +kernel) en_nm_ok (Or.inl t_721) (Or.inl t_19) at_X11_IllegalArgumentException_118 (Nat.le_of_ble_eq_true rfl) (Nat.le_of_ble_eq_true rfl) (Nat.le_of_ble_eq_true rfl) (Nat.le_of_ble_eq_true rfl) ⟨rfl, rfl⟩
        · have H := K_22 _ rfl
          cases H
          exact z_callSX (M := M_X11_mustBeRelatable) (M' := M_X11_mustBeThere) (as := [vr x_9]) (rest := []) rfl rfl dX11_mustBeRelatable_21 m_X11_mustBeThere t_1047 t_1048 (e := z_44) (c_X11_mustBeThere hl hs_12 hc_18) rfl rfl (Nat.le_of_ble_eq_true rfl) (Nat.le_of_ble_eq_true rfl) (Nat.le_of_ble_eq_true rfl) (Nat.le_of_ble_eq_true rfl) ⟨rfl, rfl⟩
      · have H := K_17 _ rfl
        cases H
        exact z_callSX (M := M_X11_mustBeRelatable) (M' := M_X11_mustBeThere) (as := [vr x_3]) (rest := []) rfl rfl dX11_mustBeRelatable_16 m_X11_mustBeThere t_1047 t_1048 (e := z_45) (c_X11_mustBeThere hl hs_6 hc_13) rfl rfl (Nat.le_of_ble_eq_true rfl) (Nat.le_of_ble_eq_true rfl) (Nat.le_of_ble_eq_true rfl) (Nat.le_of_ble_eq_true rfl) ⟨rfl, rfl⟩
    · have H := K_11 _ rfl
      cases H
      exact z_callVX (M := M_X11_mustBeRelatable) (M' := M_X11_slotNumbered) (as := [vi other_0]) (rest := []) rfl rfl dX11_mustBeRelatable_9 m_X11_slotNumbered t_744 t_746 s_2 (e := z_46) (c_X11_slotNumbered hl  hc_7) rfl rfl ly_32 rfl (Nat.le_of_ble_eq_true rfl) (Nat.le_of_ble_eq_true rfl) (Nat.le_of_ble_eq_true rfl) (Nat.le_of_ble_eq_true rfl) ⟨rfl, rfl⟩
  · have H := K_5 _ rfl
    cases H
    exact z_callVX (M := M_X11_mustBeRelatable) (M' := M_X11_slotNumbered) (as := [vi slot_0]) (rest := []) rfl rfl dX11_mustBeRelatable_2 m_X11_slotNumbered t_744 t_746 s_2 (e := z_47) (c_X11_slotNumbered hl  hc_1) rfl rfl ly_32 rfl (Nat.le_of_ble_eq_true rfl) (Nat.le_of_ble_eq_true rfl) (Nat.le_of_ble_eq_true rfl) (Nat.le_of_ble_eq_true rfl) ⟨rfl, rfl⟩
theorem c_X11_relate (hl : l.stackTraces = false) {σ : SG} {slot_0 : Int} {other_0 : Int} {r : Int ⊕ Nat} {σ' : SG}  (H : fQ_relate σ slot_0 other_0 = some (r, σ')) : en_S l E M_X11_relate 9 8 48 [vr 32, vi slot_0, vi other_0] σ (pT (riT r) σ') := by
  unfold fQ_relate at H
  refine z_mk (lv := [some (vr 32), some (vi slot_0), some (vi other_0)]) m_X11_relate rfl hl (Nat.le_of_ble_eq_true rfl) rfl ?_
  refine z_aload_n (M := M_X11_relate) dX11_relate_0 rfl ?_
  refine z_iconst (M := M_X11_relate) dX11_relate_1 ?_
  refine z_iload_n (M := M_X11_relate) dX11_relate_2 rfl ?_
  refine z_iload_n (M := M_X11_relate) dX11_relate_3 rfl ?_
  obtain ⟨z_26, σ_2, hc_1, K_4, K_5⟩ := bt_e H
  rcases z_26 with x_3 | z_26
  · have H := K_4 _ rfl
    refine z_callV (M := M_X11_relate) (M' := M_X11_mustBeRelatable) (as := [vi 0, vi slot_0, vi other_0]) (rest := []) rfl rfl dX11_relate_4 m_X11_mustBeRelatable t_1879 t_1881 s_104 (v := none) (c_X11_mustBeRelatable hl  hc_1) rfl rfl ly_32 rfl (Nat.le_of_ble_eq_true rfl) (Nat.le_of_ble_eq_true rfl) (Nat.le_of_ble_eq_true rfl) (Nat.le_of_ble_eq_true rfl) ?_
    refine z_st (st' := []) rfl ?_
    refine z_aload_n (M := M_X11_relate) dX11_relate_7 rfl ?_
    refine z_getR (M := M_X11_relate) (ci := 14) (C := RX11) (T := TX11) (Nf := 19) (ty := tyX11) cl14 dX11_relate_8 ly_32 12 (by decide) t_575 rfl ?_
    refine z_aload_n (M := M_X11_relate) dX11_relate_11 rfl ?_
    refine z_iload_n (M := M_X11_relate) dX11_relate_12 rfl ?_
    obtain ⟨z_25, σ_7, hc_6, K_9, K_10⟩ := bt_e H
    rcases z_25 with x_8 | z_25
    · have H := K_9 _ rfl
      refine z_callV (M := M_X11_relate) (M' := M_X11_slotNumbered) (as := [vi slot_0]) (rest := [vr 222]) rfl rfl dX11_relate_13 m_X11_slotNumbered t_744 t_746 s_2 (v := some (vr x_8)) (c_X11_slotNumbered hl  hc_6) rfl rfl ly_32 rfl (Nat.le_of_ble_eq_true rfl) (Nat.le_of_ble_eq_true rfl) (Nat.le_of_ble_eq_true rfl) (Nat.le_of_ble_eq_true rfl) ?_
      refine z_st (st' := [vr x_8, vr 222]) rfl ?_
      obtain ⟨hs_11, H⟩ := ck_e H
      refine z_aload_n (M := M_X11_relate) dX11_relate_16 rfl ?_
      refine z_iload_n (M := M_X11_relate) dX11_relate_17 rfl ?_
      obtain ⟨z_24, σ_13, hc_12, K_15, K_16⟩ := bt_e H
      rcases z_24 with x_14 | z_24
      · have H := K_15 _ rfl
        refine z_callV (M := M_X11_relate) (M' := M_X11_slotNumbered) (as := [vi other_0]) (rest := [vr x_8, vr 222]) rfl rfl dX11_relate_18 m_X11_slotNumbered t_744 t_746 s_2 (v := some (vr x_14)) (c_X11_slotNumbered hl  hc_12) rfl rfl ly_32 rfl (Nat.le_of_ble_eq_true rfl) (Nat.le_of_ble_eq_true rfl) (Nat.le_of_ble_eq_true rfl) (Nat.le_of_ble_eq_true rfl) ?_
        refine z_st (st' := [vr x_14, vr x_8, vr 222]) rfl ?_
        obtain ⟨hs_17, H⟩ := ck_e H
        obtain ⟨⟨x_20, σ_19⟩, hc_18, H⟩ := bd_e H
        refine z_callV (M := M_X11_relate) (M' := M_X3_fillMatrix) (as := [vr x_8, vr x_14]) (rest := []) rfl rfl dX11_relate_21 m_X3_fillMatrix t_1886 t_1887 t_1888 (c_X3_fillMatrix hl hs_11 hs_17 hc_18) rfl rfl ly_222 rfl (Nat.le_of_ble_eq_true rfl) (Nat.le_of_ble_eq_true rfl) (Nat.le_of_ble_eq_true rfl) (Nat.le_of_ble_eq_true rfl) ?_
        refine z_st (st' := [zv x_20]) rfl ?_
        rcases if_e H with ⟨h_21, H⟩ | ⟨h_21, H⟩
        · refine z_zne_t (M := M_X11_relate) (tgt := 35) dX11_relate_24 (by decide) h_21 ?_
          refine z_aload_n (M := M_X11_relate) dX11_relate_35 rfl ?_
          refine z_getR (M := M_X11_relate) (ci := 14) (C := RX11) (T := TX11) (Nf := 19) (ty := tyX11) cl14 dX11_relate_36 ly_32 12 (by decide) t_575 rfl ?_
          obtain ⟨x_23, hc_22, H⟩ := bd_e H
          refine z_callV (M := M_X11_relate) (M' := M_X3_matrixNumber) (as := []) (rest := []) rfl rfl dX11_relate_39 m_X3_matrixNumber t_2031 t_2032 t_2033 (c_X3_matrixNumber hl  hc_22) rfl rfl ly_222 rfl (Nat.le_of_ble_eq_true rfl) (Nat.le_of_ble_eq_true rfl) (Nat.le_of_ble_eq_true rfl) (Nat.le_of_ble_eq_true rfl) ?_
          refine z_st (st' := [vi x_23]) rfl ?_
          cases H
          exact z_iret (M := M_X11_relate) dX11_relate_42 rfl (Nat.le_of_ble_eq_true rfl) (Nat.le_of_ble_eq_true rfl) ⟨rfl, rfl⟩
        · refine z_zne_f (M := M_X11_relate) (tgt := 35) dX11_relate_24 (by decide) h_21 ?_
          cases H
          exact z_throw (M := M_X11_relate) (names := en_nm) rfl dX11_relate_27 dX11_relate_30 dX11_relate_31 dX11_relate_34 (by decide +kernel) en_nm_ok (Or.inl t_1857) (Or.inl t_34) at_X11_UnsupportedOperationException_234 (Nat.le_of_ble_eq_true rfl) (Nat.le_of_ble_eq_true rfl) (Nat.le_of_ble_eq_true rfl) (Nat.le_of_ble_eq_true rfl) ⟨rfl, rfl⟩
      · have H := K_16 _ rfl
        cases H
        exact z_callVX (M := M_X11_relate) (M' := M_X11_slotNumbered) (as := [vi other_0]) (rest := [vr x_8, vr 222]) rfl rfl dX11_relate_18 m_X11_slotNumbered t_744 t_746 s_2 (e := z_24) (c_X11_slotNumbered hl  hc_12) rfl rfl ly_32 rfl (Nat.le_of_ble_eq_true rfl) (Nat.le_of_ble_eq_true rfl) (Nat.le_of_ble_eq_true rfl) (Nat.le_of_ble_eq_true rfl) ⟨rfl, rfl⟩
    · have H := K_10 _ rfl
      cases H
      exact z_callVX (M := M_X11_relate) (M' := M_X11_slotNumbered) (as := [vi slot_0]) (rest := [vr 222]) rfl rfl dX11_relate_13 m_X11_slotNumbered t_744 t_746 s_2 (e := z_25) (c_X11_slotNumbered hl  hc_6) rfl rfl ly_32 rfl (Nat.le_of_ble_eq_true rfl) (Nat.le_of_ble_eq_true rfl) (Nat.le_of_ble_eq_true rfl) (Nat.le_of_ble_eq_true rfl) ⟨rfl, rfl⟩
  · have H := K_5 _ rfl
    cases H
    exact z_callVX (M := M_X11_relate) (M' := M_X11_mustBeRelatable) (as := [vi 0, vi slot_0, vi other_0]) (rest := []) rfl rfl dX11_relate_4 m_X11_mustBeRelatable t_1879 t_1881 s_104 (e := z_26) (c_X11_mustBeRelatable hl  hc_1) rfl rfl ly_32 rfl (Nat.le_of_ble_eq_true rfl) (Nat.le_of_ble_eq_true rfl) (Nat.le_of_ble_eq_true rfl) (Nat.le_of_ble_eq_true rfl) ⟨rfl, rfl⟩
theorem c_X3_has (hl : l.stackTraces = false) {σ : SG} {first_0 : Int} {second_0 : Int} {r : Bool}  (H : fT_has σ first_0 second_0 = some r) : en_S l E M_X3_has 1 0 0 [vr 222, vi first_0, vi second_0] σ (pS (some (zv r)) σ) := by
  unfold fT_has at H
  refine z_mk (lv := [some (vr 222), some (vi first_0), some (vi second_0)]) m_X3_has rfl hl (Nat.le_of_ble_eq_true rfl) rfl ?_
  obtain ⟨v_7, he_8, hk_9⟩ := bd_e H
  have J_10 : ∀ x_6, v_7 = x_6 → YY l E M_X3_has 1 0 0 (pS (some (zv r)) σ) 18 [some (vr 222), some (vi first_0), some (vi second_0)] [zv x_6] σ 0 0 := by
    intro x_6 e
    have H := hk_9
    rw [e] at H
    cases H
    exact z_zret (M := M_X3_has) dX3_has_18 rfl (Nat.le_of_ble_eq_true rfl) (Nat.le_of_ble_eq_true rfl) ⟨rfl, rfl⟩
  have H := he_8
  refine z_aload_n (M := M_X3_has) dX3_has_0 rfl ?_
  refine z_getR (M := M_X3_has) (ci := 6) (C := RX3) (T := TX3) (Nf := 12) (ty := tyX3) cl6 dX3_has_1 ly_222 1 (by decide) t_443 rfl ?_
  refine z_iconst (M := M_X3_has) dX3_has_4 ?_
  refine z_iload_n (M := M_X3_has) dX3_has_5 rfl ?_
  refine z_imul (M := M_X3_has) dX3_has_6 ?_
  refine z_iload_n (M := M_X3_has) dX3_has_7 rfl ?_
  refine z_iadd (M := M_X3_has) dX3_has_8 ?_
  obtain ⟨x_1, x_1_e, hi_2, H⟩ := rd_e H
  refine z_iald (M := M_X3_has) dX3_has_9 ly_229 rfl rfl rfl hi_2 x_1_e ?_
  rcases if_e H with ⟨h_3, H⟩ | ⟨h_3, H⟩
  · refine z_if_lt_f (M := M_X3_has) (tgt := 17) dX3_has_10 (by decide) rfl h_3 ?_
    refine z_zconst (M := M_X3_has) (b := true) dX3_has_13 rfl ?_
    refine z_goto (M := M_X3_has) (tgt := 18) dX3_has_14 (by decide) ?_
    exact J_10 _ (Option.some.inj H).symm
  · refine z_if_lt_t (M := M_X3_has) (tgt := 17) dX3_has_10 (by decide) rfl (Int.not_le.mp h_3) ?_
    refine z_zconst (M := M_X3_has) (b := false) dX3_has_17 rfl ?_
    exact J_10 _ (Option.some.inj H).symm
theorem c_X3_haveCommonPlace (hl : l.stackTraces = false) {σ : SG} {r : Bool}  (H : fT_haveCommonPlace σ = some r) : en_S l E M_X3_haveCommonPlace 2 0 0 [vr 222] σ (pS (some (zv r)) σ) := by
  unfold fT_haveCommonPlace at H
  refine z_mk (lv := [some (vr 222)]) m_X3_haveCommonPlace rfl hl (Nat.le_of_ble_eq_true rfl) rfl ?_
  obtain ⟨v_19, he_20, hk_21⟩ := bd_e H
  have J_22 : ∀ x_18, v_19 = x_18 → YY l E M_X3_haveCommonPlace 2 0 0 (pS (some (zv r)) σ) 41 [some (vr 222)] [zv x_18] σ 0 0 := by
    intro x_18 e
    have H := hk_21
    rw [e] at H
    cases H
    exact z_zret (M := M_X3_haveCommonPlace) dX3_haveCommonPlace_41 rfl (Nat.le_of_ble_eq_true rfl) (Nat.le_of_ble_eq_true rfl) ⟨rfl, rfl⟩
  have H := he_20
  refine z_aload_n (M := M_X3_haveCommonPlace) dX3_haveCommonPlace_0 rfl ?_
  refine z_iconst (M := M_X3_haveCommonPlace) dX3_haveCommonPlace_1 ?_
  refine z_iconst (M := M_X3_haveCommonPlace) dX3_haveCommonPlace_2 ?_
  obtain ⟨x_2, hc_1, H⟩ := bd_e H
  refine z_callV (M := M_X3_haveCommonPlace) (M' := M_X3_has) (as := [vi 0, vi 0]) (rest := []) rfl rfl dX3_haveCommonPlace_3 m_X3_has t_2046 t_2048 s_123 (c_X3_has hl  hc_1) rfl rfl ly_222 rfl (Nat.le_of_ble_eq_true rfl) (Nat.le_of_ble_eq_true rfl) (Nat.le_of_ble_eq_true rfl) (Nat.le_of_ble_eq_true rfl) ?_
  refine z_st (st' := [zv x_2]) rfl ?_
  rcases if_e H with ⟨h_3, H⟩ | ⟨h_3, H⟩
  · refine z_zne_t (M := M_X3_haveCommonPlace) (tgt := 36) dX3_haveCommonPlace_6 (by decide) h_3 ?_
    refine z_zconst (M := M_X3_haveCommonPlace) (b := true) dX3_haveCommonPlace_36 rfl ?_
    refine z_goto (M := M_X3_haveCommonPlace) (tgt := 41) dX3_haveCommonPlace_37 (by decide) ?_
    exact J_22 _ (Option.some.inj H).symm
  · refine z_zne_f (M := M_X3_haveCommonPlace) (tgt := 36) dX3_haveCommonPlace_6 (by decide) h_3 ?_
    refine z_aload_n (M := M_X3_haveCommonPlace) dX3_haveCommonPlace_9 rfl ?_
    refine z_iconst (M := M_X3_haveCommonPlace) dX3_haveCommonPlace_10 ?_
    refine z_iconst (M := M_X3_haveCommonPlace) dX3_haveCommonPlace_11 ?_
    obtain ⟨x_6, hc_5, H⟩ := bd_e H
    refine z_callV (M := M_X3_haveCommonPlace) (M' := M_X3_has) (as := [vi 0, vi 1]) (rest := []) rfl rfl dX3_haveCommonPlace_12 m_X3_has t_2046 t_2048 s_123 (c_X3_has hl  hc_5) rfl rfl ly_222 rfl (Nat.le_of_ble_eq_true rfl) (Nat.le_of_ble_eq_true rfl) (Nat.le_of_ble_eq_true rfl) (Nat.le_of_ble_eq_true rfl) ?_
    refine z_st (st' := [zv x_6]) rfl ?_
    rcases if_e H with ⟨h_7, H⟩ | ⟨h_7, H⟩
    · refine z_zne_t (M := M_X3_haveCommonPlace) (tgt := 36) dX3_haveCommonPlace_15 (by decide) h_7 ?_
      refine z_zconst (M := M_X3_haveCommonPlace) (b := true) dX3_haveCommonPlace_36 rfl ?_
      refine z_goto (M := M_X3_haveCommonPlace) (tgt := 41) dX3_haveCommonPlace_37 (by decide) ?_
      exact J_22 _ (Option.some.inj H).symm
    · refine z_zne_f (M := M_X3_haveCommonPlace) (tgt := 36) dX3_haveCommonPlace_15 (by decide) h_7 ?_
      refine z_aload_n (M := M_X3_haveCommonPlace) dX3_haveCommonPlace_18 rfl ?_
      refine z_iconst (M := M_X3_haveCommonPlace) dX3_haveCommonPlace_19 ?_
      refine z_iconst (M := M_X3_haveCommonPlace) dX3_haveCommonPlace_20 ?_
      obtain ⟨x_10, hc_9, H⟩ := bd_e H
      refine z_callV (M := M_X3_haveCommonPlace) (M' := M_X3_has) (as := [vi 1, vi 0]) (rest := []) rfl rfl dX3_haveCommonPlace_21 m_X3_has t_2046 t_2048 s_123 (c_X3_has hl  hc_9) rfl rfl ly_222 rfl (Nat.le_of_ble_eq_true rfl) (Nat.le_of_ble_eq_true rfl) (Nat.le_of_ble_eq_true rfl) (Nat.le_of_ble_eq_true rfl) ?_
      refine z_st (st' := [zv x_10]) rfl ?_
      rcases if_e H with ⟨h_11, H⟩ | ⟨h_11, H⟩
      · refine z_zne_t (M := M_X3_haveCommonPlace) (tgt := 36) dX3_haveCommonPlace_24 (by decide) h_11 ?_
        refine z_zconst (M := M_X3_haveCommonPlace) (b := true) dX3_haveCommonPlace_36 rfl ?_
        refine z_goto (M := M_X3_haveCommonPlace) (tgt := 41) dX3_haveCommonPlace_37 (by decide) ?_
        exact J_22 _ (Option.some.inj H).symm
      · refine z_zne_f (M := M_X3_haveCommonPlace) (tgt := 36) dX3_haveCommonPlace_24 (by decide) h_11 ?_
        refine z_aload_n (M := M_X3_haveCommonPlace) dX3_haveCommonPlace_27 rfl ?_
        refine z_iconst (M := M_X3_haveCommonPlace) dX3_haveCommonPlace_28 ?_
        refine z_iconst (M := M_X3_haveCommonPlace) dX3_haveCommonPlace_29 ?_
        obtain ⟨x_14, hc_13, H⟩ := bd_e H
        refine z_callV (M := M_X3_haveCommonPlace) (M' := M_X3_has) (as := [vi 1, vi 1]) (rest := []) rfl rfl dX3_haveCommonPlace_30 m_X3_has t_2046 t_2048 s_123 (c_X3_has hl  hc_13) rfl rfl ly_222 rfl (Nat.le_of_ble_eq_true rfl) (Nat.le_of_ble_eq_true rfl) (Nat.le_of_ble_eq_true rfl) (Nat.le_of_ble_eq_true rfl) ?_
        refine z_st (st' := [zv x_14]) rfl ?_
        rcases if_e H with ⟨h_15, H⟩ | ⟨h_15, H⟩
        · refine z_zeq_f (M := M_X3_haveCommonPlace) (tgt := 40) dX3_haveCommonPlace_33 (by decide) h_15 ?_
          refine z_zconst (M := M_X3_haveCommonPlace) (b := true) dX3_haveCommonPlace_36 rfl ?_
          refine z_goto (M := M_X3_haveCommonPlace) (tgt := 41) dX3_haveCommonPlace_37 (by decide) ?_
          exact J_22 _ (Option.some.inj H).symm
        · refine z_zeq_t (M := M_X3_haveCommonPlace) (tgt := 40) dX3_haveCommonPlace_33 (by decide) h_15 ?_
          refine z_zconst (M := M_X3_haveCommonPlace) (b := false) dX3_haveCommonPlace_40 rfl ?_
          exact J_22 _ (Option.some.inj H).symm
theorem c_X3_isFirstOutside (hl : l.stackTraces = false) {σ : SG} {r : Bool}  (H : fT_isFirstOutside σ = some r) : en_S l E M_X3_isFirstOutside 2 0 0 [vr 222] σ (pS (some (zv r)) σ) := by
  unfold fT_isFirstOutside at H
  refine z_mk (lv := [some (vr 222)]) m_X3_isFirstOutside rfl hl (Nat.le_of_ble_eq_true rfl) rfl ?_
  obtain ⟨v_11, he_12, hk_13⟩ := bd_e H
  have J_14 : ∀ x_10, v_11 = x_10 → YY l E M_X3_isFirstOutside 2 0 0 (pS (some (zv r)) σ) 23 [some (vr 222)] [zv x_10] σ 0 0 := by
    intro x_10 e
    have H := hk_13
    rw [e] at H
    cases H
    exact z_zret (M := M_X3_isFirstOutside) dX3_isFirstOutside_23 rfl (Nat.le_of_ble_eq_true rfl) (Nat.le_of_ble_eq_true rfl) ⟨rfl, rfl⟩
  have H := he_12
  refine z_aload_n (M := M_X3_isFirstOutside) dX3_isFirstOutside_0 rfl ?_
  refine z_iconst (M := M_X3_isFirstOutside) dX3_isFirstOutside_1 ?_
  refine z_iconst (M := M_X3_isFirstOutside) dX3_isFirstOutside_2 ?_
  obtain ⟨x_2, hc_1, H⟩ := bd_e H
  refine z_callV (M := M_X3_isFirstOutside) (M' := M_X3_has) (as := [vi 0, vi 2]) (rest := []) rfl rfl dX3_isFirstOutside_3 m_X3_has t_2046 t_2048 s_123 (c_X3_has hl  hc_1) rfl rfl ly_222 rfl (Nat.le_of_ble_eq_true rfl) (Nat.le_of_ble_eq_true rfl) (Nat.le_of_ble_eq_true rfl) (Nat.le_of_ble_eq_true rfl) ?_
  refine z_st (st' := [zv x_2]) rfl ?_
  rcases if_e H with ⟨h_3, H⟩ | ⟨h_3, H⟩
  · refine z_zne_t (M := M_X3_isFirstOutside) (tgt := 18) dX3_isFirstOutside_6 (by decide) h_3 ?_
    refine z_zconst (M := M_X3_isFirstOutside) (b := true) dX3_isFirstOutside_18 rfl ?_
    refine z_goto (M := M_X3_isFirstOutside) (tgt := 23) dX3_isFirstOutside_19 (by decide) ?_
    exact J_14 _ (Option.some.inj H).symm
  · refine z_zne_f (M := M_X3_isFirstOutside) (tgt := 18) dX3_isFirstOutside_6 (by decide) h_3 ?_
    refine z_aload_n (M := M_X3_isFirstOutside) dX3_isFirstOutside_9 rfl ?_
    refine z_iconst (M := M_X3_isFirstOutside) dX3_isFirstOutside_10 ?_
    refine z_iconst (M := M_X3_isFirstOutside) dX3_isFirstOutside_11 ?_
    obtain ⟨x_6, hc_5, H⟩ := bd_e H
    refine z_callV (M := M_X3_isFirstOutside) (M' := M_X3_has) (as := [vi 1, vi 2]) (rest := []) rfl rfl dX3_isFirstOutside_12 m_X3_has t_2046 t_2048 s_123 (c_X3_has hl  hc_5) rfl rfl ly_222 rfl (Nat.le_of_ble_eq_true rfl) (Nat.le_of_ble_eq_true rfl) (Nat.le_of_ble_eq_true rfl) (Nat.le_of_ble_eq_true rfl) ?_
    refine z_st (st' := [zv x_6]) rfl ?_
    rcases if_e H with ⟨h_7, H⟩ | ⟨h_7, H⟩
    · refine z_zeq_f (M := M_X3_isFirstOutside) (tgt := 22) dX3_isFirstOutside_15 (by decide) h_7 ?_
      refine z_zconst (M := M_X3_isFirstOutside) (b := true) dX3_isFirstOutside_18 rfl ?_
      refine z_goto (M := M_X3_isFirstOutside) (tgt := 23) dX3_isFirstOutside_19 (by decide) ?_
      exact J_14 _ (Option.some.inj H).symm
    · refine z_zeq_t (M := M_X3_isFirstOutside) (tgt := 22) dX3_isFirstOutside_15 (by decide) h_7 ?_
      refine z_zconst (M := M_X3_isFirstOutside) (b := false) dX3_isFirstOutside_22 rfl ?_
      exact J_14 _ (Option.some.inj H).symm
theorem c_X3_isSecondOutside (hl : l.stackTraces = false) {σ : SG} {r : Bool}  (H : fT_isSecondOutside σ = some r) : en_S l E M_X3_isSecondOutside 2 0 0 [vr 222] σ (pS (some (zv r)) σ) := by
  unfold fT_isSecondOutside at H
  refine z_mk (lv := [some (vr 222)]) m_X3_isSecondOutside rfl hl (Nat.le_of_ble_eq_true rfl) rfl ?_
  obtain ⟨v_11, he_12, hk_13⟩ := bd_e H
  have J_14 : ∀ x_10, v_11 = x_10 → YY l E M_X3_isSecondOutside 2 0 0 (pS (some (zv r)) σ) 23 [some (vr 222)] [zv x_10] σ 0 0 := by
    intro x_10 e
    have H := hk_13
    rw [e] at H
    cases H
    exact z_zret (M := M_X3_isSecondOutside) dX3_isSecondOutside_23 rfl (Nat.le_of_ble_eq_true rfl) (Nat.le_of_ble_eq_true rfl) ⟨rfl, rfl⟩
  have H := he_12
  refine z_aload_n (M := M_X3_isSecondOutside) dX3_isSecondOutside_0 rfl ?_
  refine z_iconst (M := M_X3_isSecondOutside) dX3_isSecondOutside_1 ?_
  refine z_iconst (M := M_X3_isSecondOutside) dX3_isSecondOutside_2 ?_
  obtain ⟨x_2, hc_1, H⟩ := bd_e H
  refine z_callV (M := M_X3_isSecondOutside) (M' := M_X3_has) (as := [vi 2, vi 0]) (rest := []) rfl rfl dX3_isSecondOutside_3 m_X3_has t_2046 t_2048 s_123 (c_X3_has hl  hc_1) rfl rfl ly_222 rfl (Nat.le_of_ble_eq_true rfl) (Nat.le_of_ble_eq_true rfl) (Nat.le_of_ble_eq_true rfl) (Nat.le_of_ble_eq_true rfl) ?_
  refine z_st (st' := [zv x_2]) rfl ?_
  rcases if_e H with ⟨h_3, H⟩ | ⟨h_3, H⟩
  · refine z_zne_t (M := M_X3_isSecondOutside) (tgt := 18) dX3_isSecondOutside_6 (by decide) h_3 ?_
    refine z_zconst (M := M_X3_isSecondOutside) (b := true) dX3_isSecondOutside_18 rfl ?_
    refine z_goto (M := M_X3_isSecondOutside) (tgt := 23) dX3_isSecondOutside_19 (by decide) ?_
    exact J_14 _ (Option.some.inj H).symm
  · refine z_zne_f (M := M_X3_isSecondOutside) (tgt := 18) dX3_isSecondOutside_6 (by decide) h_3 ?_
    refine z_aload_n (M := M_X3_isSecondOutside) dX3_isSecondOutside_9 rfl ?_
    refine z_iconst (M := M_X3_isSecondOutside) dX3_isSecondOutside_10 ?_
    refine z_iconst (M := M_X3_isSecondOutside) dX3_isSecondOutside_11 ?_
    obtain ⟨x_6, hc_5, H⟩ := bd_e H
    refine z_callV (M := M_X3_isSecondOutside) (M' := M_X3_has) (as := [vi 2, vi 1]) (rest := []) rfl rfl dX3_isSecondOutside_12 m_X3_has t_2046 t_2048 s_123 (c_X3_has hl  hc_5) rfl rfl ly_222 rfl (Nat.le_of_ble_eq_true rfl) (Nat.le_of_ble_eq_true rfl) (Nat.le_of_ble_eq_true rfl) (Nat.le_of_ble_eq_true rfl) ?_
    refine z_st (st' := [zv x_6]) rfl ?_
    rcases if_e H with ⟨h_7, H⟩ | ⟨h_7, H⟩
    · refine z_zeq_f (M := M_X3_isSecondOutside) (tgt := 22) dX3_isSecondOutside_15 (by decide) h_7 ?_
      refine z_zconst (M := M_X3_isSecondOutside) (b := true) dX3_isSecondOutside_18 rfl ?_
      refine z_goto (M := M_X3_isSecondOutside) (tgt := 23) dX3_isSecondOutside_19 (by decide) ?_
      exact J_14 _ (Option.some.inj H).symm
    · refine z_zeq_t (M := M_X3_isSecondOutside) (tgt := 22) dX3_isSecondOutside_15 (by decide) h_7 ?_
      refine z_zconst (M := M_X3_isSecondOutside) (b := false) dX3_isSecondOutside_22 rfl ?_
      exact J_14 _ (Option.some.inj H).symm
end LFAK
