section LCAA
variable {l : Launch} {E : EE}
theorem s_case0 (hl : l.stackTraces = false) {nm : String} {post : Outc → SG → Prop} {σ σ' : SG} {xs : Nat → Int32} {L : Nat} (hx : E.2.2.2.2 0 = some (L, xs)) {i_0 : Int} {cu su : Nat} (hcu : cu + 16 ≤ 601024) (hsu : su + 96 ≤ 7293000) (H : fS_0 σ xs L i_0 = some (true, σ')) (J : YY l E (M_law nm) 1312 601024 7293000 post 2449 [some (vr 0), some (vr 32), some (vr 277), some (vr 359), some (vi i_0), none, none, none] [] σ' (cu + 16) (su + 96)) : YY l E (M_law nm) 1312 601024 7293000 post 192 [some (vr 0), some (vr 32), some (vr 277), some (vr 359), some (vi i_0), none, none, none] [] σ cu su := by
  unfold fS_0 at H
  refine z_aload_n (M := (M_law nm)) dL_law_192 rfl ?_
  refine z_aload_n (M := (M_law nm)) dL_law_193 rfl ?_
  refine z_iload (M := (M_law nm)) dL_law_194 rfl ?_
  refine z_iconst (M := (M_law nm)) dL_law_196 ?_
  refine z_iadd (M := (M_law nm)) dL_law_197 ?_
  obtain ⟨hi_2, H⟩ := ck_e H
  obtain ⟨a_1, a_1_e, H⟩ := lt_e H
  refine z_sald (M := (M_law nm)) hx dL_law_198 rfl rfl hi_2 a_1_e.symm ?_
  refine z_aload_n (M := (M_law nm)) dL_law_199 rfl ?_
  refine z_iload (M := (M_law nm)) dL_law_200 rfl ?_
  refine z_iconst (M := (M_law nm)) dL_law_202 ?_
  refine z_iadd (M := (M_law nm)) dL_law_203 ?_
  obtain ⟨hi_4, H⟩ := ck_e H
  obtain ⟨a_3, a_3_e, H⟩ := lt_e H
  refine z_sald (M := (M_law nm)) hx dL_law_204 rfl rfl hi_4 a_3_e.symm ?_
  refine z_aload_n (M := (M_law nm)) dL_law_205 rfl ?_
  refine z_iload (M := (M_law nm)) dL_law_206 rfl ?_
  refine z_iconst (M := (M_law nm)) dL_law_208 ?_
  refine z_iadd (M := (M_law nm)) dL_law_209 ?_
  obtain ⟨hi_6, H⟩ := ck_e H
  obtain ⟨a_5, a_5_e, H⟩ := lt_e H
  refine z_sald (M := (M_law nm)) hx dL_law_210 rfl rfl hi_6 a_5_e.symm ?_
  refine z_aload_n (M := (M_law nm)) dL_law_211 rfl ?_
  refine z_iload (M := (M_law nm)) dL_law_212 rfl ?_
  refine z_iconst (M := (M_law nm)) dL_law_214 ?_
  refine z_iadd (M := (M_law nm)) dL_law_215 ?_
  obtain ⟨hi_8, H⟩ := ck_e H
  obtain ⟨a_7, a_7_e, H⟩ := lt_e H
  refine z_sald (M := (M_law nm)) hx dL_law_216 rfl rfl hi_8 a_7_e.symm ?_
  refine z_aload_n (M := (M_law nm)) dL_law_217 rfl ?_
  refine z_iload (M := (M_law nm)) dL_law_218 rfl ?_
  refine z_iconst (M := (M_law nm)) dL_law_220 ?_
  refine z_iadd (M := (M_law nm)) dL_law_221 ?_
  obtain ⟨hi_10, H⟩ := ck_e H
  obtain ⟨a_9, a_9_e, H⟩ := lt_e H
  refine z_sald (M := (M_law nm)) hx dL_law_222 rfl rfl hi_10 a_9_e.symm ?_
  refine z_aload_n (M := (M_law nm)) dL_law_223 rfl ?_
  obtain ⟨⟨x_13, σ_12⟩, hc_11, H⟩ := bd_e H
  refine z_callSW (M := (M_law nm)) (M' := M_L_feed) (as := [vr 32, vi a_1, vi a_3, vi a_5, vi a_7, vi a_9, vr 359]) (rest := []) rfl rfl dL_law_224 m_L_feed t_634 t_635 (c_L_feed hl hc_11) rfl rfl (Nat.le_of_ble_eq_true rfl) (Nat.le_of_ble_eq_true rfl) (by omega) (by omega) ?_
  refine z_st (st' := [vi x_13]) rfl ?_
  refine z_istore (M := (M_law nm)) (lv' := [some (vr 0), some (vr 32), some (vr 277), some (vr 359), some (vi i_0), some (vi x_13), none, none]) dL_law_227 (Nat.le_of_ble_eq_true rfl) rfl rfl ?_
  refine z_aload_n (M := (M_law nm)) dL_law_229 rfl ?_
  refine z_aload_n (M := (M_law nm)) dL_law_230 rfl ?_
  refine z_iload (M := (M_law nm)) dL_law_231 rfl ?_
  refine z_iconst (M := (M_law nm)) dL_law_233 ?_
  refine z_iadd (M := (M_law nm)) dL_law_234 ?_
  obtain ⟨hi_15, H⟩ := ck_e H
  obtain ⟨a_14, a_14_e, H⟩ := lt_e H
  refine z_sald (M := (M_law nm)) hx dL_law_235 rfl rfl hi_15 a_14_e.symm ?_
  refine z_aload_n (M := (M_law nm)) dL_law_236 rfl ?_
  refine z_iload (M := (M_law nm)) dL_law_237 rfl ?_
  refine z_iconst (M := (M_law nm)) dL_law_239 ?_
  refine z_iadd (M := (M_law nm)) dL_law_240 ?_
  obtain ⟨hi_17, H⟩ := ck_e H
  obtain ⟨a_16, a_16_e, H⟩ := lt_e H
  refine z_sald (M := (M_law nm)) hx dL_law_241 rfl rfl hi_17 a_16_e.symm ?_
  refine z_aload_n (M := (M_law nm)) dL_law_242 rfl ?_
  refine z_iload (M := (M_law nm)) dL_law_243 rfl ?_
  refine z_iconst (M := (M_law nm)) dL_law_245 ?_
  refine z_iadd (M := (M_law nm)) dL_law_246 ?_
  obtain ⟨hi_19, H⟩ := ck_e H
  obtain ⟨a_18, a_18_e, H⟩ := lt_e H
  refine z_sald (M := (M_law nm)) hx dL_law_247 rfl rfl hi_19 a_18_e.symm ?_
  refine z_aload_n (M := (M_law nm)) dL_law_248 rfl ?_
  refine z_iload (M := (M_law nm)) dL_law_249 rfl ?_
  refine z_iconst (M := (M_law nm)) dL_law_251 ?_
  refine z_iadd (M := (M_law nm)) dL_law_252 ?_
  obtain ⟨hi_21, H⟩ := ck_e H
  obtain ⟨a_20, a_20_e, H⟩ := lt_e H
  refine z_sald (M := (M_law nm)) hx dL_law_253 rfl rfl hi_21 a_20_e.symm ?_
  refine z_aload_n (M := (M_law nm)) dL_law_254 rfl ?_
  refine z_iload (M := (M_law nm)) dL_law_255 rfl ?_
  refine z_iconst (M := (M_law nm)) dL_law_257 ?_
  refine z_iadd (M := (M_law nm)) dL_law_258 ?_
  obtain ⟨hi_23, H⟩ := ck_e H
  obtain ⟨a_22, a_22_e, H⟩ := lt_e H
  refine z_sald (M := (M_law nm)) hx dL_law_259 rfl rfl hi_23 a_22_e.symm ?_
  obtain ⟨⟨x_26, σ_25⟩, hc_24, H⟩ := bd_e H
  refine z_callV (M := (M_law nm)) (M' := M_X12_feed) (as := [vi a_14, vi a_16, vi a_18, vi a_20, vi a_22]) (rest := []) rfl rfl dL_law_260 m_X12_feed t_2801 t_2802 t_2803 (c_X12_feed hl  hc_24) rfl rfl ly_277 rfl (Nat.le_of_ble_eq_true rfl) (Nat.le_of_ble_eq_true rfl) (by omega) (by omega) ?_
  refine z_st (st' := [vi x_26]) rfl ?_
  refine z_istore (M := (M_law nm)) (lv' := [some (vr 0), some (vr 32), some (vr 277), some (vr 359), some (vi i_0), some (vi x_13), some (vi x_26), none]) dL_law_263 (Nat.le_of_ble_eq_true rfl) rfl rfl ?_
  refine z_aload_n (M := (M_law nm)) dL_law_265 rfl ?_
  refine z_callV (M := (M_law nm)) (M' := M_X12_thrown) (as := []) (rest := []) rfl rfl dL_law_266 m_X12_thrown t_2797 t_2798 t_2799 (c_X12_thrown hl  rfl) rfl rfl ly_277 rfl (Nat.le_of_ble_eq_true rfl) (Nat.le_of_ble_eq_true rfl) (by omega) (by omega) ?_
  refine z_st (st' := [vi (fR_thrown σ_25)]) rfl ?_
  refine z_iload (M := (M_law nm)) dL_law_269 rfl ?_
  rcases if_e H with ⟨h_27, H⟩ | ⟨h_27, H⟩
  · refine z_icmp_eq_f (M := (M_law nm)) (tgt := 276) dL_law_271 (by decide) rfl rfl h_27 ?_
    refine z_zconst (M := (M_law nm)) (b := false) dL_law_274 rfl ?_
    cases H
  · refine z_icmp_eq_t (M := (M_law nm)) (tgt := 276) dL_law_271 (by decide) rfl rfl (Decidable.not_not.mp h_27) ?_
    refine z_iload (M := (M_law nm)) dL_law_276 rfl ?_
    rcases if_e H with ⟨h_35, H⟩ | ⟨h_35, H⟩
    · refine z_if_ne_f (M := (M_law nm)) (tgt := 293) dL_law_278 (by decide) rfl h_35 ?_
      refine z_aload_n (M := (M_law nm)) dL_law_281 rfl ?_
      refine z_iconst (M := (M_law nm)) dL_law_282 ?_
      obtain ⟨x_36, x_36_e, hi_37, H⟩ := rd_e H
      refine z_lald (M := (M_law nm)) dL_law_283 ly_359 rfl (by decide +kernel) rfl hi_37 x_36_e ?_
      refine z_iload (M := (M_law nm)) dL_law_284 rfl ?_
      refine z_i2l (M := (M_law nm)) dL_law_286 ?_
      refine z_lcmp (M := (M_law nm)) dL_law_287 ?_
      rcases if_e H with ⟨h_38, H⟩ | ⟨h_38, H⟩
      · refine z_lif_eq_f (M := (M_law nm)) (tgt := 293) dL_law_288 (by decide) rfl rfl h_38 ?_
        refine z_zconst (M := (M_law nm)) (b := false) dL_law_291 rfl ?_
        cases H
      · refine z_lif_eq_t (M := (M_law nm)) (tgt := 293) dL_law_288 (by decide) rfl rfl (Decidable.not_not.mp h_38) ?_
        refine z_goto (M := (M_law nm)) (tgt := 2449) dL_law_293 (by decide) ?_
        refine z_le (lv' := [some (vr 0), some (vr 32), some (vr 277), some (vr 359), some (vi i_0), none, none, none]) ⟨Or.inr rfl, Or.inr rfl, Or.inr rfl, Or.inr rfl, Or.inr rfl, Or.inl rfl, Or.inl rfl, Or.inl rfl, trivial⟩ ?_
        cases H
        exact z_wide (by omega) (by omega) J
    · refine z_if_ne_t (M := (M_law nm)) (tgt := 293) dL_law_278 (by decide) rfl h_35 ?_
      refine z_goto (M := (M_law nm)) (tgt := 2449) dL_law_293 (by decide) ?_
      refine z_le (lv' := [some (vr 0), some (vr 32), some (vr 277), some (vr 359), some (vi i_0), none, none, none]) ⟨Or.inr rfl, Or.inr rfl, Or.inr rfl, Or.inr rfl, Or.inr rfl, Or.inl rfl, Or.inl rfl, Or.inl rfl, trivial⟩ ?_
      cases H
      exact z_wide (by omega) (by omega) J
theorem s_case1 (hl : l.stackTraces = false) {nm : String} {post : Outc → SG → Prop} {σ σ' : SG} {xs : Nat → Int32} {L : Nat} (hx : E.2.2.2.2 0 = some (L, xs)) {i_0 : Int} {cu su : Nat} (hcu : cu + 16 ≤ 601024) (hsu : su + 96 ≤ 7293000) (H : fS_1 σ xs L i_0 = some (true, σ')) (J : YY l E (M_law nm) 1312 601024 7293000 post 2449 [some (vr 0), some (vr 32), some (vr 277), some (vr 359), some (vi i_0), none, none, none] [] σ' (cu + 16) (su + 96)) : YY l E (M_law nm) 1312 601024 7293000 post 296 [some (vr 0), some (vr 32), some (vr 277), some (vr 359), some (vi i_0), none, none, none] [] σ cu su := by
  unfold fS_1 at H
  refine z_aload_n (M := (M_law nm)) dL_law_296 rfl ?_
  refine z_aload_n (M := (M_law nm)) dL_law_297 rfl ?_
  refine z_iload (M := (M_law nm)) dL_law_298 rfl ?_
  refine z_iconst (M := (M_law nm)) dL_law_300 ?_
  refine z_iadd (M := (M_law nm)) dL_law_301 ?_
  obtain ⟨hi_2, H⟩ := ck_e H
  obtain ⟨a_1, a_1_e, H⟩ := lt_e H
  refine z_sald (M := (M_law nm)) hx dL_law_302 rfl rfl hi_2 a_1_e.symm ?_
  refine z_aload_n (M := (M_law nm)) dL_law_303 rfl ?_
  obtain ⟨⟨x_5, σ_4⟩, hc_3, H⟩ := bd_e H
  refine z_callSW (M := (M_law nm)) (M' := M_L_end) (as := [vr 32, vi a_1, vr 359]) (rest := []) rfl rfl dL_law_304 m_L_end t_713 t_714 (c_L_end hl hc_3) rfl rfl (Nat.le_of_ble_eq_true rfl) (Nat.le_of_ble_eq_true rfl) (by omega) (by omega) ?_
  refine z_st (st' := [vi x_5]) rfl ?_
  refine z_istore (M := (M_law nm)) (lv' := [some (vr 0), some (vr 32), some (vr 277), some (vr 359), some (vi i_0), some (vi x_5), none, none]) dL_law_307 (Nat.le_of_ble_eq_true rfl) rfl rfl ?_
  refine z_aload_n (M := (M_law nm)) dL_law_309 rfl ?_
  refine z_aload_n (M := (M_law nm)) dL_law_310 rfl ?_
  refine z_iload (M := (M_law nm)) dL_law_311 rfl ?_
  refine z_iconst (M := (M_law nm)) dL_law_313 ?_
  refine z_iadd (M := (M_law nm)) dL_law_314 ?_
  obtain ⟨hi_7, H⟩ := ck_e H
  obtain ⟨a_6, a_6_e, H⟩ := lt_e H
  refine z_sald (M := (M_law nm)) hx dL_law_315 rfl rfl hi_7 a_6_e.symm ?_
  obtain ⟨⟨x_10, σ_9⟩, hc_8, H⟩ := bd_e H
  refine z_callV (M := (M_law nm)) (M' := M_X12_end) (as := [vi a_6]) (rest := []) rfl rfl dL_law_316 m_X12_end t_2813 t_2814 t_2815 (c_X12_end hl  hc_8) rfl rfl ly_277 rfl (Nat.le_of_ble_eq_true rfl) (Nat.le_of_ble_eq_true rfl) (by omega) (by omega) ?_
  refine z_st (st' := [vi x_10]) rfl ?_
  refine z_istore (M := (M_law nm)) (lv' := [some (vr 0), some (vr 32), some (vr 277), some (vr 359), some (vi i_0), some (vi x_5), some (vi x_10), none]) dL_law_319 (Nat.le_of_ble_eq_true rfl) rfl rfl ?_
  refine z_aload_n (M := (M_law nm)) dL_law_321 rfl ?_
  refine z_callV (M := (M_law nm)) (M' := M_X12_thrown) (as := []) (rest := []) rfl rfl dL_law_322 m_X12_thrown t_2797 t_2798 t_2799 (c_X12_thrown hl  rfl) rfl rfl ly_277 rfl (Nat.le_of_ble_eq_true rfl) (Nat.le_of_ble_eq_true rfl) (by omega) (by omega) ?_
  refine z_st (st' := [vi (fR_thrown σ_9)]) rfl ?_
  refine z_iload (M := (M_law nm)) dL_law_325 rfl ?_
  rcases if_e H with ⟨h_11, H⟩ | ⟨h_11, H⟩
  · refine z_icmp_eq_f (M := (M_law nm)) (tgt := 332) dL_law_327 (by decide) rfl rfl h_11 ?_
    refine z_zconst (M := (M_law nm)) (b := false) dL_law_330 rfl ?_
    cases H
  · refine z_icmp_eq_t (M := (M_law nm)) (tgt := 332) dL_law_327 (by decide) rfl rfl (Decidable.not_not.mp h_11) ?_
    refine z_iload (M := (M_law nm)) dL_law_332 rfl ?_
    rcases if_e H with ⟨h_19, H⟩ | ⟨h_19, H⟩
    · refine z_if_ne_f (M := (M_law nm)) (tgt := 349) dL_law_334 (by decide) rfl h_19 ?_
      refine z_aload_n (M := (M_law nm)) dL_law_337 rfl ?_
      refine z_iconst (M := (M_law nm)) dL_law_338 ?_
      obtain ⟨x_20, x_20_e, hi_21, H⟩ := rd_e H
      refine z_lald (M := (M_law nm)) dL_law_339 ly_359 rfl (by decide +kernel) rfl hi_21 x_20_e ?_
      refine z_iload (M := (M_law nm)) dL_law_340 rfl ?_
      refine z_i2l (M := (M_law nm)) dL_law_342 ?_
      refine z_lcmp (M := (M_law nm)) dL_law_343 ?_
      rcases if_e H with ⟨h_22, H⟩ | ⟨h_22, H⟩
      · refine z_lif_eq_f (M := (M_law nm)) (tgt := 349) dL_law_344 (by decide) rfl rfl h_22 ?_
        refine z_zconst (M := (M_law nm)) (b := false) dL_law_347 rfl ?_
        cases H
      · refine z_lif_eq_t (M := (M_law nm)) (tgt := 349) dL_law_344 (by decide) rfl rfl (Decidable.not_not.mp h_22) ?_
        refine z_goto (M := (M_law nm)) (tgt := 2449) dL_law_349 (by decide) ?_
        refine z_le (lv' := [some (vr 0), some (vr 32), some (vr 277), some (vr 359), some (vi i_0), none, none, none]) ⟨Or.inr rfl, Or.inr rfl, Or.inr rfl, Or.inr rfl, Or.inr rfl, Or.inl rfl, Or.inl rfl, Or.inl rfl, trivial⟩ ?_
        cases H
        exact z_wide (by omega) (by omega) J
    · refine z_if_ne_t (M := (M_law nm)) (tgt := 349) dL_law_334 (by decide) rfl h_19 ?_
      refine z_goto (M := (M_law nm)) (tgt := 2449) dL_law_349 (by decide) ?_
      refine z_le (lv' := [some (vr 0), some (vr 32), some (vr 277), some (vr 359), some (vi i_0), none, none, none]) ⟨Or.inr rfl, Or.inr rfl, Or.inr rfl, Or.inr rfl, Or.inr rfl, Or.inl rfl, Or.inl rfl, Or.inl rfl, trivial⟩ ?_
      cases H
      exact z_wide (by omega) (by omega) J
theorem s_case2 (hl : l.stackTraces = false) {nm : String} {post : Outc → SG → Prop} {σ σ' : SG} {xs : Nat → Int32} {L : Nat} (hx : E.2.2.2.2 0 = some (L, xs)) {i_0 : Int} {cu su : Nat} (hcu : cu + 16 ≤ 601024) (hsu : su + 96 ≤ 7293000) (H : fS_2 σ xs L i_0 = some (true, σ')) (J : YY l E (M_law nm) 1312 601024 7293000 post 2449 [some (vr 0), some (vr 32), some (vr 277), some (vr 359), some (vi i_0), none, none, none] [] σ' (cu + 16) (su + 96)) : YY l E (M_law nm) 1312 601024 7293000 post 352 [some (vr 0), some (vr 32), some (vr 277), some (vr 359), some (vi i_0), none, none, none] [] σ cu su := by
  unfold fS_2 at H
  refine z_aload_n (M := (M_law nm)) dL_law_352 rfl ?_
  obtain ⟨⟨x_3, σ_2⟩, hc_1, H⟩ := bd_e H
  refine z_callV (M := (M_law nm)) (M' := M_X11_again) (as := []) (rest := []) rfl rfl dL_law_353 m_X11_again t_621 t_622 t_623 (c_X11_again hl  hc_1) rfl rfl ly_32 rfl (Nat.le_of_ble_eq_true rfl) (Nat.le_of_ble_eq_true rfl) (by omega) (by omega) ?_
  refine z_st (st' := [vi x_3]) rfl ?_
  refine z_aload_n (M := (M_law nm)) dL_law_356 rfl ?_
  obtain ⟨⟨x_6, σ_5⟩, hc_4, H⟩ := bd_e H
  refine z_callV (M := (M_law nm)) (M' := M_X12_again) (as := []) (rest := [vi x_3]) rfl rfl dL_law_357 m_X12_again t_2821 t_2822 t_2823 (c_X12_again hl  hc_4) rfl rfl ly_277 rfl (Nat.le_of_ble_eq_true rfl) (Nat.le_of_ble_eq_true rfl) (by omega) (by omega) ?_
  refine z_st (st' := [vi x_6, vi x_3]) rfl ?_
  rcases if_e H with ⟨h_7, H⟩ | ⟨h_7, H⟩
  · refine z_icmp_eq_f (M := (M_law nm)) (tgt := 2449) dL_law_360 (by decide) rfl rfl h_7 ?_
    refine z_zconst (M := (M_law nm)) (b := false) dL_law_363 rfl ?_
    cases H
  · refine z_icmp_eq_t (M := (M_law nm)) (tgt := 2449) dL_law_360 (by decide) rfl rfl (Decidable.not_not.mp h_7) ?_
    cases H
    exact z_wide (by omega) (by omega) J
theorem s_case3 (hl : l.stackTraces = false) {nm : String} {post : Outc → SG → Prop} {σ σ' : SG} {xs : Nat → Int32} {L : Nat} (hx : E.2.2.2.2 0 = some (L, xs)) {i_0 : Int} {cu su : Nat} (hcu : cu + 16 ≤ 601024) (hsu : su + 96 ≤ 7293000) (H : fS_3 σ xs L i_0 = some (true, σ')) (J : YY l E (M_law nm) 1312 601024 7293000 post 2449 [some (vr 0), some (vr 32), some (vr 277), some (vr 359), some (vi i_0), none, none, none] [] σ' (cu + 16) (su + 96)) : YY l E (M_law nm) 1312 601024 7293000 post 365 [some (vr 0), some (vr 32), some (vr 277), some (vr 359), some (vi i_0), none, none, none] [] σ cu su := by
  unfold fS_3 at H
  refine z_aload_n (M := (M_law nm)) dL_law_365 rfl ?_
  refine z_aload_n (M := (M_law nm)) dL_law_366 rfl ?_
  refine z_iload (M := (M_law nm)) dL_law_367 rfl ?_
  refine z_iconst (M := (M_law nm)) dL_law_369 ?_
  refine z_iadd (M := (M_law nm)) dL_law_370 ?_
  obtain ⟨hi_2, H⟩ := ck_e H
  obtain ⟨a_1, a_1_e, H⟩ := lt_e H
  refine z_sald (M := (M_law nm)) hx dL_law_371 rfl rfl hi_2 a_1_e.symm ?_
  refine z_aload_n (M := (M_law nm)) dL_law_372 rfl ?_
  obtain ⟨⟨x_5, σ_4⟩, hc_3, H⟩ := bd_e H
  refine z_callSW (M := (M_law nm)) (M' := M_L_readWords) (as := [vr 32, vi a_1, vr 359]) (rest := []) rfl rfl dL_law_373 m_L_readWords t_736 t_737 (c_L_readWords hl hc_3) rfl rfl (Nat.le_of_ble_eq_true rfl) (Nat.le_of_ble_eq_true rfl) (by omega) (by omega) ?_
  refine z_st (st' := [vi x_5]) rfl ?_
  refine z_istore (M := (M_law nm)) (lv' := [some (vr 0), some (vr 32), some (vr 277), some (vr 359), some (vi i_0), some (vi x_5), none, none]) dL_law_376 (Nat.le_of_ble_eq_true rfl) rfl rfl ?_
  refine z_aload_n (M := (M_law nm)) dL_law_378 rfl ?_
  refine z_aload_n (M := (M_law nm)) dL_law_379 rfl ?_
  refine z_iload (M := (M_law nm)) dL_law_380 rfl ?_
  refine z_iconst (M := (M_law nm)) dL_law_382 ?_
  refine z_iadd (M := (M_law nm)) dL_law_383 ?_
  obtain ⟨hi_7, H⟩ := ck_e H
  obtain ⟨a_6, a_6_e, H⟩ := lt_e H
  refine z_sald (M := (M_law nm)) hx dL_law_384 rfl rfl hi_7 a_6_e.symm ?_
  obtain ⟨⟨x_10, σ_9⟩, hc_8, H⟩ := bd_e H
  refine z_callV (M := (M_law nm)) (M' := M_X12_readWords) (as := [vi a_6]) (rest := []) rfl rfl dL_law_385 m_X12_readWords t_2833 t_2834 t_2835 (c_X12_readWords hl  hc_8) rfl rfl ly_277 rfl (Nat.le_of_ble_eq_true rfl) (Nat.le_of_ble_eq_true rfl) (by omega) (by omega) ?_
  refine z_st (st' := [vi x_10]) rfl ?_
  refine z_istore (M := (M_law nm)) (lv' := [some (vr 0), some (vr 32), some (vr 277), some (vr 359), some (vi i_0), some (vi x_5), some (vi x_10), none]) dL_law_388 (Nat.le_of_ble_eq_true rfl) rfl rfl ?_
  refine z_aload_n (M := (M_law nm)) dL_law_390 rfl ?_
  refine z_callV (M := (M_law nm)) (M' := M_X12_thrown) (as := []) (rest := []) rfl rfl dL_law_391 m_X12_thrown t_2797 t_2798 t_2799 (c_X12_thrown hl  rfl) rfl rfl ly_277 rfl (Nat.le_of_ble_eq_true rfl) (Nat.le_of_ble_eq_true rfl) (by omega) (by omega) ?_
  refine z_st (st' := [vi (fR_thrown σ_9)]) rfl ?_
  refine z_iload (M := (M_law nm)) dL_law_394 rfl ?_
  rcases if_e H with ⟨h_11, H⟩ | ⟨h_11, H⟩
  · refine z_icmp_eq_f (M := (M_law nm)) (tgt := 401) dL_law_396 (by decide) rfl rfl h_11 ?_
    refine z_zconst (M := (M_law nm)) (b := false) dL_law_399 rfl ?_
    cases H
  · refine z_icmp_eq_t (M := (M_law nm)) (tgt := 401) dL_law_396 (by decide) rfl rfl (Decidable.not_not.mp h_11) ?_
    refine z_iload (M := (M_law nm)) dL_law_401 rfl ?_
    rcases if_e H with ⟨h_19, H⟩ | ⟨h_19, H⟩
    · refine z_if_ne_f (M := (M_law nm)) (tgt := 418) dL_law_403 (by decide) rfl h_19 ?_
      refine z_aload_n (M := (M_law nm)) dL_law_406 rfl ?_
      refine z_iconst (M := (M_law nm)) dL_law_407 ?_
      obtain ⟨x_20, x_20_e, hi_21, H⟩ := rd_e H
      refine z_lald (M := (M_law nm)) dL_law_408 ly_359 rfl (by decide +kernel) rfl hi_21 x_20_e ?_
      refine z_iload (M := (M_law nm)) dL_law_409 rfl ?_
      refine z_i2l (M := (M_law nm)) dL_law_411 ?_
      refine z_lcmp (M := (M_law nm)) dL_law_412 ?_
      rcases if_e H with ⟨h_22, H⟩ | ⟨h_22, H⟩
      · refine z_lif_eq_f (M := (M_law nm)) (tgt := 418) dL_law_413 (by decide) rfl rfl h_22 ?_
        refine z_zconst (M := (M_law nm)) (b := false) dL_law_416 rfl ?_
        cases H
      · refine z_lif_eq_t (M := (M_law nm)) (tgt := 418) dL_law_413 (by decide) rfl rfl (Decidable.not_not.mp h_22) ?_
        refine z_goto (M := (M_law nm)) (tgt := 2449) dL_law_418 (by decide) ?_
        refine z_le (lv' := [some (vr 0), some (vr 32), some (vr 277), some (vr 359), some (vi i_0), none, none, none]) ⟨Or.inr rfl, Or.inr rfl, Or.inr rfl, Or.inr rfl, Or.inr rfl, Or.inl rfl, Or.inl rfl, Or.inl rfl, trivial⟩ ?_
        cases H
        exact z_wide (by omega) (by omega) J
    · refine z_if_ne_t (M := (M_law nm)) (tgt := 418) dL_law_403 (by decide) rfl h_19 ?_
      refine z_goto (M := (M_law nm)) (tgt := 2449) dL_law_418 (by decide) ?_
      refine z_le (lv' := [some (vr 0), some (vr 32), some (vr 277), some (vr 359), some (vi i_0), none, none, none]) ⟨Or.inr rfl, Or.inr rfl, Or.inr rfl, Or.inr rfl, Or.inr rfl, Or.inl rfl, Or.inl rfl, Or.inl rfl, trivial⟩ ?_
      cases H
      exact z_wide (by omega) (by omega) J
theorem s_case4 (hl : l.stackTraces = false) {nm : String} {post : Outc → SG → Prop} {σ σ' : SG} {xs : Nat → Int32} {L : Nat} (hx : E.2.2.2.2 0 = some (L, xs)) {i_0 : Int} {cu su : Nat} (hcu : cu + 16 ≤ 601024) (hsu : su + 96 ≤ 7293000) (H : fS_4 σ xs L i_0 = some (true, σ')) (J : YY l E (M_law nm) 1312 601024 7293000 post 2449 [some (vr 0), some (vr 32), some (vr 277), some (vr 359), some (vi i_0), none, none, none] [] σ' (cu + 16) (su + 96)) : YY l E (M_law nm) 1312 601024 7293000 post 421 [some (vr 0), some (vr 32), some (vr 277), some (vr 359), some (vi i_0), none, none, none] [] σ cu su := by
  unfold fS_4 at H
  refine z_aload_n (M := (M_law nm)) dL_law_421 rfl ?_
  refine z_aload_n (M := (M_law nm)) dL_law_422 rfl ?_
  refine z_iload (M := (M_law nm)) dL_law_423 rfl ?_
  refine z_iconst (M := (M_law nm)) dL_law_425 ?_
  refine z_iadd (M := (M_law nm)) dL_law_426 ?_
  obtain ⟨hi_2, H⟩ := ck_e H
  obtain ⟨a_1, a_1_e, H⟩ := lt_e H
  refine z_sald (M := (M_law nm)) hx dL_law_427 rfl rfl hi_2 a_1_e.symm ?_
  refine z_aload_n (M := (M_law nm)) dL_law_428 rfl ?_
  obtain ⟨⟨x_5, σ_4⟩, hc_3, H⟩ := bd_e H
  refine z_callSW (M := (M_law nm)) (M' := M_L_readBytes) (as := [vr 32, vi a_1, vr 359]) (rest := []) rfl rfl dL_law_429 m_L_readBytes t_954 t_955 (c_L_readBytes hl hc_3) rfl rfl (Nat.le_of_ble_eq_true rfl) (Nat.le_of_ble_eq_true rfl) (by omega) (by omega) ?_
  refine z_st (st' := [vi x_5]) rfl ?_
  refine z_istore (M := (M_law nm)) (lv' := [some (vr 0), some (vr 32), some (vr 277), some (vr 359), some (vi i_0), some (vi x_5), none, none]) dL_law_432 (Nat.le_of_ble_eq_true rfl) rfl rfl ?_
  refine z_aload_n (M := (M_law nm)) dL_law_434 rfl ?_
  refine z_aload_n (M := (M_law nm)) dL_law_435 rfl ?_
  refine z_iload (M := (M_law nm)) dL_law_436 rfl ?_
  refine z_iconst (M := (M_law nm)) dL_law_438 ?_
  refine z_iadd (M := (M_law nm)) dL_law_439 ?_
  obtain ⟨hi_7, H⟩ := ck_e H
  obtain ⟨a_6, a_6_e, H⟩ := lt_e H
  refine z_sald (M := (M_law nm)) hx dL_law_440 rfl rfl hi_7 a_6_e.symm ?_
  obtain ⟨⟨x_10, σ_9⟩, hc_8, H⟩ := bd_e H
  refine z_callV (M := (M_law nm)) (M' := M_X12_readBytes) (as := [vi a_6]) (rest := []) rfl rfl dL_law_441 m_X12_readBytes t_3025 t_3026 t_3027 (c_X12_readBytes hl  hc_8) rfl rfl ly_277 rfl (Nat.le_of_ble_eq_true rfl) (Nat.le_of_ble_eq_true rfl) (by omega) (by omega) ?_
  refine z_st (st' := [vi x_10]) rfl ?_
  refine z_istore (M := (M_law nm)) (lv' := [some (vr 0), some (vr 32), some (vr 277), some (vr 359), some (vi i_0), some (vi x_5), some (vi x_10), none]) dL_law_444 (Nat.le_of_ble_eq_true rfl) rfl rfl ?_
  refine z_aload_n (M := (M_law nm)) dL_law_446 rfl ?_
  refine z_callV (M := (M_law nm)) (M' := M_X12_thrown) (as := []) (rest := []) rfl rfl dL_law_447 m_X12_thrown t_2797 t_2798 t_2799 (c_X12_thrown hl  rfl) rfl rfl ly_277 rfl (Nat.le_of_ble_eq_true rfl) (Nat.le_of_ble_eq_true rfl) (by omega) (by omega) ?_
  refine z_st (st' := [vi (fR_thrown σ_9)]) rfl ?_
  refine z_iload (M := (M_law nm)) dL_law_450 rfl ?_
  rcases if_e H with ⟨h_11, H⟩ | ⟨h_11, H⟩
  · refine z_icmp_eq_f (M := (M_law nm)) (tgt := 457) dL_law_452 (by decide) rfl rfl h_11 ?_
    refine z_zconst (M := (M_law nm)) (b := false) dL_law_455 rfl ?_
    cases H
  · refine z_icmp_eq_t (M := (M_law nm)) (tgt := 457) dL_law_452 (by decide) rfl rfl (Decidable.not_not.mp h_11) ?_
    refine z_iload (M := (M_law nm)) dL_law_457 rfl ?_
    rcases if_e H with ⟨h_19, H⟩ | ⟨h_19, H⟩
    · refine z_if_ne_f (M := (M_law nm)) (tgt := 474) dL_law_459 (by decide) rfl h_19 ?_
      refine z_aload_n (M := (M_law nm)) dL_law_462 rfl ?_
      refine z_iconst (M := (M_law nm)) dL_law_463 ?_
      obtain ⟨x_20, x_20_e, hi_21, H⟩ := rd_e H
      refine z_lald (M := (M_law nm)) dL_law_464 ly_359 rfl (by decide +kernel) rfl hi_21 x_20_e ?_
      refine z_iload (M := (M_law nm)) dL_law_465 rfl ?_
      refine z_i2l (M := (M_law nm)) dL_law_467 ?_
      refine z_lcmp (M := (M_law nm)) dL_law_468 ?_
      rcases if_e H with ⟨h_22, H⟩ | ⟨h_22, H⟩
      · refine z_lif_eq_f (M := (M_law nm)) (tgt := 474) dL_law_469 (by decide) rfl rfl h_22 ?_
        refine z_zconst (M := (M_law nm)) (b := false) dL_law_472 rfl ?_
        cases H
      · refine z_lif_eq_t (M := (M_law nm)) (tgt := 474) dL_law_469 (by decide) rfl rfl (Decidable.not_not.mp h_22) ?_
        refine z_goto (M := (M_law nm)) (tgt := 2449) dL_law_474 (by decide) ?_
        refine z_le (lv' := [some (vr 0), some (vr 32), some (vr 277), some (vr 359), some (vi i_0), none, none, none]) ⟨Or.inr rfl, Or.inr rfl, Or.inr rfl, Or.inr rfl, Or.inr rfl, Or.inl rfl, Or.inl rfl, Or.inl rfl, trivial⟩ ?_
        cases H
        exact z_wide (by omega) (by omega) J
    · refine z_if_ne_t (M := (M_law nm)) (tgt := 474) dL_law_459 (by decide) rfl h_19 ?_
      refine z_goto (M := (M_law nm)) (tgt := 2449) dL_law_474 (by decide) ?_
      refine z_le (lv' := [some (vr 0), some (vr 32), some (vr 277), some (vr 359), some (vi i_0), none, none, none]) ⟨Or.inr rfl, Or.inr rfl, Or.inr rfl, Or.inr rfl, Or.inr rfl, Or.inl rfl, Or.inl rfl, Or.inl rfl, trivial⟩ ?_
      cases H
      exact z_wide (by omega) (by omega) J
theorem s_case5 (hl : l.stackTraces = false) {nm : String} {post : Outc → SG → Prop} {σ σ' : SG} {xs : Nat → Int32} {L : Nat} (hx : E.2.2.2.2 0 = some (L, xs)) {i_0 : Int} {cu su : Nat} (hcu : cu + 16 ≤ 601024) (hsu : su + 96 ≤ 7293000) (H : fS_5 σ xs L i_0 = some (true, σ')) (J : YY l E (M_law nm) 1312 601024 7293000 post 2449 [some (vr 0), some (vr 32), some (vr 277), some (vr 359), some (vi i_0), none, none, none] [] σ' (cu + 16) (su + 96)) : YY l E (M_law nm) 1312 601024 7293000 post 477 [some (vr 0), some (vr 32), some (vr 277), some (vr 359), some (vi i_0), none, none, none] [] σ cu su := by
  unfold fS_5 at H
  refine z_aload_n (M := (M_law nm)) dL_law_477 rfl ?_
  refine z_aload_n (M := (M_law nm)) dL_law_478 rfl ?_
  refine z_iload (M := (M_law nm)) dL_law_479 rfl ?_
  refine z_iconst (M := (M_law nm)) dL_law_481 ?_
  refine z_iadd (M := (M_law nm)) dL_law_482 ?_
  obtain ⟨hi_2, H⟩ := ck_e H
  obtain ⟨a_1, a_1_e, H⟩ := lt_e H
  refine z_sald (M := (M_law nm)) hx dL_law_483 rfl rfl hi_2 a_1_e.symm ?_
  refine z_aload_n (M := (M_law nm)) dL_law_484 rfl ?_
  obtain ⟨⟨x_5, σ_4⟩, hc_3, H⟩ := bd_e H
  refine z_callSW (M := (M_law nm)) (M' := M_L_fault) (as := [vr 32, vi a_1, vr 359]) (rest := []) rfl rfl dL_law_485 m_L_fault t_1033 t_1034 (c_L_fault hl hc_3) rfl rfl (Nat.le_of_ble_eq_true rfl) (Nat.le_of_ble_eq_true rfl) (by omega) (by omega) ?_
  refine z_st (st' := [vi x_5]) rfl ?_
  refine z_istore (M := (M_law nm)) (lv' := [some (vr 0), some (vr 32), some (vr 277), some (vr 359), some (vi i_0), some (vi x_5), none, none]) dL_law_488 (Nat.le_of_ble_eq_true rfl) rfl rfl ?_
  refine z_aload_n (M := (M_law nm)) dL_law_490 rfl ?_
  refine z_aload_n (M := (M_law nm)) dL_law_491 rfl ?_
  refine z_iload (M := (M_law nm)) dL_law_492 rfl ?_
  refine z_iconst (M := (M_law nm)) dL_law_494 ?_
  refine z_iadd (M := (M_law nm)) dL_law_495 ?_
  obtain ⟨hi_7, H⟩ := ck_e H
  obtain ⟨a_6, a_6_e, H⟩ := lt_e H
  refine z_sald (M := (M_law nm)) hx dL_law_496 rfl rfl hi_7 a_6_e.symm ?_
  obtain ⟨⟨x_10, σ_9⟩, hc_8, H⟩ := bd_e H
  refine z_callV (M := (M_law nm)) (M' := M_X12_fault) (as := [vi a_6]) (rest := []) rfl rfl dL_law_497 m_X12_fault t_2825 t_2826 t_2827 (c_X12_fault hl  hc_8) rfl rfl ly_277 rfl (Nat.le_of_ble_eq_true rfl) (Nat.le_of_ble_eq_true rfl) (by omega) (by omega) ?_
  refine z_st (st' := [vi x_10]) rfl ?_
  refine z_istore (M := (M_law nm)) (lv' := [some (vr 0), some (vr 32), some (vr 277), some (vr 359), some (vi i_0), some (vi x_5), some (vi x_10), none]) dL_law_500 (Nat.le_of_ble_eq_true rfl) rfl rfl ?_
  refine z_aload_n (M := (M_law nm)) dL_law_502 rfl ?_
  refine z_callV (M := (M_law nm)) (M' := M_X12_thrown) (as := []) (rest := []) rfl rfl dL_law_503 m_X12_thrown t_2797 t_2798 t_2799 (c_X12_thrown hl  rfl) rfl rfl ly_277 rfl (Nat.le_of_ble_eq_true rfl) (Nat.le_of_ble_eq_true rfl) (by omega) (by omega) ?_
  refine z_st (st' := [vi (fR_thrown σ_9)]) rfl ?_
  refine z_iload (M := (M_law nm)) dL_law_506 rfl ?_
  rcases if_e H with ⟨h_11, H⟩ | ⟨h_11, H⟩
  · refine z_icmp_eq_f (M := (M_law nm)) (tgt := 513) dL_law_508 (by decide) rfl rfl h_11 ?_
    refine z_zconst (M := (M_law nm)) (b := false) dL_law_511 rfl ?_
    cases H
  · refine z_icmp_eq_t (M := (M_law nm)) (tgt := 513) dL_law_508 (by decide) rfl rfl (Decidable.not_not.mp h_11) ?_
    refine z_iload (M := (M_law nm)) dL_law_513 rfl ?_
    rcases if_e H with ⟨h_19, H⟩ | ⟨h_19, H⟩
    · refine z_if_ne_f (M := (M_law nm)) (tgt := 530) dL_law_515 (by decide) rfl h_19 ?_
      refine z_aload_n (M := (M_law nm)) dL_law_518 rfl ?_
      refine z_iconst (M := (M_law nm)) dL_law_519 ?_
      obtain ⟨x_20, x_20_e, hi_21, H⟩ := rd_e H
      refine z_lald (M := (M_law nm)) dL_law_520 ly_359 rfl (by decide +kernel) rfl hi_21 x_20_e ?_
      refine z_iload (M := (M_law nm)) dL_law_521 rfl ?_
      refine z_i2l (M := (M_law nm)) dL_law_523 ?_
      refine z_lcmp (M := (M_law nm)) dL_law_524 ?_
      rcases if_e H with ⟨h_22, H⟩ | ⟨h_22, H⟩
      · refine z_lif_eq_f (M := (M_law nm)) (tgt := 530) dL_law_525 (by decide) rfl rfl h_22 ?_
        refine z_zconst (M := (M_law nm)) (b := false) dL_law_528 rfl ?_
        cases H
      · refine z_lif_eq_t (M := (M_law nm)) (tgt := 530) dL_law_525 (by decide) rfl rfl (Decidable.not_not.mp h_22) ?_
        refine z_goto (M := (M_law nm)) (tgt := 2449) dL_law_530 (by decide) ?_
        refine z_le (lv' := [some (vr 0), some (vr 32), some (vr 277), some (vr 359), some (vi i_0), none, none, none]) ⟨Or.inr rfl, Or.inr rfl, Or.inr rfl, Or.inr rfl, Or.inr rfl, Or.inl rfl, Or.inl rfl, Or.inl rfl, trivial⟩ ?_
        cases H
        exact z_wide (by omega) (by omega) J
    · refine z_if_ne_t (M := (M_law nm)) (tgt := 530) dL_law_515 (by decide) rfl h_19 ?_
      refine z_goto (M := (M_law nm)) (tgt := 2449) dL_law_530 (by decide) ?_
      refine z_le (lv' := [some (vr 0), some (vr 32), some (vr 277), some (vr 359), some (vi i_0), none, none, none]) ⟨Or.inr rfl, Or.inr rfl, Or.inr rfl, Or.inr rfl, Or.inr rfl, Or.inl rfl, Or.inl rfl, Or.inl rfl, trivial⟩ ?_
      cases H
      exact z_wide (by omega) (by omega) J
theorem s_case6 (hl : l.stackTraces = false) {nm : String} {post : Outc → SG → Prop} {σ σ' : SG} {xs : Nat → Int32} {L : Nat} (hx : E.2.2.2.2 0 = some (L, xs)) {i_0 : Int} {cu su : Nat} (hcu : cu + 16 ≤ 601024) (hsu : su + 96 ≤ 7293000) (H : fS_6 σ xs L i_0 = some (true, σ')) (J : YY l E (M_law nm) 1312 601024 7293000 post 2449 [some (vr 0), some (vr 32), some (vr 277), some (vr 359), some (vi i_0), none, none, none] [] σ' (cu + 16) (su + 96)) : YY l E (M_law nm) 1312 601024 7293000 post 533 [some (vr 0), some (vr 32), some (vr 277), some (vr 359), some (vi i_0), none, none, none] [] σ cu su := by
  unfold fS_6 at H
  refine z_aload_n (M := (M_law nm)) dL_law_533 rfl ?_
  refine z_aload_n (M := (M_law nm)) dL_law_534 rfl ?_
  refine z_iload (M := (M_law nm)) dL_law_535 rfl ?_
  refine z_iconst (M := (M_law nm)) dL_law_537 ?_
  refine z_iadd (M := (M_law nm)) dL_law_538 ?_
  obtain ⟨hi_2, H⟩ := ck_e H
  obtain ⟨a_1, a_1_e, H⟩ := lt_e H
  refine z_sald (M := (M_law nm)) hx dL_law_539 rfl rfl hi_2 a_1_e.symm ?_
  refine z_aload_n (M := (M_law nm)) dL_law_540 rfl ?_
  obtain ⟨⟨x_5, σ_4⟩, hc_3, H⟩ := bd_e H
  refine z_callSW (M := (M_law nm)) (M' := M_L_writeWords) (as := [vr 32, vi a_1, vr 359]) (rest := []) rfl rfl dL_law_541 m_L_writeWords t_1040 t_1041 (c_L_writeWords hl hc_3) rfl rfl (Nat.le_of_ble_eq_true rfl) (Nat.le_of_ble_eq_true rfl) (by omega) (by omega) ?_
  refine z_st (st' := [vi x_5]) rfl ?_
  refine z_istore (M := (M_law nm)) (lv' := [some (vr 0), some (vr 32), some (vr 277), some (vr 359), some (vi i_0), some (vi x_5), none, none]) dL_law_544 (Nat.le_of_ble_eq_true rfl) rfl rfl ?_
  refine z_aload_n (M := (M_law nm)) dL_law_546 rfl ?_
  refine z_aload_n (M := (M_law nm)) dL_law_547 rfl ?_
  refine z_iload (M := (M_law nm)) dL_law_548 rfl ?_
  refine z_iconst (M := (M_law nm)) dL_law_550 ?_
  refine z_iadd (M := (M_law nm)) dL_law_551 ?_
  obtain ⟨hi_7, H⟩ := ck_e H
  obtain ⟨a_6, a_6_e, H⟩ := lt_e H
  refine z_sald (M := (M_law nm)) hx dL_law_552 rfl rfl hi_7 a_6_e.symm ?_
  obtain ⟨⟨x_10, σ_9⟩, hc_8, H⟩ := bd_e H
  refine z_callV (M := (M_law nm)) (M' := M_X12_writeWords) (as := [vi a_6]) (rest := []) rfl rfl dL_law_553 m_X12_writeWords t_3029 t_3030 t_3031 (c_X12_writeWords hl  hc_8) rfl rfl ly_277 rfl (Nat.le_of_ble_eq_true rfl) (Nat.le_of_ble_eq_true rfl) (by omega) (by omega) ?_
  refine z_st (st' := [vi x_10]) rfl ?_
  refine z_istore (M := (M_law nm)) (lv' := [some (vr 0), some (vr 32), some (vr 277), some (vr 359), some (vi i_0), some (vi x_5), some (vi x_10), none]) dL_law_556 (Nat.le_of_ble_eq_true rfl) rfl rfl ?_
  refine z_aload_n (M := (M_law nm)) dL_law_558 rfl ?_
  refine z_callV (M := (M_law nm)) (M' := M_X12_thrown) (as := []) (rest := []) rfl rfl dL_law_559 m_X12_thrown t_2797 t_2798 t_2799 (c_X12_thrown hl  rfl) rfl rfl ly_277 rfl (Nat.le_of_ble_eq_true rfl) (Nat.le_of_ble_eq_true rfl) (by omega) (by omega) ?_
  refine z_st (st' := [vi (fR_thrown σ_9)]) rfl ?_
  refine z_iload (M := (M_law nm)) dL_law_562 rfl ?_
  rcases if_e H with ⟨h_11, H⟩ | ⟨h_11, H⟩
  · refine z_icmp_eq_f (M := (M_law nm)) (tgt := 569) dL_law_564 (by decide) rfl rfl h_11 ?_
    refine z_zconst (M := (M_law nm)) (b := false) dL_law_567 rfl ?_
    cases H
  · refine z_icmp_eq_t (M := (M_law nm)) (tgt := 569) dL_law_564 (by decide) rfl rfl (Decidable.not_not.mp h_11) ?_
    refine z_iload (M := (M_law nm)) dL_law_569 rfl ?_
    rcases if_e H with ⟨h_19, H⟩ | ⟨h_19, H⟩
    · refine z_if_ne_f (M := (M_law nm)) (tgt := 586) dL_law_571 (by decide) rfl h_19 ?_
      refine z_aload_n (M := (M_law nm)) dL_law_574 rfl ?_
      refine z_iconst (M := (M_law nm)) dL_law_575 ?_
      obtain ⟨x_20, x_20_e, hi_21, H⟩ := rd_e H
      refine z_lald (M := (M_law nm)) dL_law_576 ly_359 rfl (by decide +kernel) rfl hi_21 x_20_e ?_
      refine z_iload (M := (M_law nm)) dL_law_577 rfl ?_
      refine z_i2l (M := (M_law nm)) dL_law_579 ?_
      refine z_lcmp (M := (M_law nm)) dL_law_580 ?_
      rcases if_e H with ⟨h_22, H⟩ | ⟨h_22, H⟩
      · refine z_lif_eq_f (M := (M_law nm)) (tgt := 586) dL_law_581 (by decide) rfl rfl h_22 ?_
        refine z_zconst (M := (M_law nm)) (b := false) dL_law_584 rfl ?_
        cases H
      · refine z_lif_eq_t (M := (M_law nm)) (tgt := 586) dL_law_581 (by decide) rfl rfl (Decidable.not_not.mp h_22) ?_
        refine z_goto (M := (M_law nm)) (tgt := 2449) dL_law_586 (by decide) ?_
        refine z_le (lv' := [some (vr 0), some (vr 32), some (vr 277), some (vr 359), some (vi i_0), none, none, none]) ⟨Or.inr rfl, Or.inr rfl, Or.inr rfl, Or.inr rfl, Or.inr rfl, Or.inl rfl, Or.inl rfl, Or.inl rfl, trivial⟩ ?_
        cases H
        exact z_wide (by omega) (by omega) J
    · refine z_if_ne_t (M := (M_law nm)) (tgt := 586) dL_law_571 (by decide) rfl h_19 ?_
      refine z_goto (M := (M_law nm)) (tgt := 2449) dL_law_586 (by decide) ?_
      refine z_le (lv' := [some (vr 0), some (vr 32), some (vr 277), some (vr 359), some (vi i_0), none, none, none]) ⟨Or.inr rfl, Or.inr rfl, Or.inr rfl, Or.inr rfl, Or.inr rfl, Or.inl rfl, Or.inl rfl, Or.inl rfl, trivial⟩ ?_
      cases H
      exact z_wide (by omega) (by omega) J
theorem s_case7 (hl : l.stackTraces = false) {nm : String} {post : Outc → SG → Prop} {σ σ' : SG} {xs : Nat → Int32} {L : Nat} (hx : E.2.2.2.2 0 = some (L, xs)) {i_0 : Int} {cu su : Nat} (hcu : cu + 16 ≤ 601024) (hsu : su + 96 ≤ 7293000) (H : fS_7 σ xs L i_0 = some (true, σ')) (J : YY l E (M_law nm) 1312 601024 7293000 post 2449 [some (vr 0), some (vr 32), some (vr 277), some (vr 359), some (vi i_0), none, none, none] [] σ' (cu + 16) (su + 96)) : YY l E (M_law nm) 1312 601024 7293000 post 589 [some (vr 0), some (vr 32), some (vr 277), some (vr 359), some (vi i_0), none, none, none] [] σ cu su := by
  unfold fS_7 at H
  refine z_aload_n (M := (M_law nm)) dL_law_589 rfl ?_
  refine z_aload_n (M := (M_law nm)) dL_law_590 rfl ?_
  refine z_iload (M := (M_law nm)) dL_law_591 rfl ?_
  refine z_iconst (M := (M_law nm)) dL_law_593 ?_
  refine z_iadd (M := (M_law nm)) dL_law_594 ?_
  obtain ⟨hi_2, H⟩ := ck_e H
  obtain ⟨a_1, a_1_e, H⟩ := lt_e H
  refine z_sald (M := (M_law nm)) hx dL_law_595 rfl rfl hi_2 a_1_e.symm ?_
  refine z_aload_n (M := (M_law nm)) dL_law_596 rfl ?_
  refine z_iload (M := (M_law nm)) dL_law_597 rfl ?_
  refine z_iconst (M := (M_law nm)) dL_law_599 ?_
  refine z_iadd (M := (M_law nm)) dL_law_600 ?_
  obtain ⟨hi_4, H⟩ := ck_e H
  obtain ⟨a_3, a_3_e, H⟩ := lt_e H
  refine z_sald (M := (M_law nm)) hx dL_law_601 rfl rfl hi_4 a_3_e.symm ?_
  refine z_aload_n (M := (M_law nm)) dL_law_602 rfl ?_
  obtain ⟨⟨x_7, σ_6⟩, hc_5, H⟩ := bd_e H
  refine z_callSW (M := (M_law nm)) (M' := M_L_writeBytes) (as := [vr 32, vi a_1, vi a_3, vr 359]) (rest := []) rfl rfl dL_law_603 m_L_writeBytes t_1110 t_1111 (c_L_writeBytes hl hc_5) rfl rfl (Nat.le_of_ble_eq_true rfl) (Nat.le_of_ble_eq_true rfl) (by omega) (by omega) ?_
  refine z_st (st' := [vi x_7]) rfl ?_
  refine z_istore (M := (M_law nm)) (lv' := [some (vr 0), some (vr 32), some (vr 277), some (vr 359), some (vi i_0), some (vi x_7), none, none]) dL_law_606 (Nat.le_of_ble_eq_true rfl) rfl rfl ?_
  refine z_aload_n (M := (M_law nm)) dL_law_608 rfl ?_
  refine z_aload_n (M := (M_law nm)) dL_law_609 rfl ?_
  refine z_iload (M := (M_law nm)) dL_law_610 rfl ?_
  refine z_iconst (M := (M_law nm)) dL_law_612 ?_
  refine z_iadd (M := (M_law nm)) dL_law_613 ?_
  obtain ⟨hi_9, H⟩ := ck_e H
  obtain ⟨a_8, a_8_e, H⟩ := lt_e H
  refine z_sald (M := (M_law nm)) hx dL_law_614 rfl rfl hi_9 a_8_e.symm ?_
  refine z_aload_n (M := (M_law nm)) dL_law_615 rfl ?_
  refine z_iload (M := (M_law nm)) dL_law_616 rfl ?_
  refine z_iconst (M := (M_law nm)) dL_law_618 ?_
  refine z_iadd (M := (M_law nm)) dL_law_619 ?_
  obtain ⟨hi_11, H⟩ := ck_e H
  obtain ⟨a_10, a_10_e, H⟩ := lt_e H
  refine z_sald (M := (M_law nm)) hx dL_law_620 rfl rfl hi_11 a_10_e.symm ?_
  obtain ⟨⟨x_14, σ_13⟩, hc_12, H⟩ := bd_e H
  refine z_callV (M := (M_law nm)) (M' := M_X12_writeBytes) (as := [vi a_8, vi a_10]) (rest := []) rfl rfl dL_law_621 m_X12_writeBytes t_3074 t_3075 t_3076 (c_X12_writeBytes hl  hc_12) rfl rfl ly_277 rfl (Nat.le_of_ble_eq_true rfl) (Nat.le_of_ble_eq_true rfl) (by omega) (by omega) ?_
  refine z_st (st' := [vi x_14]) rfl ?_
  refine z_istore (M := (M_law nm)) (lv' := [some (vr 0), some (vr 32), some (vr 277), some (vr 359), some (vi i_0), some (vi x_7), some (vi x_14), none]) dL_law_624 (Nat.le_of_ble_eq_true rfl) rfl rfl ?_
  refine z_aload_n (M := (M_law nm)) dL_law_626 rfl ?_
  refine z_callV (M := (M_law nm)) (M' := M_X12_thrown) (as := []) (rest := []) rfl rfl dL_law_627 m_X12_thrown t_2797 t_2798 t_2799 (c_X12_thrown hl  rfl) rfl rfl ly_277 rfl (Nat.le_of_ble_eq_true rfl) (Nat.le_of_ble_eq_true rfl) (by omega) (by omega) ?_
  refine z_st (st' := [vi (fR_thrown σ_13)]) rfl ?_
  refine z_iload (M := (M_law nm)) dL_law_630 rfl ?_
  rcases if_e H with ⟨h_15, H⟩ | ⟨h_15, H⟩
  · refine z_icmp_eq_f (M := (M_law nm)) (tgt := 637) dL_law_632 (by decide) rfl rfl h_15 ?_
    refine z_zconst (M := (M_law nm)) (b := false) dL_law_635 rfl ?_
    cases H
  · refine z_icmp_eq_t (M := (M_law nm)) (tgt := 637) dL_law_632 (by decide) rfl rfl (Decidable.not_not.mp h_15) ?_
    refine z_iload (M := (M_law nm)) dL_law_637 rfl ?_
    rcases if_e H with ⟨h_23, H⟩ | ⟨h_23, H⟩
    · refine z_if_ne_f (M := (M_law nm)) (tgt := 654) dL_law_639 (by decide) rfl h_23 ?_
      refine z_aload_n (M := (M_law nm)) dL_law_642 rfl ?_
      refine z_iconst (M := (M_law nm)) dL_law_643 ?_
      obtain ⟨x_24, x_24_e, hi_25, H⟩ := rd_e H
      refine z_lald (M := (M_law nm)) dL_law_644 ly_359 rfl (by decide +kernel) rfl hi_25 x_24_e ?_
      refine z_iload (M := (M_law nm)) dL_law_645 rfl ?_
      refine z_i2l (M := (M_law nm)) dL_law_647 ?_
      refine z_lcmp (M := (M_law nm)) dL_law_648 ?_
      rcases if_e H with ⟨h_26, H⟩ | ⟨h_26, H⟩
      · refine z_lif_eq_f (M := (M_law nm)) (tgt := 654) dL_law_649 (by decide) rfl rfl h_26 ?_
        refine z_zconst (M := (M_law nm)) (b := false) dL_law_652 rfl ?_
        cases H
      · refine z_lif_eq_t (M := (M_law nm)) (tgt := 654) dL_law_649 (by decide) rfl rfl (Decidable.not_not.mp h_26) ?_
        refine z_goto (M := (M_law nm)) (tgt := 2449) dL_law_654 (by decide) ?_
        refine z_le (lv' := [some (vr 0), some (vr 32), some (vr 277), some (vr 359), some (vi i_0), none, none, none]) ⟨Or.inr rfl, Or.inr rfl, Or.inr rfl, Or.inr rfl, Or.inr rfl, Or.inl rfl, Or.inl rfl, Or.inl rfl, trivial⟩ ?_
        cases H
        exact z_wide (by omega) (by omega) J
    · refine z_if_ne_t (M := (M_law nm)) (tgt := 654) dL_law_639 (by decide) rfl h_23 ?_
      refine z_goto (M := (M_law nm)) (tgt := 2449) dL_law_654 (by decide) ?_
      refine z_le (lv' := [some (vr 0), some (vr 32), some (vr 277), some (vr 359), some (vi i_0), none, none, none]) ⟨Or.inr rfl, Or.inr rfl, Or.inr rfl, Or.inr rfl, Or.inr rfl, Or.inl rfl, Or.inl rfl, Or.inl rfl, trivial⟩ ?_
      cases H
      exact z_wide (by omega) (by omega) J
theorem s_case8 (hl : l.stackTraces = false) {nm : String} {post : Outc → SG → Prop} {σ σ' : SG} {xs : Nat → Int32} {L : Nat} (hx : E.2.2.2.2 0 = some (L, xs)) {i_0 : Int} {cu su : Nat} (hcu : cu + 16 ≤ 601024) (hsu : su + 96 ≤ 7293000) (H : fS_8 σ xs L i_0 = some (true, σ')) (J : YY l E (M_law nm) 1312 601024 7293000 post 2449 [some (vr 0), some (vr 32), some (vr 277), some (vr 359), some (vi i_0), none, none, none] [] σ' (cu + 16) (su + 96)) : YY l E (M_law nm) 1312 601024 7293000 post 657 [some (vr 0), some (vr 32), some (vr 277), some (vr 359), some (vi i_0), none, none, none] [] σ cu su := by
  unfold fS_8 at H
  refine z_aload_n (M := (M_law nm)) dL_law_657 rfl ?_
  refine z_aload_n (M := (M_law nm)) dL_law_658 rfl ?_
  refine z_iload (M := (M_law nm)) dL_law_659 rfl ?_
  refine z_iconst (M := (M_law nm)) dL_law_661 ?_
  refine z_iadd (M := (M_law nm)) dL_law_662 ?_
  obtain ⟨hi_2, H⟩ := ck_e H
  obtain ⟨a_1, a_1_e, H⟩ := lt_e H
  refine z_sald (M := (M_law nm)) hx dL_law_663 rfl rfl hi_2 a_1_e.symm ?_
  refine z_aload_n (M := (M_law nm)) dL_law_664 rfl ?_
  obtain ⟨⟨x_5, σ_4⟩, hc_3, H⟩ := bd_e H
  refine z_callSW (M := (M_law nm)) (M' := M_L_byteAt) (as := [vr 32, vi a_1, vr 359]) (rest := []) rfl rfl dL_law_665 m_L_byteAt t_1136 t_1137 (c_L_byteAt hl hc_3) rfl rfl (Nat.le_of_ble_eq_true rfl) (Nat.le_of_ble_eq_true rfl) (by omega) (by omega) ?_
  refine z_st (st' := [vi x_5]) rfl ?_
  refine z_istore (M := (M_law nm)) (lv' := [some (vr 0), some (vr 32), some (vr 277), some (vr 359), some (vi i_0), some (vi x_5), none, none]) dL_law_668 (Nat.le_of_ble_eq_true rfl) rfl rfl ?_
  refine z_aload_n (M := (M_law nm)) dL_law_670 rfl ?_
  refine z_aload_n (M := (M_law nm)) dL_law_671 rfl ?_
  refine z_iload (M := (M_law nm)) dL_law_672 rfl ?_
  refine z_iconst (M := (M_law nm)) dL_law_674 ?_
  refine z_iadd (M := (M_law nm)) dL_law_675 ?_
  obtain ⟨hi_7, H⟩ := ck_e H
  obtain ⟨a_6, a_6_e, H⟩ := lt_e H
  refine z_sald (M := (M_law nm)) hx dL_law_676 rfl rfl hi_7 a_6_e.symm ?_
  obtain ⟨⟨x_10, σ_9⟩, hc_8, H⟩ := bd_e H
  refine z_callV (M := (M_law nm)) (M' := M_X12_byteAt) (as := [vi a_6]) (rest := []) rfl rfl dL_law_677 m_X12_byteAt t_2829 t_2830 t_2831 (c_X12_byteAt hl  hc_8) rfl rfl ly_277 rfl (Nat.le_of_ble_eq_true rfl) (Nat.le_of_ble_eq_true rfl) (by omega) (by omega) ?_
  refine z_st (st' := [vi x_10]) rfl ?_
  refine z_istore (M := (M_law nm)) (lv' := [some (vr 0), some (vr 32), some (vr 277), some (vr 359), some (vi i_0), some (vi x_5), some (vi x_10), none]) dL_law_680 (Nat.le_of_ble_eq_true rfl) rfl rfl ?_
  refine z_aload_n (M := (M_law nm)) dL_law_682 rfl ?_
  refine z_callV (M := (M_law nm)) (M' := M_X12_thrown) (as := []) (rest := []) rfl rfl dL_law_683 m_X12_thrown t_2797 t_2798 t_2799 (c_X12_thrown hl  rfl) rfl rfl ly_277 rfl (Nat.le_of_ble_eq_true rfl) (Nat.le_of_ble_eq_true rfl) (by omega) (by omega) ?_
  refine z_st (st' := [vi (fR_thrown σ_9)]) rfl ?_
  refine z_iload (M := (M_law nm)) dL_law_686 rfl ?_
  rcases if_e H with ⟨h_11, H⟩ | ⟨h_11, H⟩
  · refine z_icmp_eq_f (M := (M_law nm)) (tgt := 693) dL_law_688 (by decide) rfl rfl h_11 ?_
    refine z_zconst (M := (M_law nm)) (b := false) dL_law_691 rfl ?_
    cases H
  · refine z_icmp_eq_t (M := (M_law nm)) (tgt := 693) dL_law_688 (by decide) rfl rfl (Decidable.not_not.mp h_11) ?_
    refine z_iload (M := (M_law nm)) dL_law_693 rfl ?_
    rcases if_e H with ⟨h_19, H⟩ | ⟨h_19, H⟩
    · refine z_if_ne_f (M := (M_law nm)) (tgt := 710) dL_law_695 (by decide) rfl h_19 ?_
      refine z_aload_n (M := (M_law nm)) dL_law_698 rfl ?_
      refine z_iconst (M := (M_law nm)) dL_law_699 ?_
      obtain ⟨x_20, x_20_e, hi_21, H⟩ := rd_e H
      refine z_lald (M := (M_law nm)) dL_law_700 ly_359 rfl (by decide +kernel) rfl hi_21 x_20_e ?_
      refine z_iload (M := (M_law nm)) dL_law_701 rfl ?_
      refine z_i2l (M := (M_law nm)) dL_law_703 ?_
      refine z_lcmp (M := (M_law nm)) dL_law_704 ?_
      rcases if_e H with ⟨h_22, H⟩ | ⟨h_22, H⟩
      · refine z_lif_eq_f (M := (M_law nm)) (tgt := 710) dL_law_705 (by decide) rfl rfl h_22 ?_
        refine z_zconst (M := (M_law nm)) (b := false) dL_law_708 rfl ?_
        cases H
      · refine z_lif_eq_t (M := (M_law nm)) (tgt := 710) dL_law_705 (by decide) rfl rfl (Decidable.not_not.mp h_22) ?_
        refine z_goto (M := (M_law nm)) (tgt := 2449) dL_law_710 (by decide) ?_
        refine z_le (lv' := [some (vr 0), some (vr 32), some (vr 277), some (vr 359), some (vi i_0), none, none, none]) ⟨Or.inr rfl, Or.inr rfl, Or.inr rfl, Or.inr rfl, Or.inr rfl, Or.inl rfl, Or.inl rfl, Or.inl rfl, trivial⟩ ?_
        cases H
        exact z_wide (by omega) (by omega) J
    · refine z_if_ne_t (M := (M_law nm)) (tgt := 710) dL_law_695 (by decide) rfl h_19 ?_
      refine z_goto (M := (M_law nm)) (tgt := 2449) dL_law_710 (by decide) ?_
      refine z_le (lv' := [some (vr 0), some (vr 32), some (vr 277), some (vr 359), some (vi i_0), none, none, none]) ⟨Or.inr rfl, Or.inr rfl, Or.inr rfl, Or.inr rfl, Or.inr rfl, Or.inl rfl, Or.inl rfl, Or.inl rfl, trivial⟩ ?_
      cases H
      exact z_wide (by omega) (by omega) J
theorem s_case9 (hl : l.stackTraces = false) {nm : String} {post : Outc → SG → Prop} {σ σ' : SG} {xs : Nat → Int32} {L : Nat} (hx : E.2.2.2.2 0 = some (L, xs)) {i_0 : Int} {cu su : Nat} (hcu : cu + 16 ≤ 601024) (hsu : su + 96 ≤ 7293000) (H : fS_9 σ xs L i_0 = some (true, σ')) (J : YY l E (M_law nm) 1312 601024 7293000 post 2449 [some (vr 0), some (vr 32), some (vr 277), some (vr 359), some (vi i_0), none, none, none] [] σ' (cu + 16) (su + 96)) : YY l E (M_law nm) 1312 601024 7293000 post 713 [some (vr 0), some (vr 32), some (vr 277), some (vr 359), some (vi i_0), none, none, none] [] σ cu su := by
  unfold fS_9 at H
  refine z_aload_n (M := (M_law nm)) dL_law_713 rfl ?_
  refine z_aload_n (M := (M_law nm)) dL_law_714 rfl ?_
  refine z_iload (M := (M_law nm)) dL_law_715 rfl ?_
  refine z_iconst (M := (M_law nm)) dL_law_717 ?_
  refine z_iadd (M := (M_law nm)) dL_law_718 ?_
  obtain ⟨hi_2, H⟩ := ck_e H
  obtain ⟨a_1, a_1_e, H⟩ := lt_e H
  refine z_sald (M := (M_law nm)) hx dL_law_719 rfl rfl hi_2 a_1_e.symm ?_
  refine z_aload_n (M := (M_law nm)) dL_law_720 rfl ?_
  refine z_iload (M := (M_law nm)) dL_law_721 rfl ?_
  refine z_iconst (M := (M_law nm)) dL_law_723 ?_
  refine z_iadd (M := (M_law nm)) dL_law_724 ?_
  obtain ⟨hi_4, H⟩ := ck_e H
  obtain ⟨a_3, a_3_e, H⟩ := lt_e H
  refine z_sald (M := (M_law nm)) hx dL_law_725 rfl rfl hi_4 a_3_e.symm ?_
  refine z_aload_n (M := (M_law nm)) dL_law_726 rfl ?_
  obtain ⟨⟨x_7, σ_6⟩, hc_5, H⟩ := bd_e H
  refine z_callSW (M := (M_law nm)) (M' := M_L_copy) (as := [vr 32, vi a_1, vi a_3, vr 359]) (rest := []) rfl rfl dL_law_727 m_L_copy t_1143 t_1144 (c_L_copy hl hc_5) rfl rfl (Nat.le_of_ble_eq_true rfl) (Nat.le_of_ble_eq_true rfl) (by omega) (by omega) ?_
  refine z_st (st' := [vi x_7]) rfl ?_
  refine z_istore (M := (M_law nm)) (lv' := [some (vr 0), some (vr 32), some (vr 277), some (vr 359), some (vi i_0), some (vi x_7), none, none]) dL_law_730 (Nat.le_of_ble_eq_true rfl) rfl rfl ?_
  refine z_aload_n (M := (M_law nm)) dL_law_732 rfl ?_
  refine z_aload_n (M := (M_law nm)) dL_law_733 rfl ?_
  refine z_iload (M := (M_law nm)) dL_law_734 rfl ?_
  refine z_iconst (M := (M_law nm)) dL_law_736 ?_
  refine z_iadd (M := (M_law nm)) dL_law_737 ?_
  obtain ⟨hi_9, H⟩ := ck_e H
  obtain ⟨a_8, a_8_e, H⟩ := lt_e H
  refine z_sald (M := (M_law nm)) hx dL_law_738 rfl rfl hi_9 a_8_e.symm ?_
  refine z_aload_n (M := (M_law nm)) dL_law_739 rfl ?_
  refine z_iload (M := (M_law nm)) dL_law_740 rfl ?_
  refine z_iconst (M := (M_law nm)) dL_law_742 ?_
  refine z_iadd (M := (M_law nm)) dL_law_743 ?_
  obtain ⟨hi_11, H⟩ := ck_e H
  obtain ⟨a_10, a_10_e, H⟩ := lt_e H
  refine z_sald (M := (M_law nm)) hx dL_law_744 rfl rfl hi_11 a_10_e.symm ?_
  obtain ⟨⟨x_14, σ_13⟩, hc_12, H⟩ := bd_e H
  refine z_callV (M := (M_law nm)) (M' := M_X12_copy) (as := [vi a_8, vi a_10]) (rest := []) rfl rfl dL_law_745 m_X12_copy t_3094 t_3095 t_3096 (c_X12_copy hl  hc_12) rfl rfl ly_277 rfl (Nat.le_of_ble_eq_true rfl) (Nat.le_of_ble_eq_true rfl) (by omega) (by omega) ?_
  refine z_st (st' := [vi x_14]) rfl ?_
  refine z_istore (M := (M_law nm)) (lv' := [some (vr 0), some (vr 32), some (vr 277), some (vr 359), some (vi i_0), some (vi x_7), some (vi x_14), none]) dL_law_748 (Nat.le_of_ble_eq_true rfl) rfl rfl ?_
  refine z_aload_n (M := (M_law nm)) dL_law_750 rfl ?_
  refine z_callV (M := (M_law nm)) (M' := M_X12_thrown) (as := []) (rest := []) rfl rfl dL_law_751 m_X12_thrown t_2797 t_2798 t_2799 (c_X12_thrown hl  rfl) rfl rfl ly_277 rfl (Nat.le_of_ble_eq_true rfl) (Nat.le_of_ble_eq_true rfl) (by omega) (by omega) ?_
  refine z_st (st' := [vi (fR_thrown σ_13)]) rfl ?_
  refine z_iload (M := (M_law nm)) dL_law_754 rfl ?_
  rcases if_e H with ⟨h_15, H⟩ | ⟨h_15, H⟩
  · refine z_icmp_eq_f (M := (M_law nm)) (tgt := 761) dL_law_756 (by decide) rfl rfl h_15 ?_
    refine z_zconst (M := (M_law nm)) (b := false) dL_law_759 rfl ?_
    cases H
  · refine z_icmp_eq_t (M := (M_law nm)) (tgt := 761) dL_law_756 (by decide) rfl rfl (Decidable.not_not.mp h_15) ?_
    refine z_iload (M := (M_law nm)) dL_law_761 rfl ?_
    rcases if_e H with ⟨h_23, H⟩ | ⟨h_23, H⟩
    · refine z_if_ne_f (M := (M_law nm)) (tgt := 778) dL_law_763 (by decide) rfl h_23 ?_
      refine z_aload_n (M := (M_law nm)) dL_law_766 rfl ?_
      refine z_iconst (M := (M_law nm)) dL_law_767 ?_
      obtain ⟨x_24, x_24_e, hi_25, H⟩ := rd_e H
      refine z_lald (M := (M_law nm)) dL_law_768 ly_359 rfl (by decide +kernel) rfl hi_25 x_24_e ?_
      refine z_iload (M := (M_law nm)) dL_law_769 rfl ?_
      refine z_i2l (M := (M_law nm)) dL_law_771 ?_
      refine z_lcmp (M := (M_law nm)) dL_law_772 ?_
      rcases if_e H with ⟨h_26, H⟩ | ⟨h_26, H⟩
      · refine z_lif_eq_f (M := (M_law nm)) (tgt := 778) dL_law_773 (by decide) rfl rfl h_26 ?_
        refine z_zconst (M := (M_law nm)) (b := false) dL_law_776 rfl ?_
        cases H
      · refine z_lif_eq_t (M := (M_law nm)) (tgt := 778) dL_law_773 (by decide) rfl rfl (Decidable.not_not.mp h_26) ?_
        refine z_goto (M := (M_law nm)) (tgt := 2449) dL_law_778 (by decide) ?_
        refine z_le (lv' := [some (vr 0), some (vr 32), some (vr 277), some (vr 359), some (vi i_0), none, none, none]) ⟨Or.inr rfl, Or.inr rfl, Or.inr rfl, Or.inr rfl, Or.inr rfl, Or.inl rfl, Or.inl rfl, Or.inl rfl, trivial⟩ ?_
        cases H
        exact z_wide (by omega) (by omega) J
    · refine z_if_ne_t (M := (M_law nm)) (tgt := 778) dL_law_763 (by decide) rfl h_23 ?_
      refine z_goto (M := (M_law nm)) (tgt := 2449) dL_law_778 (by decide) ?_
      refine z_le (lv' := [some (vr 0), some (vr 32), some (vr 277), some (vr 359), some (vi i_0), none, none, none]) ⟨Or.inr rfl, Or.inr rfl, Or.inr rfl, Or.inr rfl, Or.inr rfl, Or.inl rfl, Or.inl rfl, Or.inl rfl, trivial⟩ ?_
      cases H
      exact z_wide (by omega) (by omega) J
theorem s_case10 (hl : l.stackTraces = false) {nm : String} {post : Outc → SG → Prop} {σ σ' : SG} {xs : Nat → Int32} {L : Nat} (hx : E.2.2.2.2 0 = some (L, xs)) {i_0 : Int} {cu su : Nat} (hcu : cu + 16 ≤ 601024) (hsu : su + 96 ≤ 7293000) (H : fS_10 σ xs L i_0 = some (true, σ')) (J : YY l E (M_law nm) 1312 601024 7293000 post 2449 [some (vr 0), some (vr 32), some (vr 277), some (vr 359), some (vi i_0), none, none, none] [] σ' (cu + 16) (su + 96)) : YY l E (M_law nm) 1312 601024 7293000 post 781 [some (vr 0), some (vr 32), some (vr 277), some (vr 359), some (vi i_0), none, none, none] [] σ cu su := by
  unfold fS_10 at H
  refine z_aload_n (M := (M_law nm)) dL_law_781 rfl ?_
  refine z_aload_n (M := (M_law nm)) dL_law_782 rfl ?_
  refine z_iload (M := (M_law nm)) dL_law_783 rfl ?_
  refine z_iconst (M := (M_law nm)) dL_law_785 ?_
  refine z_iadd (M := (M_law nm)) dL_law_786 ?_
  obtain ⟨hi_2, H⟩ := ck_e H
  obtain ⟨a_1, a_1_e, H⟩ := lt_e H
  refine z_sald (M := (M_law nm)) hx dL_law_787 rfl rfl hi_2 a_1_e.symm ?_
  refine z_aload_n (M := (M_law nm)) dL_law_788 rfl ?_
  obtain ⟨⟨x_5, σ_4⟩, hc_3, H⟩ := bd_e H
  refine z_callSW (M := (M_law nm)) (M' := M_L_drop) (as := [vr 32, vi a_1, vr 359]) (rest := []) rfl rfl dL_law_789 m_L_drop t_1155 t_1156 (c_L_drop hl hc_3) rfl rfl (Nat.le_of_ble_eq_true rfl) (Nat.le_of_ble_eq_true rfl) (by omega) (by omega) ?_
  refine z_st (st' := [vi x_5]) rfl ?_
  refine z_istore (M := (M_law nm)) (lv' := [some (vr 0), some (vr 32), some (vr 277), some (vr 359), some (vi i_0), some (vi x_5), none, none]) dL_law_792 (Nat.le_of_ble_eq_true rfl) rfl rfl ?_
  refine z_aload_n (M := (M_law nm)) dL_law_794 rfl ?_
  refine z_aload_n (M := (M_law nm)) dL_law_795 rfl ?_
  refine z_iload (M := (M_law nm)) dL_law_796 rfl ?_
  refine z_iconst (M := (M_law nm)) dL_law_798 ?_
  refine z_iadd (M := (M_law nm)) dL_law_799 ?_
  obtain ⟨hi_7, H⟩ := ck_e H
  obtain ⟨a_6, a_6_e, H⟩ := lt_e H
  refine z_sald (M := (M_law nm)) hx dL_law_800 rfl rfl hi_7 a_6_e.symm ?_
  obtain ⟨⟨x_10, σ_9⟩, hc_8, H⟩ := bd_e H
  refine z_callV (M := (M_law nm)) (M' := M_X12_drop) (as := [vi a_6]) (rest := []) rfl rfl dL_law_801 m_X12_drop t_3098 t_3099 t_3100 (c_X12_drop hl  hc_8) rfl rfl ly_277 rfl (Nat.le_of_ble_eq_true rfl) (Nat.le_of_ble_eq_true rfl) (by omega) (by omega) ?_
  refine z_st (st' := [zv x_10]) rfl ?_
  refine z_zstore (M := (M_law nm)) (lv' := [some (vr 0), some (vr 32), some (vr 277), some (vr 359), some (vi i_0), some (vi x_5), some (zv x_10), none]) dL_law_804 (Nat.le_of_ble_eq_true rfl) rfl rfl ?_
  refine z_aload_n (M := (M_law nm)) dL_law_806 rfl ?_
  refine z_callV (M := (M_law nm)) (M' := M_X12_thrown) (as := []) (rest := []) rfl rfl dL_law_807 m_X12_thrown t_2797 t_2798 t_2799 (c_X12_thrown hl  rfl) rfl rfl ly_277 rfl (Nat.le_of_ble_eq_true rfl) (Nat.le_of_ble_eq_true rfl) (by omega) (by omega) ?_
  refine z_st (st' := [vi (fR_thrown σ_9)]) rfl ?_
  refine z_iload (M := (M_law nm)) dL_law_810 rfl ?_
  rcases if_e H with ⟨h_11, H⟩ | ⟨h_11, H⟩
  · refine z_icmp_eq_f (M := (M_law nm)) (tgt := 817) dL_law_812 (by decide) rfl rfl h_11 ?_
    refine z_zconst (M := (M_law nm)) (b := false) dL_law_815 rfl ?_
    cases H
  · refine z_icmp_eq_t (M := (M_law nm)) (tgt := 817) dL_law_812 (by decide) rfl rfl (Decidable.not_not.mp h_11) ?_
    refine z_iload (M := (M_law nm)) dL_law_817 rfl ?_
    rcases if_e H with ⟨h_21, H⟩ | ⟨h_21, H⟩
    · refine z_if_ne_f (M := (M_law nm)) (tgt := 841) dL_law_819 (by decide) rfl h_21 ?_
      refine z_aload_n (M := (M_law nm)) dL_law_822 rfl ?_
      refine z_iconst (M := (M_law nm)) dL_law_823 ?_
      obtain ⟨x_22, x_22_e, hi_23, H⟩ := rd_e H
      refine z_lald (M := (M_law nm)) dL_law_824 ly_359 rfl (by decide +kernel) rfl hi_23 x_22_e ?_
      have J_24 : YY l E (M_law nm) 1312 601024 7293000 post 835 [some (vr 0), some (vr 32), some (vr 277), some (vr 359), some (vi i_0), some (vi x_5), some (zv x_10), none] [vl (if x_10 = true then 1 else 0), vl x_22] σ_9 (cu + 1) (su + 6) := by
        refine z_lcmp (M := (M_law nm)) dL_law_835 ?_
        rcases if_e H with ⟨h_25, H⟩ | ⟨h_25, H⟩
        · refine z_lif_eq_f (M := (M_law nm)) (tgt := 841) dL_law_836 (by decide) rfl rfl h_25 ?_
          refine z_zconst (M := (M_law nm)) (b := false) dL_law_839 rfl ?_
          cases H
        · refine z_lif_eq_t (M := (M_law nm)) (tgt := 841) dL_law_836 (by decide) rfl rfl (Decidable.not_not.mp h_25) ?_
          refine z_goto (M := (M_law nm)) (tgt := 2449) dL_law_841 (by decide) ?_
          refine z_le (lv' := [some (vr 0), some (vr 32), some (vr 277), some (vr 359), some (vi i_0), none, none, none]) ⟨Or.inr rfl, Or.inr rfl, Or.inr rfl, Or.inr rfl, Or.inr rfl, Or.inl rfl, Or.inl rfl, Or.inl rfl, trivial⟩ ?_
          cases H
          exact z_wide (by omega) (by omega) J
      refine z_zload (M := (M_law nm)) dL_law_825 rfl ?_
      by_cases h_26 : x_10 = true
      · refine z_zeq_f (M := (M_law nm)) (tgt := 834) dL_law_827 (by decide) h_26 ?_
        refine z_lconst (M := (M_law nm)) (m := 1) dL_law_830 (by decide +kernel) ?_
        refine z_goto (M := (M_law nm)) (tgt := 835) dL_law_831 (by decide) ?_
        exact z_st (by rw [if_pos (c := x_10 = true) h_26]) J_24
      · refine z_zeq_t (M := (M_law nm)) (tgt := 834) dL_law_827 (by decide) h_26 ?_
        refine z_lconst (M := (M_law nm)) (m := 0) dL_law_834 (by decide +kernel) ?_
        exact z_st (by rw [if_neg (c := x_10 = true) h_26]) J_24
    · refine z_if_ne_t (M := (M_law nm)) (tgt := 841) dL_law_819 (by decide) rfl h_21 ?_
      refine z_goto (M := (M_law nm)) (tgt := 2449) dL_law_841 (by decide) ?_
      refine z_le (lv' := [some (vr 0), some (vr 32), some (vr 277), some (vr 359), some (vi i_0), none, none, none]) ⟨Or.inr rfl, Or.inr rfl, Or.inr rfl, Or.inr rfl, Or.inr rfl, Or.inl rfl, Or.inl rfl, Or.inl rfl, trivial⟩ ?_
      cases H
      exact z_wide (by omega) (by omega) J
theorem s_case11 (hl : l.stackTraces = false) {nm : String} {post : Outc → SG → Prop} {σ σ' : SG} {xs : Nat → Int32} {L : Nat} (hx : E.2.2.2.2 0 = some (L, xs)) {i_0 : Int} {cu su : Nat} (hcu : cu + 16 ≤ 601024) (hsu : su + 96 ≤ 7293000) (H : fS_11 σ xs L i_0 = some (true, σ')) (J : YY l E (M_law nm) 1312 601024 7293000 post 2449 [some (vr 0), some (vr 32), some (vr 277), some (vr 359), some (vi i_0), none, none, none] [] σ' (cu + 16) (su + 96)) : YY l E (M_law nm) 1312 601024 7293000 post 844 [some (vr 0), some (vr 32), some (vr 277), some (vr 359), some (vi i_0), none, none, none] [] σ cu su := by
  unfold fS_11 at H
  refine z_aload_n (M := (M_law nm)) dL_law_844 rfl ?_
  refine z_aload_n (M := (M_law nm)) dL_law_845 rfl ?_
  refine z_iload (M := (M_law nm)) dL_law_846 rfl ?_
  refine z_iconst (M := (M_law nm)) dL_law_848 ?_
  refine z_iadd (M := (M_law nm)) dL_law_849 ?_
  obtain ⟨hi_2, H⟩ := ck_e H
  obtain ⟨a_1, a_1_e, H⟩ := lt_e H
  refine z_sald (M := (M_law nm)) hx dL_law_850 rfl rfl hi_2 a_1_e.symm ?_
  refine z_aload_n (M := (M_law nm)) dL_law_851 rfl ?_
  refine z_iload (M := (M_law nm)) dL_law_852 rfl ?_
  refine z_iconst (M := (M_law nm)) dL_law_854 ?_
  refine z_iadd (M := (M_law nm)) dL_law_855 ?_
  obtain ⟨hi_4, H⟩ := ck_e H
  obtain ⟨a_3, a_3_e, H⟩ := lt_e H
  refine z_sald (M := (M_law nm)) hx dL_law_856 rfl rfl hi_4 a_3_e.symm ?_
  refine z_aload_n (M := (M_law nm)) dL_law_857 rfl ?_
  obtain ⟨⟨x_7, σ_6⟩, hc_5, H⟩ := bd_e H
  refine z_callSW (M := (M_law nm)) (M' := M_L_same) (as := [vr 32, vi a_1, vi a_3, vr 359]) (rest := []) rfl rfl dL_law_858 m_L_same t_1162 t_1163 (c_L_same hl hc_5) rfl rfl (Nat.le_of_ble_eq_true rfl) (Nat.le_of_ble_eq_true rfl) (by omega) (by omega) ?_
  refine z_st (st' := [vi x_7]) rfl ?_
  refine z_istore (M := (M_law nm)) (lv' := [some (vr 0), some (vr 32), some (vr 277), some (vr 359), some (vi i_0), some (vi x_7), none, none]) dL_law_861 (Nat.le_of_ble_eq_true rfl) rfl rfl ?_
  refine z_aload_n (M := (M_law nm)) dL_law_863 rfl ?_
  refine z_aload_n (M := (M_law nm)) dL_law_864 rfl ?_
  refine z_iload (M := (M_law nm)) dL_law_865 rfl ?_
  refine z_iconst (M := (M_law nm)) dL_law_867 ?_
  refine z_iadd (M := (M_law nm)) dL_law_868 ?_
  obtain ⟨hi_9, H⟩ := ck_e H
  obtain ⟨a_8, a_8_e, H⟩ := lt_e H
  refine z_sald (M := (M_law nm)) hx dL_law_869 rfl rfl hi_9 a_8_e.symm ?_
  refine z_aload_n (M := (M_law nm)) dL_law_870 rfl ?_
  refine z_iload (M := (M_law nm)) dL_law_871 rfl ?_
  refine z_iconst (M := (M_law nm)) dL_law_873 ?_
  refine z_iadd (M := (M_law nm)) dL_law_874 ?_
  obtain ⟨hi_11, H⟩ := ck_e H
  obtain ⟨a_10, a_10_e, H⟩ := lt_e H
  refine z_sald (M := (M_law nm)) hx dL_law_875 rfl rfl hi_11 a_10_e.symm ?_
  obtain ⟨⟨x_14, σ_13⟩, hc_12, H⟩ := bd_e H
  refine z_callV (M := (M_law nm)) (M' := M_X12_same) (as := [vi a_8, vi a_10]) (rest := []) rfl rfl dL_law_876 m_X12_same t_3102 t_3103 t_3104 (c_X12_same hl  hc_12) rfl rfl ly_277 rfl (Nat.le_of_ble_eq_true rfl) (Nat.le_of_ble_eq_true rfl) (by omega) (by omega) ?_
  refine z_st (st' := [zv x_14]) rfl ?_
  refine z_zstore (M := (M_law nm)) (lv' := [some (vr 0), some (vr 32), some (vr 277), some (vr 359), some (vi i_0), some (vi x_7), some (zv x_14), none]) dL_law_879 (Nat.le_of_ble_eq_true rfl) rfl rfl ?_
  refine z_aload_n (M := (M_law nm)) dL_law_881 rfl ?_
  refine z_callV (M := (M_law nm)) (M' := M_X12_thrown) (as := []) (rest := []) rfl rfl dL_law_882 m_X12_thrown t_2797 t_2798 t_2799 (c_X12_thrown hl  rfl) rfl rfl ly_277 rfl (Nat.le_of_ble_eq_true rfl) (Nat.le_of_ble_eq_true rfl) (by omega) (by omega) ?_
  refine z_st (st' := [vi (fR_thrown σ_13)]) rfl ?_
  refine z_iload (M := (M_law nm)) dL_law_885 rfl ?_
  rcases if_e H with ⟨h_15, H⟩ | ⟨h_15, H⟩
  · refine z_icmp_eq_f (M := (M_law nm)) (tgt := 892) dL_law_887 (by decide) rfl rfl h_15 ?_
    refine z_zconst (M := (M_law nm)) (b := false) dL_law_890 rfl ?_
    cases H
  · refine z_icmp_eq_t (M := (M_law nm)) (tgt := 892) dL_law_887 (by decide) rfl rfl (Decidable.not_not.mp h_15) ?_
    refine z_iload (M := (M_law nm)) dL_law_892 rfl ?_
    rcases if_e H with ⟨h_25, H⟩ | ⟨h_25, H⟩
    · refine z_if_ne_f (M := (M_law nm)) (tgt := 916) dL_law_894 (by decide) rfl h_25 ?_
      refine z_aload_n (M := (M_law nm)) dL_law_897 rfl ?_
      refine z_iconst (M := (M_law nm)) dL_law_898 ?_
      obtain ⟨x_26, x_26_e, hi_27, H⟩ := rd_e H
      refine z_lald (M := (M_law nm)) dL_law_899 ly_359 rfl (by decide +kernel) rfl hi_27 x_26_e ?_
      have J_28 : YY l E (M_law nm) 1312 601024 7293000 post 910 [some (vr 0), some (vr 32), some (vr 277), some (vr 359), some (vi i_0), some (vi x_7), some (zv x_14), none] [vl (if x_14 = true then 1 else 0), vl x_26] σ_13 (cu + 2) (su + 12) := by
        refine z_lcmp (M := (M_law nm)) dL_law_910 ?_
        rcases if_e H with ⟨h_29, H⟩ | ⟨h_29, H⟩
        · refine z_lif_eq_f (M := (M_law nm)) (tgt := 916) dL_law_911 (by decide) rfl rfl h_29 ?_
          refine z_zconst (M := (M_law nm)) (b := false) dL_law_914 rfl ?_
          cases H
        · refine z_lif_eq_t (M := (M_law nm)) (tgt := 916) dL_law_911 (by decide) rfl rfl (Decidable.not_not.mp h_29) ?_
          refine z_goto (M := (M_law nm)) (tgt := 2449) dL_law_916 (by decide) ?_
          refine z_le (lv' := [some (vr 0), some (vr 32), some (vr 277), some (vr 359), some (vi i_0), none, none, none]) ⟨Or.inr rfl, Or.inr rfl, Or.inr rfl, Or.inr rfl, Or.inr rfl, Or.inl rfl, Or.inl rfl, Or.inl rfl, trivial⟩ ?_
          cases H
          exact z_wide (by omega) (by omega) J
      refine z_zload (M := (M_law nm)) dL_law_900 rfl ?_
      by_cases h_30 : x_14 = true
      · refine z_zeq_f (M := (M_law nm)) (tgt := 909) dL_law_902 (by decide) h_30 ?_
        refine z_lconst (M := (M_law nm)) (m := 1) dL_law_905 (by decide +kernel) ?_
        refine z_goto (M := (M_law nm)) (tgt := 910) dL_law_906 (by decide) ?_
        exact z_st (by rw [if_pos (c := x_14 = true) h_30]) J_28
      · refine z_zeq_t (M := (M_law nm)) (tgt := 909) dL_law_902 (by decide) h_30 ?_
        refine z_lconst (M := (M_law nm)) (m := 0) dL_law_909 (by decide +kernel) ?_
        exact z_st (by rw [if_neg (c := x_14 = true) h_30]) J_28
    · refine z_if_ne_t (M := (M_law nm)) (tgt := 916) dL_law_894 (by decide) rfl h_25 ?_
      refine z_goto (M := (M_law nm)) (tgt := 2449) dL_law_916 (by decide) ?_
      refine z_le (lv' := [some (vr 0), some (vr 32), some (vr 277), some (vr 359), some (vi i_0), none, none, none]) ⟨Or.inr rfl, Or.inr rfl, Or.inr rfl, Or.inr rfl, Or.inr rfl, Or.inl rfl, Or.inl rfl, Or.inl rfl, trivial⟩ ?_
      cases H
      exact z_wide (by omega) (by omega) J
theorem s_case12 (hl : l.stackTraces = false) {nm : String} {post : Outc → SG → Prop} {σ σ' : SG} {xs : Nat → Int32} {L : Nat} (hx : E.2.2.2.2 0 = some (L, xs)) {i_0 : Int} {cu su : Nat} (hcu : cu + 16 ≤ 601024) (hsu : su + 96 ≤ 7293000) (H : fS_12 σ xs L i_0 = some (true, σ')) (J : YY l E (M_law nm) 1312 601024 7293000 post 2449 [some (vr 0), some (vr 32), some (vr 277), some (vr 359), some (vi i_0), none, none, none] [] σ' (cu + 16) (su + 96)) : YY l E (M_law nm) 1312 601024 7293000 post 919 [some (vr 0), some (vr 32), some (vr 277), some (vr 359), some (vi i_0), none, none, none] [] σ cu su := by
  unfold fS_12 at H
  refine z_aload_n (M := (M_law nm)) dL_law_919 rfl ?_
  refine z_aload_n (M := (M_law nm)) dL_law_920 rfl ?_
  refine z_iload (M := (M_law nm)) dL_law_921 rfl ?_
  refine z_iconst (M := (M_law nm)) dL_law_923 ?_
  refine z_iadd (M := (M_law nm)) dL_law_924 ?_
  obtain ⟨hi_2, H⟩ := ck_e H
  obtain ⟨a_1, a_1_e, H⟩ := lt_e H
  refine z_sald (M := (M_law nm)) hx dL_law_925 rfl rfl hi_2 a_1_e.symm ?_
  refine z_aload_n (M := (M_law nm)) dL_law_926 rfl ?_
  obtain ⟨⟨x_5, σ_4⟩, hc_3, H⟩ := bd_e H
  refine z_callSW (M := (M_law nm)) (M' := M_L_judge) (as := [vr 32, vi a_1, vr 359]) (rest := []) rfl rfl dL_law_927 m_L_judge t_1173 t_1174 (c_L_judge hl hc_3) rfl rfl (Nat.le_of_ble_eq_true rfl) (Nat.le_of_ble_eq_true rfl) (by omega) (by omega) ?_
  refine z_st (st' := [vi x_5]) rfl ?_
  refine z_istore (M := (M_law nm)) (lv' := [some (vr 0), some (vr 32), some (vr 277), some (vr 359), some (vi i_0), some (vi x_5), none, none]) dL_law_930 (Nat.le_of_ble_eq_true rfl) rfl rfl ?_
  refine z_aload_n (M := (M_law nm)) dL_law_932 rfl ?_
  refine z_aload_n (M := (M_law nm)) dL_law_933 rfl ?_
  refine z_iload (M := (M_law nm)) dL_law_934 rfl ?_
  refine z_iconst (M := (M_law nm)) dL_law_936 ?_
  refine z_iadd (M := (M_law nm)) dL_law_937 ?_
  obtain ⟨hi_7, H⟩ := ck_e H
  obtain ⟨a_6, a_6_e, H⟩ := lt_e H
  refine z_sald (M := (M_law nm)) hx dL_law_938 rfl rfl hi_7 a_6_e.symm ?_
  obtain ⟨⟨x_10, σ_9⟩, hc_8, H⟩ := bd_e H
  refine z_callV (M := (M_law nm)) (M' := M_X12_judge) (as := [vi a_6]) (rest := []) rfl rfl dL_law_939 m_X12_judge t_3214 t_3215 t_3216 (c_X12_judge hl  hc_8) rfl rfl ly_277 rfl (Nat.le_of_ble_eq_true rfl) (Nat.le_of_ble_eq_true rfl) (by omega) (by omega) ?_
  refine z_st (st' := [vi x_10]) rfl ?_
  refine z_istore (M := (M_law nm)) (lv' := [some (vr 0), some (vr 32), some (vr 277), some (vr 359), some (vi i_0), some (vi x_5), some (vi x_10), none]) dL_law_942 (Nat.le_of_ble_eq_true rfl) rfl rfl ?_
  refine z_aload_n (M := (M_law nm)) dL_law_944 rfl ?_
  refine z_callV (M := (M_law nm)) (M' := M_X12_thrown) (as := []) (rest := []) rfl rfl dL_law_945 m_X12_thrown t_2797 t_2798 t_2799 (c_X12_thrown hl  rfl) rfl rfl ly_277 rfl (Nat.le_of_ble_eq_true rfl) (Nat.le_of_ble_eq_true rfl) (by omega) (by omega) ?_
  refine z_st (st' := [vi (fR_thrown σ_9)]) rfl ?_
  refine z_iload (M := (M_law nm)) dL_law_948 rfl ?_
  rcases if_e H with ⟨h_11, H⟩ | ⟨h_11, H⟩
  · refine z_icmp_eq_f (M := (M_law nm)) (tgt := 955) dL_law_950 (by decide) rfl rfl h_11 ?_
    refine z_zconst (M := (M_law nm)) (b := false) dL_law_953 rfl ?_
    cases H
  · refine z_icmp_eq_t (M := (M_law nm)) (tgt := 955) dL_law_950 (by decide) rfl rfl (Decidable.not_not.mp h_11) ?_
    refine z_iload (M := (M_law nm)) dL_law_955 rfl ?_
    rcases if_e H with ⟨h_19, H⟩ | ⟨h_19, H⟩
    · refine z_if_ne_f (M := (M_law nm)) (tgt := 972) dL_law_957 (by decide) rfl h_19 ?_
      refine z_aload_n (M := (M_law nm)) dL_law_960 rfl ?_
      refine z_iconst (M := (M_law nm)) dL_law_961 ?_
      obtain ⟨x_20, x_20_e, hi_21, H⟩ := rd_e H
      refine z_lald (M := (M_law nm)) dL_law_962 ly_359 rfl (by decide +kernel) rfl hi_21 x_20_e ?_
      refine z_iload (M := (M_law nm)) dL_law_963 rfl ?_
      refine z_i2l (M := (M_law nm)) dL_law_965 ?_
      refine z_lcmp (M := (M_law nm)) dL_law_966 ?_
      rcases if_e H with ⟨h_22, H⟩ | ⟨h_22, H⟩
      · refine z_lif_eq_f (M := (M_law nm)) (tgt := 972) dL_law_967 (by decide) rfl rfl h_22 ?_
        refine z_zconst (M := (M_law nm)) (b := false) dL_law_970 rfl ?_
        cases H
      · refine z_lif_eq_t (M := (M_law nm)) (tgt := 972) dL_law_967 (by decide) rfl rfl (Decidable.not_not.mp h_22) ?_
        refine z_goto (M := (M_law nm)) (tgt := 2449) dL_law_972 (by decide) ?_
        refine z_le (lv' := [some (vr 0), some (vr 32), some (vr 277), some (vr 359), some (vi i_0), none, none, none]) ⟨Or.inr rfl, Or.inr rfl, Or.inr rfl, Or.inr rfl, Or.inr rfl, Or.inl rfl, Or.inl rfl, Or.inl rfl, trivial⟩ ?_
        cases H
        exact z_wide (by omega) (by omega) J
    · refine z_if_ne_t (M := (M_law nm)) (tgt := 972) dL_law_957 (by decide) rfl h_19 ?_
      refine z_goto (M := (M_law nm)) (tgt := 2449) dL_law_972 (by decide) ?_
      refine z_le (lv' := [some (vr 0), some (vr 32), some (vr 277), some (vr 359), some (vi i_0), none, none, none]) ⟨Or.inr rfl, Or.inr rfl, Or.inr rfl, Or.inr rfl, Or.inr rfl, Or.inl rfl, Or.inl rfl, Or.inl rfl, trivial⟩ ?_
      cases H
      exact z_wide (by omega) (by omega) J
theorem s_case13 (hl : l.stackTraces = false) {nm : String} {post : Outc → SG → Prop} {σ σ' : SG} {xs : Nat → Int32} {L : Nat} (hx : E.2.2.2.2 0 = some (L, xs)) {i_0 : Int} {cu su : Nat} (hcu : cu + 16 ≤ 601024) (hsu : su + 96 ≤ 7293000) (H : fS_13 σ xs L i_0 = some (true, σ')) (J : YY l E (M_law nm) 1312 601024 7293000 post 2449 [some (vr 0), some (vr 32), some (vr 277), some (vr 359), some (vi i_0), none, none, none] [] σ' (cu + 16) (su + 96)) : YY l E (M_law nm) 1312 601024 7293000 post 975 [some (vr 0), some (vr 32), some (vr 277), some (vr 359), some (vi i_0), none, none, none] [] σ cu su := by
  unfold fS_13 at H
  refine z_aload_n (M := (M_law nm)) dL_law_975 rfl ?_
  refine z_aload_n (M := (M_law nm)) dL_law_976 rfl ?_
  refine z_iload (M := (M_law nm)) dL_law_977 rfl ?_
  refine z_iconst (M := (M_law nm)) dL_law_979 ?_
  refine z_iadd (M := (M_law nm)) dL_law_980 ?_
  obtain ⟨hi_2, H⟩ := ck_e H
  obtain ⟨a_1, a_1_e, H⟩ := lt_e H
  refine z_sald (M := (M_law nm)) hx dL_law_981 rfl rfl hi_2 a_1_e.symm ?_
  refine z_aload_n (M := (M_law nm)) dL_law_982 rfl ?_
  obtain ⟨⟨x_5, σ_4⟩, hc_3, H⟩ := bd_e H
  refine z_callSW (M := (M_law nm)) (M' := M_L_place) (as := [vr 32, vi a_1, vr 359]) (rest := []) rfl rfl dL_law_983 m_L_place t_1362 t_1363 (c_L_place hl hc_3) rfl rfl (Nat.le_of_ble_eq_true rfl) (Nat.le_of_ble_eq_true rfl) (by omega) (by omega) ?_
  refine z_st (st' := [vi x_5]) rfl ?_
  refine z_istore (M := (M_law nm)) (lv' := [some (vr 0), some (vr 32), some (vr 277), some (vr 359), some (vi i_0), some (vi x_5), none, none]) dL_law_986 (Nat.le_of_ble_eq_true rfl) rfl rfl ?_
  refine z_aload_n (M := (M_law nm)) dL_law_988 rfl ?_
  refine z_aload_n (M := (M_law nm)) dL_law_989 rfl ?_
  refine z_iload (M := (M_law nm)) dL_law_990 rfl ?_
  refine z_iconst (M := (M_law nm)) dL_law_992 ?_
  refine z_iadd (M := (M_law nm)) dL_law_993 ?_
  obtain ⟨hi_7, H⟩ := ck_e H
  obtain ⟨a_6, a_6_e, H⟩ := lt_e H
  refine z_sald (M := (M_law nm)) hx dL_law_994 rfl rfl hi_7 a_6_e.symm ?_
  obtain ⟨⟨x_10, σ_9⟩, hc_8, H⟩ := bd_e H
  refine z_callV (M := (M_law nm)) (M' := M_X12_place) (as := [vi a_6]) (rest := []) rfl rfl dL_law_995 m_X12_place t_3337 t_3338 t_3339 (c_X12_place hl  hc_8) rfl rfl ly_277 rfl (Nat.le_of_ble_eq_true rfl) (Nat.le_of_ble_eq_true rfl) (by omega) (by omega) ?_
  refine z_st (st' := [vi x_10]) rfl ?_
  refine z_istore (M := (M_law nm)) (lv' := [some (vr 0), some (vr 32), some (vr 277), some (vr 359), some (vi i_0), some (vi x_5), some (vi x_10), none]) dL_law_998 (Nat.le_of_ble_eq_true rfl) rfl rfl ?_
  refine z_aload_n (M := (M_law nm)) dL_law_1000 rfl ?_
  refine z_callV (M := (M_law nm)) (M' := M_X12_thrown) (as := []) (rest := []) rfl rfl dL_law_1001 m_X12_thrown t_2797 t_2798 t_2799 (c_X12_thrown hl  rfl) rfl rfl ly_277 rfl (Nat.le_of_ble_eq_true rfl) (Nat.le_of_ble_eq_true rfl) (by omega) (by omega) ?_
  refine z_st (st' := [vi (fR_thrown σ_9)]) rfl ?_
  refine z_iload (M := (M_law nm)) dL_law_1004 rfl ?_
  rcases if_e H with ⟨h_11, H⟩ | ⟨h_11, H⟩
  · refine z_icmp_eq_f (M := (M_law nm)) (tgt := 1011) dL_law_1006 (by decide) rfl rfl h_11 ?_
    refine z_zconst (M := (M_law nm)) (b := false) dL_law_1009 rfl ?_
    cases H
  · refine z_icmp_eq_t (M := (M_law nm)) (tgt := 1011) dL_law_1006 (by decide) rfl rfl (Decidable.not_not.mp h_11) ?_
    refine z_iload (M := (M_law nm)) dL_law_1011 rfl ?_
    rcases if_e H with ⟨h_19, H⟩ | ⟨h_19, H⟩
    · refine z_if_ne_f (M := (M_law nm)) (tgt := 1028) dL_law_1013 (by decide) rfl h_19 ?_
      refine z_aload_n (M := (M_law nm)) dL_law_1016 rfl ?_
      refine z_iconst (M := (M_law nm)) dL_law_1017 ?_
      obtain ⟨x_20, x_20_e, hi_21, H⟩ := rd_e H
      refine z_lald (M := (M_law nm)) dL_law_1018 ly_359 rfl (by decide +kernel) rfl hi_21 x_20_e ?_
      refine z_iload (M := (M_law nm)) dL_law_1019 rfl ?_
      refine z_i2l (M := (M_law nm)) dL_law_1021 ?_
      refine z_lcmp (M := (M_law nm)) dL_law_1022 ?_
      rcases if_e H with ⟨h_22, H⟩ | ⟨h_22, H⟩
      · refine z_lif_eq_f (M := (M_law nm)) (tgt := 1028) dL_law_1023 (by decide) rfl rfl h_22 ?_
        refine z_zconst (M := (M_law nm)) (b := false) dL_law_1026 rfl ?_
        cases H
      · refine z_lif_eq_t (M := (M_law nm)) (tgt := 1028) dL_law_1023 (by decide) rfl rfl (Decidable.not_not.mp h_22) ?_
        refine z_goto (M := (M_law nm)) (tgt := 2449) dL_law_1028 (by decide) ?_
        refine z_le (lv' := [some (vr 0), some (vr 32), some (vr 277), some (vr 359), some (vi i_0), none, none, none]) ⟨Or.inr rfl, Or.inr rfl, Or.inr rfl, Or.inr rfl, Or.inr rfl, Or.inl rfl, Or.inl rfl, Or.inl rfl, trivial⟩ ?_
        cases H
        exact z_wide (by omega) (by omega) J
    · refine z_if_ne_t (M := (M_law nm)) (tgt := 1028) dL_law_1013 (by decide) rfl h_19 ?_
      refine z_goto (M := (M_law nm)) (tgt := 2449) dL_law_1028 (by decide) ?_
      refine z_le (lv' := [some (vr 0), some (vr 32), some (vr 277), some (vr 359), some (vi i_0), none, none, none]) ⟨Or.inr rfl, Or.inr rfl, Or.inr rfl, Or.inr rfl, Or.inr rfl, Or.inl rfl, Or.inl rfl, Or.inl rfl, trivial⟩ ?_
      cases H
      exact z_wide (by omega) (by omega) J
theorem s_case14 (hl : l.stackTraces = false) {nm : String} {post : Outc → SG → Prop} {σ σ' : SG} {xs : Nat → Int32} {L : Nat} (hx : E.2.2.2.2 0 = some (L, xs)) {i_0 : Int} {cu su : Nat} (hcu : cu + 16 ≤ 601024) (hsu : su + 96 ≤ 7293000) (H : fS_14 σ xs L i_0 = some (true, σ')) (J : YY l E (M_law nm) 1312 601024 7293000 post 2449 [some (vr 0), some (vr 32), some (vr 277), some (vr 359), some (vi i_0), none, none, none] [] σ' (cu + 16) (su + 96)) : YY l E (M_law nm) 1312 601024 7293000 post 1031 [some (vr 0), some (vr 32), some (vr 277), some (vr 359), some (vi i_0), none, none, none] [] σ cu su := by
  unfold fS_14 at H
  refine z_aload_n (M := (M_law nm)) dL_law_1031 rfl ?_
  refine z_aload_n (M := (M_law nm)) dL_law_1032 rfl ?_
  refine z_iload (M := (M_law nm)) dL_law_1033 rfl ?_
  refine z_iconst (M := (M_law nm)) dL_law_1035 ?_
  refine z_iadd (M := (M_law nm)) dL_law_1036 ?_
  obtain ⟨hi_2, H⟩ := ck_e H
  obtain ⟨a_1, a_1_e, H⟩ := lt_e H
  refine z_sald (M := (M_law nm)) hx dL_law_1037 rfl rfl hi_2 a_1_e.symm ?_
  refine z_aload_n (M := (M_law nm)) dL_law_1038 rfl ?_
  refine z_iload (M := (M_law nm)) dL_law_1039 rfl ?_
  refine z_iconst (M := (M_law nm)) dL_law_1041 ?_
  refine z_iadd (M := (M_law nm)) dL_law_1042 ?_
  obtain ⟨hi_4, H⟩ := ck_e H
  obtain ⟨a_3, a_3_e, H⟩ := lt_e H
  refine z_sald (M := (M_law nm)) hx dL_law_1043 rfl rfl hi_4 a_3_e.symm ?_
  refine z_aload_n (M := (M_law nm)) dL_law_1044 rfl ?_
  refine z_iload (M := (M_law nm)) dL_law_1045 rfl ?_
  refine z_iconst (M := (M_law nm)) dL_law_1047 ?_
  refine z_iadd (M := (M_law nm)) dL_law_1048 ?_
  obtain ⟨hi_6, H⟩ := ck_e H
  obtain ⟨a_5, a_5_e, H⟩ := lt_e H
  refine z_sald (M := (M_law nm)) hx dL_law_1049 rfl rfl hi_6 a_5_e.symm ?_
  refine z_aload_n (M := (M_law nm)) dL_law_1050 rfl ?_
  refine z_iload (M := (M_law nm)) dL_law_1051 rfl ?_
  refine z_iconst (M := (M_law nm)) dL_law_1053 ?_
  refine z_iadd (M := (M_law nm)) dL_law_1054 ?_
  obtain ⟨hi_8, H⟩ := ck_e H
  obtain ⟨a_7, a_7_e, H⟩ := lt_e H
  refine z_sald (M := (M_law nm)) hx dL_law_1055 rfl rfl hi_8 a_7_e.symm ?_
  refine z_aload_n (M := (M_law nm)) dL_law_1056 rfl ?_
  obtain ⟨⟨x_11, σ_10⟩, hc_9, H⟩ := bd_e H
  refine z_callSW (M := (M_law nm)) (M' := M_L_overlay) (as := [vr 32, vi a_1, vi a_3, vi a_5, vi a_7, vr 359]) (rest := []) rfl rfl dL_law_1057 m_L_overlay t_1369 t_1370 (c_L_overlay hl hc_9) rfl rfl (Nat.le_of_ble_eq_true rfl) (Nat.le_of_ble_eq_true rfl) (by omega) (by omega) ?_
  refine z_st (st' := [vi x_11]) rfl ?_
  refine z_istore (M := (M_law nm)) (lv' := [some (vr 0), some (vr 32), some (vr 277), some (vr 359), some (vi i_0), some (vi x_11), none, none]) dL_law_1060 (Nat.le_of_ble_eq_true rfl) rfl rfl ?_
  refine z_aload_n (M := (M_law nm)) dL_law_1062 rfl ?_
  refine z_aload_n (M := (M_law nm)) dL_law_1063 rfl ?_
  refine z_iload (M := (M_law nm)) dL_law_1064 rfl ?_
  refine z_iconst (M := (M_law nm)) dL_law_1066 ?_
  refine z_iadd (M := (M_law nm)) dL_law_1067 ?_
  obtain ⟨hi_13, H⟩ := ck_e H
  obtain ⟨a_12, a_12_e, H⟩ := lt_e H
  refine z_sald (M := (M_law nm)) hx dL_law_1068 rfl rfl hi_13 a_12_e.symm ?_
  refine z_aload_n (M := (M_law nm)) dL_law_1069 rfl ?_
  refine z_iload (M := (M_law nm)) dL_law_1070 rfl ?_
  refine z_iconst (M := (M_law nm)) dL_law_1072 ?_
  refine z_iadd (M := (M_law nm)) dL_law_1073 ?_
  obtain ⟨hi_15, H⟩ := ck_e H
  obtain ⟨a_14, a_14_e, H⟩ := lt_e H
  refine z_sald (M := (M_law nm)) hx dL_law_1074 rfl rfl hi_15 a_14_e.symm ?_
  refine z_aload_n (M := (M_law nm)) dL_law_1075 rfl ?_
  refine z_iload (M := (M_law nm)) dL_law_1076 rfl ?_
  refine z_iconst (M := (M_law nm)) dL_law_1078 ?_
  refine z_iadd (M := (M_law nm)) dL_law_1079 ?_
  obtain ⟨hi_17, H⟩ := ck_e H
  obtain ⟨a_16, a_16_e, H⟩ := lt_e H
  refine z_sald (M := (M_law nm)) hx dL_law_1080 rfl rfl hi_17 a_16_e.symm ?_
  refine z_aload_n (M := (M_law nm)) dL_law_1081 rfl ?_
  refine z_iload (M := (M_law nm)) dL_law_1082 rfl ?_
  refine z_iconst (M := (M_law nm)) dL_law_1084 ?_
  refine z_iadd (M := (M_law nm)) dL_law_1085 ?_
  obtain ⟨hi_19, H⟩ := ck_e H
  obtain ⟨a_18, a_18_e, H⟩ := lt_e H
  refine z_sald (M := (M_law nm)) hx dL_law_1086 rfl rfl hi_19 a_18_e.symm ?_
  obtain ⟨⟨x_22, σ_21⟩, hc_20, H⟩ := bd_e H
  refine z_callV (M := (M_law nm)) (M' := M_X12_overlay) (as := [vi a_12, vi a_14, vi a_16, vi a_18]) (rest := []) rfl rfl dL_law_1087 m_X12_overlay t_3350 t_3351 t_3352 (c_X12_overlay hl  hc_20) rfl rfl ly_277 rfl (Nat.le_of_ble_eq_true rfl) (Nat.le_of_ble_eq_true rfl) (by omega) (by omega) ?_
  refine z_st (st' := [vi x_22]) rfl ?_
  refine z_istore (M := (M_law nm)) (lv' := [some (vr 0), some (vr 32), some (vr 277), some (vr 359), some (vi i_0), some (vi x_11), some (vi x_22), none]) dL_law_1090 (Nat.le_of_ble_eq_true rfl) rfl rfl ?_
  refine z_aload_n (M := (M_law nm)) dL_law_1092 rfl ?_
  refine z_callV (M := (M_law nm)) (M' := M_X12_thrown) (as := []) (rest := []) rfl rfl dL_law_1093 m_X12_thrown t_2797 t_2798 t_2799 (c_X12_thrown hl  rfl) rfl rfl ly_277 rfl (Nat.le_of_ble_eq_true rfl) (Nat.le_of_ble_eq_true rfl) (by omega) (by omega) ?_
  refine z_st (st' := [vi (fR_thrown σ_21)]) rfl ?_
  refine z_iload (M := (M_law nm)) dL_law_1096 rfl ?_
  rcases if_e H with ⟨h_23, H⟩ | ⟨h_23, H⟩
  · refine z_icmp_eq_f (M := (M_law nm)) (tgt := 1103) dL_law_1098 (by decide) rfl rfl h_23 ?_
    refine z_zconst (M := (M_law nm)) (b := false) dL_law_1101 rfl ?_
    cases H
  · refine z_icmp_eq_t (M := (M_law nm)) (tgt := 1103) dL_law_1098 (by decide) rfl rfl (Decidable.not_not.mp h_23) ?_
    refine z_iload (M := (M_law nm)) dL_law_1103 rfl ?_
    rcases if_e H with ⟨h_31, H⟩ | ⟨h_31, H⟩
    · refine z_if_ne_f (M := (M_law nm)) (tgt := 1120) dL_law_1105 (by decide) rfl h_31 ?_
      refine z_aload_n (M := (M_law nm)) dL_law_1108 rfl ?_
      refine z_iconst (M := (M_law nm)) dL_law_1109 ?_
      obtain ⟨x_32, x_32_e, hi_33, H⟩ := rd_e H
      refine z_lald (M := (M_law nm)) dL_law_1110 ly_359 rfl (by decide +kernel) rfl hi_33 x_32_e ?_
      refine z_iload (M := (M_law nm)) dL_law_1111 rfl ?_
      refine z_i2l (M := (M_law nm)) dL_law_1113 ?_
      refine z_lcmp (M := (M_law nm)) dL_law_1114 ?_
      rcases if_e H with ⟨h_34, H⟩ | ⟨h_34, H⟩
      · refine z_lif_eq_f (M := (M_law nm)) (tgt := 1120) dL_law_1115 (by decide) rfl rfl h_34 ?_
        refine z_zconst (M := (M_law nm)) (b := false) dL_law_1118 rfl ?_
        cases H
      · refine z_lif_eq_t (M := (M_law nm)) (tgt := 1120) dL_law_1115 (by decide) rfl rfl (Decidable.not_not.mp h_34) ?_
        refine z_goto (M := (M_law nm)) (tgt := 2449) dL_law_1120 (by decide) ?_
        refine z_le (lv' := [some (vr 0), some (vr 32), some (vr 277), some (vr 359), some (vi i_0), none, none, none]) ⟨Or.inr rfl, Or.inr rfl, Or.inr rfl, Or.inr rfl, Or.inr rfl, Or.inl rfl, Or.inl rfl, Or.inl rfl, trivial⟩ ?_
        cases H
        exact z_wide (by omega) (by omega) J
    · refine z_if_ne_t (M := (M_law nm)) (tgt := 1120) dL_law_1105 (by decide) rfl h_31 ?_
      refine z_goto (M := (M_law nm)) (tgt := 2449) dL_law_1120 (by decide) ?_
      refine z_le (lv' := [some (vr 0), some (vr 32), some (vr 277), some (vr 359), some (vi i_0), none, none, none]) ⟨Or.inr rfl, Or.inr rfl, Or.inr rfl, Or.inr rfl, Or.inr rfl, Or.inl rfl, Or.inl rfl, Or.inl rfl, trivial⟩ ?_
      cases H
      exact z_wide (by omega) (by omega) J
theorem s_case15 (hl : l.stackTraces = false) {nm : String} {post : Outc → SG → Prop} {σ σ' : SG} {xs : Nat → Int32} {L : Nat} (hx : E.2.2.2.2 0 = some (L, xs)) {i_0 : Int} {cu su : Nat} (hcu : cu + 16 ≤ 601024) (hsu : su + 96 ≤ 7293000) (H : fS_15 σ xs L i_0 = some (true, σ')) (J : YY l E (M_law nm) 1312 601024 7293000 post 2449 [some (vr 0), some (vr 32), some (vr 277), some (vr 359), some (vi i_0), none, none, none] [] σ' (cu + 16) (su + 96)) : YY l E (M_law nm) 1312 601024 7293000 post 1123 [some (vr 0), some (vr 32), some (vr 277), some (vr 359), some (vi i_0), none, none, none] [] σ cu su := by
  unfold fS_15 at H
  refine z_aload_n (M := (M_law nm)) dL_law_1123 rfl ?_
  refine z_aload_n (M := (M_law nm)) dL_law_1124 rfl ?_
  refine z_iload (M := (M_law nm)) dL_law_1125 rfl ?_
  refine z_iconst (M := (M_law nm)) dL_law_1127 ?_
  refine z_iadd (M := (M_law nm)) dL_law_1128 ?_
  obtain ⟨hi_2, H⟩ := ck_e H
  obtain ⟨a_1, a_1_e, H⟩ := lt_e H
  refine z_sald (M := (M_law nm)) hx dL_law_1129 rfl rfl hi_2 a_1_e.symm ?_
  refine z_aload_n (M := (M_law nm)) dL_law_1130 rfl ?_
  refine z_iload (M := (M_law nm)) dL_law_1131 rfl ?_
  refine z_iconst (M := (M_law nm)) dL_law_1133 ?_
  refine z_iadd (M := (M_law nm)) dL_law_1134 ?_
  obtain ⟨hi_4, H⟩ := ck_e H
  obtain ⟨a_3, a_3_e, H⟩ := lt_e H
  refine z_sald (M := (M_law nm)) hx dL_law_1135 rfl rfl hi_4 a_3_e.symm ?_
  refine z_aload_n (M := (M_law nm)) dL_law_1136 rfl ?_
  obtain ⟨⟨x_7, σ_6⟩, hc_5, H⟩ := bd_e H
  refine z_callSW (M := (M_law nm)) (M' := M_L_relate) (as := [vr 32, vi a_1, vi a_3, vr 359]) (rest := []) rfl rfl dL_law_1137 m_L_relate t_1872 t_1873 (c_L_relate hl hc_5) rfl rfl (Nat.le_of_ble_eq_true rfl) (Nat.le_of_ble_eq_true rfl) (by omega) (by omega) ?_
  refine z_st (st' := [vi x_7]) rfl ?_
  refine z_istore (M := (M_law nm)) (lv' := [some (vr 0), some (vr 32), some (vr 277), some (vr 359), some (vi i_0), some (vi x_7), none, none]) dL_law_1140 (Nat.le_of_ble_eq_true rfl) rfl rfl ?_
  refine z_aload_n (M := (M_law nm)) dL_law_1142 rfl ?_
  refine z_aload_n (M := (M_law nm)) dL_law_1143 rfl ?_
  refine z_iload (M := (M_law nm)) dL_law_1144 rfl ?_
  refine z_iconst (M := (M_law nm)) dL_law_1146 ?_
  refine z_iadd (M := (M_law nm)) dL_law_1147 ?_
  obtain ⟨hi_9, H⟩ := ck_e H
  obtain ⟨a_8, a_8_e, H⟩ := lt_e H
  refine z_sald (M := (M_law nm)) hx dL_law_1148 rfl rfl hi_9 a_8_e.symm ?_
  refine z_aload_n (M := (M_law nm)) dL_law_1149 rfl ?_
  refine z_iload (M := (M_law nm)) dL_law_1150 rfl ?_
  refine z_iconst (M := (M_law nm)) dL_law_1152 ?_
  refine z_iadd (M := (M_law nm)) dL_law_1153 ?_
  obtain ⟨hi_11, H⟩ := ck_e H
  obtain ⟨a_10, a_10_e, H⟩ := lt_e H
  refine z_sald (M := (M_law nm)) hx dL_law_1154 rfl rfl hi_11 a_10_e.symm ?_
  obtain ⟨⟨x_14, σ_13⟩, hc_12, H⟩ := bd_e H
  refine z_callV (M := (M_law nm)) (M' := M_X12_relate) (as := [vi a_8, vi a_10]) (rest := []) rfl rfl dL_law_1155 m_X12_relate t_3486 t_3487 t_3488 (c_X12_relate hl  hc_12) rfl rfl ly_277 rfl (Nat.le_of_ble_eq_true rfl) (Nat.le_of_ble_eq_true rfl) (by omega) (by omega) ?_
  refine z_st (st' := [vi x_14]) rfl ?_
  refine z_istore (M := (M_law nm)) (lv' := [some (vr 0), some (vr 32), some (vr 277), some (vr 359), some (vi i_0), some (vi x_7), some (vi x_14), none]) dL_law_1158 (Nat.le_of_ble_eq_true rfl) rfl rfl ?_
  refine z_aload_n (M := (M_law nm)) dL_law_1160 rfl ?_
  refine z_callV (M := (M_law nm)) (M' := M_X12_thrown) (as := []) (rest := []) rfl rfl dL_law_1161 m_X12_thrown t_2797 t_2798 t_2799 (c_X12_thrown hl  rfl) rfl rfl ly_277 rfl (Nat.le_of_ble_eq_true rfl) (Nat.le_of_ble_eq_true rfl) (by omega) (by omega) ?_
  refine z_st (st' := [vi (fR_thrown σ_13)]) rfl ?_
  refine z_iload (M := (M_law nm)) dL_law_1164 rfl ?_
  rcases if_e H with ⟨h_15, H⟩ | ⟨h_15, H⟩
  · refine z_icmp_eq_f (M := (M_law nm)) (tgt := 1171) dL_law_1166 (by decide) rfl rfl h_15 ?_
    refine z_zconst (M := (M_law nm)) (b := false) dL_law_1169 rfl ?_
    cases H
  · refine z_icmp_eq_t (M := (M_law nm)) (tgt := 1171) dL_law_1166 (by decide) rfl rfl (Decidable.not_not.mp h_15) ?_
    refine z_iload (M := (M_law nm)) dL_law_1171 rfl ?_
    rcases if_e H with ⟨h_23, H⟩ | ⟨h_23, H⟩
    · refine z_if_ne_f (M := (M_law nm)) (tgt := 1188) dL_law_1173 (by decide) rfl h_23 ?_
      refine z_aload_n (M := (M_law nm)) dL_law_1176 rfl ?_
      refine z_iconst (M := (M_law nm)) dL_law_1177 ?_
      obtain ⟨x_24, x_24_e, hi_25, H⟩ := rd_e H
      refine z_lald (M := (M_law nm)) dL_law_1178 ly_359 rfl (by decide +kernel) rfl hi_25 x_24_e ?_
      refine z_iload (M := (M_law nm)) dL_law_1179 rfl ?_
      refine z_i2l (M := (M_law nm)) dL_law_1181 ?_
      refine z_lcmp (M := (M_law nm)) dL_law_1182 ?_
      rcases if_e H with ⟨h_26, H⟩ | ⟨h_26, H⟩
      · refine z_lif_eq_f (M := (M_law nm)) (tgt := 1188) dL_law_1183 (by decide) rfl rfl h_26 ?_
        refine z_zconst (M := (M_law nm)) (b := false) dL_law_1186 rfl ?_
        cases H
      · refine z_lif_eq_t (M := (M_law nm)) (tgt := 1188) dL_law_1183 (by decide) rfl rfl (Decidable.not_not.mp h_26) ?_
        refine z_goto (M := (M_law nm)) (tgt := 2449) dL_law_1188 (by decide) ?_
        refine z_le (lv' := [some (vr 0), some (vr 32), some (vr 277), some (vr 359), some (vi i_0), none, none, none]) ⟨Or.inr rfl, Or.inr rfl, Or.inr rfl, Or.inr rfl, Or.inr rfl, Or.inl rfl, Or.inl rfl, Or.inl rfl, trivial⟩ ?_
        cases H
        exact z_wide (by omega) (by omega) J
    · refine z_if_ne_t (M := (M_law nm)) (tgt := 1188) dL_law_1173 (by decide) rfl h_23 ?_
      refine z_goto (M := (M_law nm)) (tgt := 2449) dL_law_1188 (by decide) ?_
      refine z_le (lv' := [some (vr 0), some (vr 32), some (vr 277), some (vr 359), some (vi i_0), none, none, none]) ⟨Or.inr rfl, Or.inr rfl, Or.inr rfl, Or.inr rfl, Or.inr rfl, Or.inl rfl, Or.inl rfl, Or.inl rfl, trivial⟩ ?_
      cases H
      exact z_wide (by omega) (by omega) J
theorem s_case16 (hl : l.stackTraces = false) {nm : String} {post : Outc → SG → Prop} {σ σ' : SG} {xs : Nat → Int32} {L : Nat} (hx : E.2.2.2.2 0 = some (L, xs)) {i_0 : Int} {cu su : Nat} (hcu : cu + 16 ≤ 601024) (hsu : su + 96 ≤ 7293000) (H : fS_16 σ xs L i_0 = some (true, σ')) (J : YY l E (M_law nm) 1312 601024 7293000 post 2449 [some (vr 0), some (vr 32), some (vr 277), some (vr 359), some (vi i_0), none, none, none] [] σ' (cu + 16) (su + 96)) : YY l E (M_law nm) 1312 601024 7293000 post 1191 [some (vr 0), some (vr 32), some (vr 277), some (vr 359), some (vi i_0), none, none, none] [] σ cu su := by
  unfold fS_16 at H
  refine z_aload_n (M := (M_law nm)) dL_law_1191 rfl ?_
  refine z_aload_n (M := (M_law nm)) dL_law_1192 rfl ?_
  refine z_iload (M := (M_law nm)) dL_law_1193 rfl ?_
  refine z_iconst (M := (M_law nm)) dL_law_1195 ?_
  refine z_iadd (M := (M_law nm)) dL_law_1196 ?_
  obtain ⟨hi_2, H⟩ := ck_e H
  obtain ⟨a_1, a_1_e, H⟩ := lt_e H
  refine z_sald (M := (M_law nm)) hx dL_law_1197 rfl rfl hi_2 a_1_e.symm ?_
  refine z_aload_n (M := (M_law nm)) dL_law_1198 rfl ?_
  refine z_iload (M := (M_law nm)) dL_law_1199 rfl ?_
  refine z_iconst (M := (M_law nm)) dL_law_1201 ?_
  refine z_iadd (M := (M_law nm)) dL_law_1202 ?_
  obtain ⟨hi_4, H⟩ := ck_e H
  obtain ⟨a_3, a_3_e, H⟩ := lt_e H
  refine z_sald (M := (M_law nm)) hx dL_law_1203 rfl rfl hi_4 a_3_e.symm ?_
  refine z_aload_n (M := (M_law nm)) dL_law_1204 rfl ?_
  refine z_iload (M := (M_law nm)) dL_law_1205 rfl ?_
  refine z_iconst (M := (M_law nm)) dL_law_1207 ?_
  refine z_iadd (M := (M_law nm)) dL_law_1208 ?_
  obtain ⟨hi_6, H⟩ := ck_e H
  obtain ⟨a_5, a_5_e, H⟩ := lt_e H
  refine z_sald (M := (M_law nm)) hx dL_law_1209 rfl rfl hi_6 a_5_e.symm ?_
  refine z_aload_n (M := (M_law nm)) dL_law_1210 rfl ?_
  obtain ⟨⟨x_9, σ_8⟩, hc_7, H⟩ := bd_e H
  refine z_callSW (M := (M_law nm)) (M' := M_L_is) (as := [vr 32, vi a_1, vi a_3, vi a_5, vr 359]) (rest := []) rfl rfl dL_law_1211 m_L_is t_2035 t_2036 (c_L_is hl hc_7) rfl rfl (Nat.le_of_ble_eq_true rfl) (Nat.le_of_ble_eq_true rfl) (by omega) (by omega) ?_
  refine z_st (st' := [vi x_9]) rfl ?_
  refine z_istore (M := (M_law nm)) (lv' := [some (vr 0), some (vr 32), some (vr 277), some (vr 359), some (vi i_0), some (vi x_9), none, none]) dL_law_1214 (Nat.le_of_ble_eq_true rfl) rfl rfl ?_
  refine z_aload_n (M := (M_law nm)) dL_law_1216 rfl ?_
  refine z_aload_n (M := (M_law nm)) dL_law_1217 rfl ?_
  refine z_iload (M := (M_law nm)) dL_law_1218 rfl ?_
  refine z_iconst (M := (M_law nm)) dL_law_1220 ?_
  refine z_iadd (M := (M_law nm)) dL_law_1221 ?_
  obtain ⟨hi_11, H⟩ := ck_e H
  obtain ⟨a_10, a_10_e, H⟩ := lt_e H
  refine z_sald (M := (M_law nm)) hx dL_law_1222 rfl rfl hi_11 a_10_e.symm ?_
  refine z_aload_n (M := (M_law nm)) dL_law_1223 rfl ?_
  refine z_iload (M := (M_law nm)) dL_law_1224 rfl ?_
  refine z_iconst (M := (M_law nm)) dL_law_1226 ?_
  refine z_iadd (M := (M_law nm)) dL_law_1227 ?_
  obtain ⟨hi_13, H⟩ := ck_e H
  obtain ⟨a_12, a_12_e, H⟩ := lt_e H
  refine z_sald (M := (M_law nm)) hx dL_law_1228 rfl rfl hi_13 a_12_e.symm ?_
  refine z_aload_n (M := (M_law nm)) dL_law_1229 rfl ?_
  refine z_iload (M := (M_law nm)) dL_law_1230 rfl ?_
  refine z_iconst (M := (M_law nm)) dL_law_1232 ?_
  refine z_iadd (M := (M_law nm)) dL_law_1233 ?_
  obtain ⟨hi_15, H⟩ := ck_e H
  obtain ⟨a_14, a_14_e, H⟩ := lt_e H
  refine z_sald (M := (M_law nm)) hx dL_law_1234 rfl rfl hi_15 a_14_e.symm ?_
  obtain ⟨⟨x_18, σ_17⟩, hc_16, H⟩ := bd_e H
  refine z_callV (M := (M_law nm)) (M' := M_X12_is) (as := [vi a_10, vi a_12, vi a_14]) (rest := []) rfl rfl dL_law_1235 m_X12_is t_3596 t_3597 t_3598 (c_X12_is hl  hc_16) rfl rfl ly_277 rfl (Nat.le_of_ble_eq_true rfl) (Nat.le_of_ble_eq_true rfl) (by omega) (by omega) ?_
  refine z_st (st' := [zv x_18]) rfl ?_
  refine z_zstore (M := (M_law nm)) (lv' := [some (vr 0), some (vr 32), some (vr 277), some (vr 359), some (vi i_0), some (vi x_9), some (zv x_18), none]) dL_law_1238 (Nat.le_of_ble_eq_true rfl) rfl rfl ?_
  refine z_aload_n (M := (M_law nm)) dL_law_1240 rfl ?_
  refine z_callV (M := (M_law nm)) (M' := M_X12_thrown) (as := []) (rest := []) rfl rfl dL_law_1241 m_X12_thrown t_2797 t_2798 t_2799 (c_X12_thrown hl  rfl) rfl rfl ly_277 rfl (Nat.le_of_ble_eq_true rfl) (Nat.le_of_ble_eq_true rfl) (by omega) (by omega) ?_
  refine z_st (st' := [vi (fR_thrown σ_17)]) rfl ?_
  refine z_iload (M := (M_law nm)) dL_law_1244 rfl ?_
  rcases if_e H with ⟨h_19, H⟩ | ⟨h_19, H⟩
  · refine z_icmp_eq_f (M := (M_law nm)) (tgt := 1251) dL_law_1246 (by decide) rfl rfl h_19 ?_
    refine z_zconst (M := (M_law nm)) (b := false) dL_law_1249 rfl ?_
    cases H
  · refine z_icmp_eq_t (M := (M_law nm)) (tgt := 1251) dL_law_1246 (by decide) rfl rfl (Decidable.not_not.mp h_19) ?_
    refine z_iload (M := (M_law nm)) dL_law_1251 rfl ?_
    rcases if_e H with ⟨h_29, H⟩ | ⟨h_29, H⟩
    · refine z_if_ne_f (M := (M_law nm)) (tgt := 1275) dL_law_1253 (by decide) rfl h_29 ?_
      refine z_aload_n (M := (M_law nm)) dL_law_1256 rfl ?_
      refine z_iconst (M := (M_law nm)) dL_law_1257 ?_
      obtain ⟨x_30, x_30_e, hi_31, H⟩ := rd_e H
      refine z_lald (M := (M_law nm)) dL_law_1258 ly_359 rfl (by decide +kernel) rfl hi_31 x_30_e ?_
      have J_32 : YY l E (M_law nm) 1312 601024 7293000 post 1269 [some (vr 0), some (vr 32), some (vr 277), some (vr 359), some (vi i_0), some (vi x_9), some (zv x_18), none] [vl (if x_18 = true then 1 else 0), vl x_30] σ_17 (cu + 8) (su + 48) := by
        refine z_lcmp (M := (M_law nm)) dL_law_1269 ?_
        rcases if_e H with ⟨h_33, H⟩ | ⟨h_33, H⟩
        · refine z_lif_eq_f (M := (M_law nm)) (tgt := 1275) dL_law_1270 (by decide) rfl rfl h_33 ?_
          refine z_zconst (M := (M_law nm)) (b := false) dL_law_1273 rfl ?_
          cases H
        · refine z_lif_eq_t (M := (M_law nm)) (tgt := 1275) dL_law_1270 (by decide) rfl rfl (Decidable.not_not.mp h_33) ?_
          refine z_goto (M := (M_law nm)) (tgt := 2449) dL_law_1275 (by decide) ?_
          refine z_le (lv' := [some (vr 0), some (vr 32), some (vr 277), some (vr 359), some (vi i_0), none, none, none]) ⟨Or.inr rfl, Or.inr rfl, Or.inr rfl, Or.inr rfl, Or.inr rfl, Or.inl rfl, Or.inl rfl, Or.inl rfl, trivial⟩ ?_
          cases H
          exact z_wide (by omega) (by omega) J
      refine z_zload (M := (M_law nm)) dL_law_1259 rfl ?_
      by_cases h_34 : x_18 = true
      · refine z_zeq_f (M := (M_law nm)) (tgt := 1268) dL_law_1261 (by decide) h_34 ?_
        refine z_lconst (M := (M_law nm)) (m := 1) dL_law_1264 (by decide +kernel) ?_
        refine z_goto (M := (M_law nm)) (tgt := 1269) dL_law_1265 (by decide) ?_
        exact z_st (by rw [if_pos (c := x_18 = true) h_34]) J_32
      · refine z_zeq_t (M := (M_law nm)) (tgt := 1268) dL_law_1261 (by decide) h_34 ?_
        refine z_lconst (M := (M_law nm)) (m := 0) dL_law_1268 (by decide +kernel) ?_
        exact z_st (by rw [if_neg (c := x_18 = true) h_34]) J_32
    · refine z_if_ne_t (M := (M_law nm)) (tgt := 1275) dL_law_1253 (by decide) rfl h_29 ?_
      refine z_goto (M := (M_law nm)) (tgt := 2449) dL_law_1275 (by decide) ?_
      refine z_le (lv' := [some (vr 0), some (vr 32), some (vr 277), some (vr 359), some (vi i_0), none, none, none]) ⟨Or.inr rfl, Or.inr rfl, Or.inr rfl, Or.inr rfl, Or.inr rfl, Or.inl rfl, Or.inl rfl, Or.inl rfl, trivial⟩ ?_
      cases H
      exact z_wide (by omega) (by omega) J
end LCAA
