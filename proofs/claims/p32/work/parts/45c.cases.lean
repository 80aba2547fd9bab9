section LCAA
variable {l : Launch} {E : EE}
theorem s_case0 (hl : l.stackTraces = false) {nm : String} {post : Outc → SG → Prop} {σ σ' : SG} {xs : Nat → Int32} {L : Nat} (hx : E.2.2.2.2 0 = some (L, xs)) {i_0 : Int} {cu su : Nat} (hcu : cu + 16 ≤ 601024) (hsu : su + 96 ≤ 7293000) (H : fS_0 σ xs L i_0 = some (true, σ')) (J : YY l E (M_law nm) 1312 601024 7293000 post 1606 [some (vr 0), some (vr 32), some (vr 277), some (vr 359), some (vi i_0), none, none, none] [] σ' (cu + 16) (su + 96)) : YY l E (M_law nm) 1312 601024 7293000 post 192 [some (vr 0), some (vr 32), some (vr 277), some (vr 359), some (vi i_0), none, none, none] [] σ cu su := by
  unfold fS_0 at H
  refine z_aload_n (M := (M_law nm)) dL_law_192 rfl ?_
  refine z_aload_n (M := (M_law nm)) dL_law_193 rfl ?_
  refine z_iload (M := (M_law nm)) dL_law_194 rfl ?_
  refine z_iconst (M := (M_law nm)) dL_law_196 ?_
  refine z_iadd (M := (M_law nm)) dL_law_197 ?_
  obtain ⟨hi_2, H⟩ := ck_e H
  obtain ⟨a_1, a_1_e, H⟩ := lt_e H
  refine z_sald (M := (M_law nm)) hx dL_law_198 rfl rfl hi_2 a_1_e.symm ?_
  refine z_aload_n (M := (M_law nm)) dL_law_199 rfl ?_
  refine z_iload (M := (M_law nm)) dL_law_200 rfl ?_
  refine z_iconst (M := (M_law nm)) dL_law_202 ?_
  refine z_iadd (M := (M_law nm)) dL_law_203 ?_
  obtain ⟨hi_4, H⟩ := ck_e H
  obtain ⟨a_3, a_3_e, H⟩ := lt_e H
  refine z_sald (M := (M_law nm)) hx dL_law_204 rfl rfl hi_4 a_3_e.symm ?_
  refine z_aload_n (M := (M_law nm)) dL_law_205 rfl ?_
  refine z_iload (M := (M_law nm)) dL_law_206 rfl ?_
  refine z_iconst (M := (M_law nm)) dL_law_208 ?_
  refine z_iadd (M := (M_law nm)) dL_law_209 ?_
  obtain ⟨hi_6, H⟩ := ck_e H
  obtain ⟨a_5, a_5_e, H⟩ := lt_e H
  refine z_sald (M := (M_law nm)) hx dL_law_210 rfl rfl hi_6 a_5_e.symm ?_
  refine z_aload_n (M := (M_law nm)) dL_law_211 rfl ?_
  refine z_iload (M := (M_law nm)) dL_law_212 rfl ?_
  refine z_iconst (M := (M_law nm)) dL_law_214 ?_
  refine z_iadd (M := (M_law nm)) dL_law_215 ?_
  obtain ⟨hi_8, H⟩ := ck_e H
  obtain ⟨a_7, a_7_e, H⟩ := lt_e H
  refine z_sald (M := (M_law nm)) hx dL_law_216 rfl rfl hi_8 a_7_e.symm ?_
  refine z_aload_n (M := (M_law nm)) dL_law_217 rfl ?_
  refine z_iload (M := (M_law nm)) dL_law_218 rfl ?_
  refine z_iconst (M := (M_law nm)) dL_law_220 ?_
  refine z_iadd (M := (M_law nm)) dL_law_221 ?_
  obtain ⟨hi_10, H⟩ := ck_e H
  obtain ⟨a_9, a_9_e, H⟩ := lt_e H
  refine z_sald (M := (M_law nm)) hx dL_law_222 rfl rfl hi_10 a_9_e.symm ?_
  refine z_aload_n (M := (M_law nm)) dL_law_223 rfl ?_
  obtain ⟨⟨x_13, σ_12⟩, hc_11, H⟩ := bd_e H
  refine z_callSW (M := (M_law nm)) (M' := M_L_feed) (as := [vr 32, vi a_1, vi a_3, vi a_5, vi a_7, vi a_9, vr 359]) (rest := []) rfl rfl dL_law_224 m_L_feed t_634 t_635 (c_L_feed hl hc_11) rfl rfl (Nat.le_of_ble_eq_true rfl) (Nat.le_of_ble_eq_true rfl) (by omega) (by omega) ?_
  refine z_st (st' := [vi x_13]) rfl ?_
  refine z_istore (M := (M_law nm)) (lv' := [some (vr 0), some (vr 32), some (vr 277), some (vr 359), some (vi i_0), some (vi x_13), none, none]) dL_law_227 (Nat.le_of_ble_eq_true rfl) rfl rfl ?_
  refine z_aload_n (M := (M_law nm)) dL_law_229 rfl ?_
  refine z_aload_n (M := (M_law nm)) dL_law_230 rfl ?_
  refine z_iload (M := (M_law nm)) dL_law_231 rfl ?_
  refine z_iconst (M := (M_law nm)) dL_law_233 ?_
  refine z_iadd (M := (M_law nm)) dL_law_234 ?_
  obtain ⟨hi_15, H⟩ := ck_e H
  obtain ⟨a_14, a_14_e, H⟩ := lt_e H
  refine z_sald (M := (M_law nm)) hx dL_law_235 rfl rfl hi_15 a_14_e.symm ?_
  refine z_aload_n (M := (M_law nm)) dL_law_236 rfl ?_
  refine z_iload (M := (M_law nm)) dL_law_237 rfl ?_
  refine z_iconst (M := (M_law nm)) dL_law_239 ?_
  refine z_iadd (M := (M_law nm)) dL_law_240 ?_
  obtain ⟨hi_17, H⟩ := ck_e H
  obtain ⟨a_16, a_16_e, H⟩ := lt_e H
  refine z_sald (M := (M_law nm)) hx dL_law_241 rfl rfl hi_17 a_16_e.symm ?_
  refine z_aload_n (M := (M_law nm)) dL_law_242 rfl ?_
  refine z_iload (M := (M_law nm)) dL_law_243 rfl ?_
  refine z_iconst (M := (M_law nm)) dL_law_245 ?_
  refine z_iadd (M := (M_law nm)) dL_law_246 ?_
  obtain ⟨hi_19, H⟩ := ck_e H
  obtain ⟨a_18, a_18_e, H⟩ := lt_e H
  refine z_sald (M := (M_law nm)) hx dL_law_247 rfl rfl hi_19 a_18_e.symm ?_
  refine z_aload_n (M := (M_law nm)) dL_law_248 rfl ?_
  refine z_iload (M := (M_law nm)) dL_law_249 rfl ?_
  refine z_iconst (M := (M_law nm)) dL_law_251 ?_
  refine z_iadd (M := (M_law nm)) dL_law_252 ?_
  obtain ⟨hi_21, H⟩ := ck_e H
  obtain ⟨a_20, a_20_e, H⟩ := lt_e H
  refine z_sald (M := (M_law nm)) hx dL_law_253 rfl rfl hi_21 a_20_e.symm ?_
  refine z_aload_n (M := (M_law nm)) dL_law_254 rfl ?_
  refine z_iload (M := (M_law nm)) dL_law_255 rfl ?_
  refine z_iconst (M := (M_law nm)) dL_law_257 ?_
  refine z_iadd (M := (M_law nm)) dL_law_258 ?_
  obtain ⟨hi_23, H⟩ := ck_e H
  obtain ⟨a_22, a_22_e, H⟩ := lt_e H
  refine z_sald (M := (M_law nm)) hx dL_law_259 rfl rfl hi_23 a_22_e.symm ?_
  obtain ⟨⟨x_26, σ_25⟩, hc_24, H⟩ := bd_e H
  refine z_callV (M := (M_law nm)) (M' := M_X12_feed) (as := [vi a_14, vi a_16, vi a_18, vi a_20, vi a_22]) (rest := []) rfl rfl dL_law_260 m_X12_feed t_2801 t_2802 t_2803 (c_X12_feed hl  hc_24) rfl rfl ly_277 rfl (Nat.le_of_ble_eq_true rfl) (Nat.le_of_ble_eq_true rfl) (by omega) (by omega) ?_
  refine z_st (st' := [vi x_26]) rfl ?_
  refine z_istore (M := (M_law nm)) (lv' := [some (vr 0), some (vr 32), some (vr 277), some (vr 359), some (vi i_0), some (vi x_13), some (vi x_26), none]) dL_law_263 (Nat.le_of_ble_eq_true rfl) rfl rfl ?_
  refine z_goto (M := (M_law nm)) (tgt := 1606) dL_law_265 (by decide) ?_
  refine z_le (lv' := [some (vr 0), some (vr 32), some (vr 277), some (vr 359), some (vi i_0), none, none, none]) ⟨Or.inr rfl, Or.inr rfl, Or.inr rfl, Or.inr rfl, Or.inr rfl, Or.inl rfl, Or.inl rfl, Or.inl rfl, trivial⟩ ?_
  cases H
  exact z_wide (by omega) (by omega) J
theorem s_case1 (hl : l.stackTraces = false) {nm : String} {post : Outc → SG → Prop} {σ σ' : SG} {xs : Nat → Int32} {L : Nat} (hx : E.2.2.2.2 0 = some (L, xs)) {i_0 : Int} {cu su : Nat} (hcu : cu + 16 ≤ 601024) (hsu : su + 96 ≤ 7293000) (H : fS_1 σ xs L i_0 = some (true, σ')) (J : YY l E (M_law nm) 1312 601024 7293000 post 1606 [some (vr 0), some (vr 32), some (vr 277), some (vr 359), some (vi i_0), none, none, none] [] σ' (cu + 16) (su + 96)) : YY l E (M_law nm) 1312 601024 7293000 post 268 [some (vr 0), some (vr 32), some (vr 277), some (vr 359), some (vi i_0), none, none, none] [] σ cu su := by
  unfold fS_1 at H
  refine z_aload_n (M := (M_law nm)) dL_law_268 rfl ?_
  refine z_aload_n (M := (M_law nm)) dL_law_269 rfl ?_
  refine z_iload (M := (M_law nm)) dL_law_270 rfl ?_
  refine z_iconst (M := (M_law nm)) dL_law_272 ?_
  refine z_iadd (M := (M_law nm)) dL_law_273 ?_
  obtain ⟨hi_2, H⟩ := ck_e H
  obtain ⟨a_1, a_1_e, H⟩ := lt_e H
  refine z_sald (M := (M_law nm)) hx dL_law_274 rfl rfl hi_2 a_1_e.symm ?_
  refine z_aload_n (M := (M_law nm)) dL_law_275 rfl ?_
  obtain ⟨⟨x_5, σ_4⟩, hc_3, H⟩ := bd_e H
  refine z_callSW (M := (M_law nm)) (M' := M_L_end) (as := [vr 32, vi a_1, vr 359]) (rest := []) rfl rfl dL_law_276 m_L_end t_713 t_714 (c_L_end hl hc_3) rfl rfl (Nat.le_of_ble_eq_true rfl) (Nat.le_of_ble_eq_true rfl) (by omega) (by omega) ?_
  refine z_st (st' := [vi x_5]) rfl ?_
  refine z_istore (M := (M_law nm)) (lv' := [some (vr 0), some (vr 32), some (vr 277), some (vr 359), some (vi i_0), some (vi x_5), none, none]) dL_law_279 (Nat.le_of_ble_eq_true rfl) rfl rfl ?_
  refine z_aload_n (M := (M_law nm)) dL_law_281 rfl ?_
  refine z_aload_n (M := (M_law nm)) dL_law_282 rfl ?_
  refine z_iload (M := (M_law nm)) dL_law_283 rfl ?_
  refine z_iconst (M := (M_law nm)) dL_law_285 ?_
  refine z_iadd (M := (M_law nm)) dL_law_286 ?_
  obtain ⟨hi_7, H⟩ := ck_e H
  obtain ⟨a_6, a_6_e, H⟩ := lt_e H
  refine z_sald (M := (M_law nm)) hx dL_law_287 rfl rfl hi_7 a_6_e.symm ?_
  obtain ⟨⟨x_10, σ_9⟩, hc_8, H⟩ := bd_e H
  refine z_callV (M := (M_law nm)) (M' := M_X12_end) (as := [vi a_6]) (rest := []) rfl rfl dL_law_288 m_X12_end t_2813 t_2814 t_2815 (c_X12_end hl  hc_8) rfl rfl ly_277 rfl (Nat.le_of_ble_eq_true rfl) (Nat.le_of_ble_eq_true rfl) (by omega) (by omega) ?_
  refine z_st (st' := [vi x_10]) rfl ?_
  refine z_istore (M := (M_law nm)) (lv' := [some (vr 0), some (vr 32), some (vr 277), some (vr 359), some (vi i_0), some (vi x_5), some (vi x_10), none]) dL_law_291 (Nat.le_of_ble_eq_true rfl) rfl rfl ?_
  refine z_goto (M := (M_law nm)) (tgt := 1606) dL_law_293 (by decide) ?_
  refine z_le (lv' := [some (vr 0), some (vr 32), some (vr 277), some (vr 359), some (vi i_0), none, none, none]) ⟨Or.inr rfl, Or.inr rfl, Or.inr rfl, Or.inr rfl, Or.inr rfl, Or.inl rfl, Or.inl rfl, Or.inl rfl, trivial⟩ ?_
  cases H
  exact z_wide (by omega) (by omega) J
theorem s_case2 (hl : l.stackTraces = false) {nm : String} {post : Outc → SG → Prop} {σ σ' : SG} {xs : Nat → Int32} {L : Nat} (hx : E.2.2.2.2 0 = some (L, xs)) {i_0 : Int} {cu su : Nat} (hcu : cu + 16 ≤ 601024) (hsu : su + 96 ≤ 7293000) (H : fS_2 σ xs L i_0 = some (true, σ')) (J : YY l E (M_law nm) 1312 601024 7293000 post 1606 [some (vr 0), some (vr 32), some (vr 277), some (vr 359), some (vi i_0), none, none, none] [] σ' (cu + 16) (su + 96)) : YY l E (M_law nm) 1312 601024 7293000 post 296 [some (vr 0), some (vr 32), some (vr 277), some (vr 359), some (vi i_0), none, none, none] [] σ cu su := by
  unfold fS_2 at H
  refine z_aload_n (M := (M_law nm)) dL_law_296 rfl ?_
  obtain ⟨⟨x_3, σ_2⟩, hc_1, H⟩ := bd_e H
  refine z_callV (M := (M_law nm)) (M' := M_X11_again) (as := []) (rest := []) rfl rfl dL_law_297 m_X11_again t_621 t_622 t_623 (c_X11_again hl  hc_1) rfl rfl ly_32 rfl (Nat.le_of_ble_eq_true rfl) (Nat.le_of_ble_eq_true rfl) (by omega) (by omega) ?_
  refine z_st (st' := [vi x_3]) rfl ?_
  refine z_pop (M := (M_law nm)) dL_law_300 rfl ?_
  refine z_aload_n (M := (M_law nm)) dL_law_301 rfl ?_
  obtain ⟨⟨x_6, σ_5⟩, hc_4, H⟩ := bd_e H
  refine z_callV (M := (M_law nm)) (M' := M_X12_again) (as := []) (rest := []) rfl rfl dL_law_302 m_X12_again t_2821 t_2822 t_2823 (c_X12_again hl  hc_4) rfl rfl ly_277 rfl (Nat.le_of_ble_eq_true rfl) (Nat.le_of_ble_eq_true rfl) (by omega) (by omega) ?_
  refine z_st (st' := [vi x_6]) rfl ?_
  refine z_pop (M := (M_law nm)) dL_law_305 rfl ?_
  refine z_goto (M := (M_law nm)) (tgt := 1606) dL_law_306 (by decide) ?_
  cases H
  exact z_wide (by omega) (by omega) J
theorem s_case3 (hl : l.stackTraces = false) {nm : String} {post : Outc → SG → Prop} {σ σ' : SG} {xs : Nat → Int32} {L : Nat} (hx : E.2.2.2.2 0 = some (L, xs)) {i_0 : Int} {cu su : Nat} (hcu : cu + 16 ≤ 601024) (hsu : su + 96 ≤ 7293000) (H : fS_3 σ xs L i_0 = some (true, σ')) (J : YY l E (M_law nm) 1312 601024 7293000 post 1606 [some (vr 0), some (vr 32), some (vr 277), some (vr 359), some (vi i_0), none, none, none] [] σ' (cu + 16) (su + 96)) : YY l E (M_law nm) 1312 601024 7293000 post 309 [some (vr 0), some (vr 32), some (vr 277), some (vr 359), some (vi i_0), none, none, none] [] σ cu su := by
  unfold fS_3 at H
  refine z_aload_n (M := (M_law nm)) dL_law_309 rfl ?_
  refine z_aload_n (M := (M_law nm)) dL_law_310 rfl ?_
  refine z_iload (M := (M_law nm)) dL_law_311 rfl ?_
  refine z_iconst (M := (M_law nm)) dL_law_313 ?_
  refine z_iadd (M := (M_law nm)) dL_law_314 ?_
  obtain ⟨hi_2, H⟩ := ck_e H
  obtain ⟨a_1, a_1_e, H⟩ := lt_e H
  refine z_sald (M := (M_law nm)) hx dL_law_315 rfl rfl hi_2 a_1_e.symm ?_
  refine z_aload_n (M := (M_law nm)) dL_law_316 rfl ?_
  obtain ⟨⟨x_5, σ_4⟩, hc_3, H⟩ := bd_e H
  refine z_callSW (M := (M_law nm)) (M' := M_L_readWords) (as := [vr 32, vi a_1, vr 359]) (rest := []) rfl rfl dL_law_317 m_L_readWords t_736 t_737 (c_L_readWords hl hc_3) rfl rfl (Nat.le_of_ble_eq_true rfl) (Nat.le_of_ble_eq_true rfl) (by omega) (by omega) ?_
  refine z_st (st' := [vi x_5]) rfl ?_
  refine z_istore (M := (M_law nm)) (lv' := [some (vr 0), some (vr 32), some (vr 277), some (vr 359), some (vi i_0), some (vi x_5), none, none]) dL_law_320 (Nat.le_of_ble_eq_true rfl) rfl rfl ?_
  refine z_aload_n (M := (M_law nm)) dL_law_322 rfl ?_
  refine z_aload_n (M := (M_law nm)) dL_law_323 rfl ?_
  refine z_iload (M := (M_law nm)) dL_law_324 rfl ?_
  refine z_iconst (M := (M_law nm)) dL_law_326 ?_
  refine z_iadd (M := (M_law nm)) dL_law_327 ?_
  obtain ⟨hi_7, H⟩ := ck_e H
  obtain ⟨a_6, a_6_e, H⟩ := lt_e H
  refine z_sald (M := (M_law nm)) hx dL_law_328 rfl rfl hi_7 a_6_e.symm ?_
  obtain ⟨⟨x_10, σ_9⟩, hc_8, H⟩ := bd_e H
  refine z_callV (M := (M_law nm)) (M' := M_X12_readWords) (as := [vi a_6]) (rest := []) rfl rfl dL_law_329 m_X12_readWords t_2833 t_2834 t_2835 (c_X12_readWords hl  hc_8) rfl rfl ly_277 rfl (Nat.le_of_ble_eq_true rfl) (Nat.le_of_ble_eq_true rfl) (by omega) (by omega) ?_
  refine z_st (st' := [vi x_10]) rfl ?_
  refine z_istore (M := (M_law nm)) (lv' := [some (vr 0), some (vr 32), some (vr 277), some (vr 359), some (vi i_0), some (vi x_5), some (vi x_10), none]) dL_law_332 (Nat.le_of_ble_eq_true rfl) rfl rfl ?_
  refine z_goto (M := (M_law nm)) (tgt := 1606) dL_law_334 (by decide) ?_
  refine z_le (lv' := [some (vr 0), some (vr 32), some (vr 277), some (vr 359), some (vi i_0), none, none, none]) ⟨Or.inr rfl, Or.inr rfl, Or.inr rfl, Or.inr rfl, Or.inr rfl, Or.inl rfl, Or.inl rfl, Or.inl rfl, trivial⟩ ?_
  cases H
  exact z_wide (by omega) (by omega) J
theorem s_case4 (hl : l.stackTraces = false) {nm : String} {post : Outc → SG → Prop} {σ σ' : SG} {xs : Nat → Int32} {L : Nat} (hx : E.2.2.2.2 0 = some (L, xs)) {i_0 : Int} {cu su : Nat} (hcu : cu + 16 ≤ 601024) (hsu : su + 96 ≤ 7293000) (H : fS_4 σ xs L i_0 = some (true, σ')) (J : YY l E (M_law nm) 1312 601024 7293000 post 1606 [some (vr 0), some (vr 32), some (vr 277), some (vr 359), some (vi i_0), none, none, none] [] σ' (cu + 16) (su + 96)) : YY l E (M_law nm) 1312 601024 7293000 post 337 [some (vr 0), some (vr 32), some (vr 277), some (vr 359), some (vi i_0), none, none, none] [] σ cu su := by
  unfold fS_4 at H
  refine z_aload_n (M := (M_law nm)) dL_law_337 rfl ?_
  refine z_aload_n (M := (M_law nm)) dL_law_338 rfl ?_
  refine z_iload (M := (M_law nm)) dL_law_339 rfl ?_
  refine z_iconst (M := (M_law nm)) dL_law_341 ?_
  refine z_iadd (M := (M_law nm)) dL_law_342 ?_
  obtain ⟨hi_2, H⟩ := ck_e H
  obtain ⟨a_1, a_1_e, H⟩ := lt_e H
  refine z_sald (M := (M_law nm)) hx dL_law_343 rfl rfl hi_2 a_1_e.symm ?_
  refine z_aload_n (M := (M_law nm)) dL_law_344 rfl ?_
  obtain ⟨⟨x_5, σ_4⟩, hc_3, H⟩ := bd_e H
  refine z_callSW (M := (M_law nm)) (M' := M_L_readBytes) (as := [vr 32, vi a_1, vr 359]) (rest := []) rfl rfl dL_law_345 m_L_readBytes t_954 t_955 (c_L_readBytes hl hc_3) rfl rfl (Nat.le_of_ble_eq_true rfl) (Nat.le_of_ble_eq_true rfl) (by omega) (by omega) ?_
  refine z_st (st' := [vi x_5]) rfl ?_
  refine z_istore (M := (M_law nm)) (lv' := [some (vr 0), some (vr 32), some (vr 277), some (vr 359), some (vi i_0), some (vi x_5), none, none]) dL_law_348 (Nat.le_of_ble_eq_true rfl) rfl rfl ?_
  refine z_aload_n (M := (M_law nm)) dL_law_350 rfl ?_
  refine z_aload_n (M := (M_law nm)) dL_law_351 rfl ?_
  refine z_iload (M := (M_law nm)) dL_law_352 rfl ?_
  refine z_iconst (M := (M_law nm)) dL_law_354 ?_
  refine z_iadd (M := (M_law nm)) dL_law_355 ?_
  obtain ⟨hi_7, H⟩ := ck_e H
  obtain ⟨a_6, a_6_e, H⟩ := lt_e H
  refine z_sald (M := (M_law nm)) hx dL_law_356 rfl rfl hi_7 a_6_e.symm ?_
  obtain ⟨⟨x_10, σ_9⟩, hc_8, H⟩ := bd_e H
  refine z_callV (M := (M_law nm)) (M' := M_X12_readBytes) (as := [vi a_6]) (rest := []) rfl rfl dL_law_357 m_X12_readBytes t_3025 t_3026 t_3027 (c_X12_readBytes hl  hc_8) rfl rfl ly_277 rfl (Nat.le_of_ble_eq_true rfl) (Nat.le_of_ble_eq_true rfl) (by omega) (by omega) ?_
  refine z_st (st' := [vi x_10]) rfl ?_
  refine z_istore (M := (M_law nm)) (lv' := [some (vr 0), some (vr 32), some (vr 277), some (vr 359), some (vi i_0), some (vi x_5), some (vi x_10), none]) dL_law_360 (Nat.le_of_ble_eq_true rfl) rfl rfl ?_
  refine z_goto (M := (M_law nm)) (tgt := 1606) dL_law_362 (by decide) ?_
  refine z_le (lv' := [some (vr 0), some (vr 32), some (vr 277), some (vr 359), some (vi i_0), none, none, none]) ⟨Or.inr rfl, Or.inr rfl, Or.inr rfl, Or.inr rfl, Or.inr rfl, Or.inl rfl, Or.inl rfl, Or.inl rfl, trivial⟩ ?_
  cases H
  exact z_wide (by omega) (by omega) J
theorem s_case5 (hl : l.stackTraces = false) {nm : String} {post : Outc → SG → Prop} {σ σ' : SG} {xs : Nat → Int32} {L : Nat} (hx : E.2.2.2.2 0 = some (L, xs)) {i_0 : Int} {cu su : Nat} (hcu : cu + 16 ≤ 601024) (hsu : su + 96 ≤ 7293000) (H : fS_5 σ xs L i_0 = some (true, σ')) (J : YY l E (M_law nm) 1312 601024 7293000 post 1606 [some (vr 0), some (vr 32), some (vr 277), some (vr 359), some (vi i_0), none, none, none] [] σ' (cu + 16) (su + 96)) : YY l E (M_law nm) 1312 601024 7293000 post 365 [some (vr 0), some (vr 32), some (vr 277), some (vr 359), some (vi i_0), none, none, none] [] σ cu su := by
  unfold fS_5 at H
  refine z_aload_n (M := (M_law nm)) dL_law_365 rfl ?_
  refine z_aload_n (M := (M_law nm)) dL_law_366 rfl ?_
  refine z_iload (M := (M_law nm)) dL_law_367 rfl ?_
  refine z_iconst (M := (M_law nm)) dL_law_369 ?_
  refine z_iadd (M := (M_law nm)) dL_law_370 ?_
  obtain ⟨hi_2, H⟩ := ck_e H
  obtain ⟨a_1, a_1_e, H⟩ := lt_e H
  refine z_sald (M := (M_law nm)) hx dL_law_371 rfl rfl hi_2 a_1_e.symm ?_
  refine z_aload_n (M := (M_law nm)) dL_law_372 rfl ?_
  obtain ⟨⟨x_5, σ_4⟩, hc_3, H⟩ := bd_e H
  refine z_callSW (M := (M_law nm)) (M' := M_L_fault) (as := [vr 32, vi a_1, vr 359]) (rest := []) rfl rfl dL_law_373 m_L_fault t_1033 t_1034 (c_L_fault hl hc_3) rfl rfl (Nat.le_of_ble_eq_true rfl) (Nat.le_of_ble_eq_true rfl) (by omega) (by omega) ?_
  refine z_st (st' := [vi x_5]) rfl ?_
  refine z_istore (M := (M_law nm)) (lv' := [some (vr 0), some (vr 32), some (vr 277), some (vr 359), some (vi i_0), some (vi x_5), none, none]) dL_law_376 (Nat.le_of_ble_eq_true rfl) rfl rfl ?_
  refine z_aload_n (M := (M_law nm)) dL_law_378 rfl ?_
  refine z_aload_n (M := (M_law nm)) dL_law_379 rfl ?_
  refine z_iload (M := (M_law nm)) dL_law_380 rfl ?_
  refine z_iconst (M := (M_law nm)) dL_law_382 ?_
  refine z_iadd (M := (M_law nm)) dL_law_383 ?_
  obtain ⟨hi_7, H⟩ := ck_e H
  obtain ⟨a_6, a_6_e, H⟩ := lt_e H
  refine z_sald (M := (M_law nm)) hx dL_law_384 rfl rfl hi_7 a_6_e.symm ?_
  obtain ⟨⟨x_10, σ_9⟩, hc_8, H⟩ := bd_e H
  refine z_callV (M := (M_law nm)) (M' := M_X12_fault) (as := [vi a_6]) (rest := []) rfl rfl dL_law_385 m_X12_fault t_2825 t_2826 t_2827 (c_X12_fault hl  hc_8) rfl rfl ly_277 rfl (Nat.le_of_ble_eq_true rfl) (Nat.le_of_ble_eq_true rfl) (by omega) (by omega) ?_
  refine z_st (st' := [vi x_10]) rfl ?_
  refine z_istore (M := (M_law nm)) (lv' := [some (vr 0), some (vr 32), some (vr 277), some (vr 359), some (vi i_0), some (vi x_5), some (vi x_10), none]) dL_law_388 (Nat.le_of_ble_eq_true rfl) rfl rfl ?_
  refine z_goto (M := (M_law nm)) (tgt := 1606) dL_law_390 (by decide) ?_
  refine z_le (lv' := [some (vr 0), some (vr 32), some (vr 277), some (vr 359), some (vi i_0), none, none, none]) ⟨Or.inr rfl, Or.inr rfl, Or.inr rfl, Or.inr rfl, Or.inr rfl, Or.inl rfl, Or.inl rfl, Or.inl rfl, trivial⟩ ?_
  cases H
  exact z_wide (by omega) (by omega) J
theorem s_case6 (hl : l.stackTraces = false) {nm : String} {post : Outc → SG → Prop} {σ σ' : SG} {xs : Nat → Int32} {L : Nat} (hx : E.2.2.2.2 0 = some (L, xs)) {i_0 : Int} {cu su : Nat} (hcu : cu + 16 ≤ 601024) (hsu : su + 96 ≤ 7293000) (H : fS_6 σ xs L i_0 = some (true, σ')) (J : YY l E (M_law nm) 1312 601024 7293000 post 1606 [some (vr 0), some (vr 32), some (vr 277), some (vr 359), some (vi i_0), none, none, none] [] σ' (cu + 16) (su + 96)) : YY l E (M_law nm) 1312 601024 7293000 post 393 [some (vr 0), some (vr 32), some (vr 277), some (vr 359), some (vi i_0), none, none, none] [] σ cu su := by
  unfold fS_6 at H
  refine z_aload_n (M := (M_law nm)) dL_law_393 rfl ?_
  refine z_aload_n (M := (M_law nm)) dL_law_394 rfl ?_
  refine z_iload (M := (M_law nm)) dL_law_395 rfl ?_
  refine z_iconst (M := (M_law nm)) dL_law_397 ?_
  refine z_iadd (M := (M_law nm)) dL_law_398 ?_
  obtain ⟨hi_2, H⟩ := ck_e H
  obtain ⟨a_1, a_1_e, H⟩ := lt_e H
  refine z_sald (M := (M_law nm)) hx dL_law_399 rfl rfl hi_2 a_1_e.symm ?_
  refine z_aload_n (M := (M_law nm)) dL_law_400 rfl ?_
  obtain ⟨⟨x_5, σ_4⟩, hc_3, H⟩ := bd_e H
  refine z_callSW (M := (M_law nm)) (M' := M_L_writeWords) (as := [vr 32, vi a_1, vr 359]) (rest := []) rfl rfl dL_law_401 m_L_writeWords t_1040 t_1041 (c_L_writeWords hl hc_3) rfl rfl (Nat.le_of_ble_eq_true rfl) (Nat.le_of_ble_eq_true rfl) (by omega) (by omega) ?_
  refine z_st (st' := [vi x_5]) rfl ?_
  refine z_istore (M := (M_law nm)) (lv' := [some (vr 0), some (vr 32), some (vr 277), some (vr 359), some (vi i_0), some (vi x_5), none, none]) dL_law_404 (Nat.le_of_ble_eq_true rfl) rfl rfl ?_
  refine z_aload_n (M := (M_law nm)) dL_law_406 rfl ?_
  refine z_aload_n (M := (M_law nm)) dL_law_407 rfl ?_
  refine z_iload (M := (M_law nm)) dL_law_408 rfl ?_
  refine z_iconst (M := (M_law nm)) dL_law_410 ?_
  refine z_iadd (M := (M_law nm)) dL_law_411 ?_
  obtain ⟨hi_7, H⟩ := ck_e H
  obtain ⟨a_6, a_6_e, H⟩ := lt_e H
  refine z_sald (M := (M_law nm)) hx dL_law_412 rfl rfl hi_7 a_6_e.symm ?_
  obtain ⟨⟨x_10, σ_9⟩, hc_8, H⟩ := bd_e H
  refine z_callV (M := (M_law nm)) (M' := M_X12_writeWords) (as := [vi a_6]) (rest := []) rfl rfl dL_law_413 m_X12_writeWords t_3029 t_3030 t_3031 (c_X12_writeWords hl  hc_8) rfl rfl ly_277 rfl (Nat.le_of_ble_eq_true rfl) (Nat.le_of_ble_eq_true rfl) (by omega) (by omega) ?_
  refine z_st (st' := [vi x_10]) rfl ?_
  refine z_istore (M := (M_law nm)) (lv' := [some (vr 0), some (vr 32), some (vr 277), some (vr 359), some (vi i_0), some (vi x_5), some (vi x_10), none]) dL_law_416 (Nat.le_of_ble_eq_true rfl) rfl rfl ?_
  refine z_goto (M := (M_law nm)) (tgt := 1606) dL_law_418 (by decide) ?_
  refine z_le (lv' := [some (vr 0), some (vr 32), some (vr 277), some (vr 359), some (vi i_0), none, none, none]) ⟨Or.inr rfl, Or.inr rfl, Or.inr rfl, Or.inr rfl, Or.inr rfl, Or.inl rfl, Or.inl rfl, Or.inl rfl, trivial⟩ ?_
  cases H
  exact z_wide (by omega) (by omega) J
theorem s_case7 (hl : l.stackTraces = false) {nm : String} {post : Outc → SG → Prop} {σ σ' : SG} {xs : Nat → Int32} {L : Nat} (hx : E.2.2.2.2 0 = some (L, xs)) {i_0 : Int} {cu su : Nat} (hcu : cu + 16 ≤ 601024) (hsu : su + 96 ≤ 7293000) (H : fS_7 σ xs L i_0 = some (true, σ')) (J : YY l E (M_law nm) 1312 601024 7293000 post 1606 [some (vr 0), some (vr 32), some (vr 277), some (vr 359), some (vi i_0), none, none, none] [] σ' (cu + 16) (su + 96)) : YY l E (M_law nm) 1312 601024 7293000 post 421 [some (vr 0), some (vr 32), some (vr 277), some (vr 359), some (vi i_0), none, none, none] [] σ cu su := by
  unfold fS_7 at H
  refine z_aload_n (M := (M_law nm)) dL_law_421 rfl ?_
  refine z_aload_n (M := (M_law nm)) dL_law_422 rfl ?_
  refine z_iload (M := (M_law nm)) dL_law_423 rfl ?_
  refine z_iconst (M := (M_law nm)) dL_law_425 ?_
  refine z_iadd (M := (M_law nm)) dL_law_426 ?_
  obtain ⟨hi_2, H⟩ := ck_e H
  obtain ⟨a_1, a_1_e, H⟩ := lt_e H
  refine z_sald (M := (M_law nm)) hx dL_law_427 rfl rfl hi_2 a_1_e.symm ?_
  refine z_aload_n (M := (M_law nm)) dL_law_428 rfl ?_
  refine z_iload (M := (M_law nm)) dL_law_429 rfl ?_
  refine z_iconst (M := (M_law nm)) dL_law_431 ?_
  refine z_iadd (M := (M_law nm)) dL_law_432 ?_
  obtain ⟨hi_4, H⟩ := ck_e H
  obtain ⟨a_3, a_3_e, H⟩ := lt_e H
  refine z_sald (M := (M_law nm)) hx dL_law_433 rfl rfl hi_4 a_3_e.symm ?_
  refine z_aload_n (M := (M_law nm)) dL_law_434 rfl ?_
  obtain ⟨⟨x_7, σ_6⟩, hc_5, H⟩ := bd_e H
  refine z_callSW (M := (M_law nm)) (M' := M_L_writeBytes) (as := [vr 32, vi a_1, vi a_3, vr 359]) (rest := []) rfl rfl dL_law_435 m_L_writeBytes t_1110 t_1111 (c_L_writeBytes hl hc_5) rfl rfl (Nat.le_of_ble_eq_true rfl) (Nat.le_of_ble_eq_true rfl) (by omega) (by omega) ?_
  refine z_st (st' := [vi x_7]) rfl ?_
  refine z_istore (M := (M_law nm)) (lv' := [some (vr 0), some (vr 32), some (vr 277), some (vr 359), some (vi i_0), some (vi x_7), none, none]) dL_law_438 (Nat.le_of_ble_eq_true rfl) rfl rfl ?_
  refine z_aload_n (M := (M_law nm)) dL_law_440 rfl ?_
  refine z_aload_n (M := (M_law nm)) dL_law_441 rfl ?_
  refine z_iload (M := (M_law nm)) dL_law_442 rfl ?_
  refine z_iconst (M := (M_law nm)) dL_law_444 ?_
  refine z_iadd (M := (M_law nm)) dL_law_445 ?_
  obtain ⟨hi_9, H⟩ := ck_e H
  obtain ⟨a_8, a_8_e, H⟩ := lt_e H
  refine z_sald (M := (M_law nm)) hx dL_law_446 rfl rfl hi_9 a_8_e.symm ?_
  refine z_aload_n (M := (M_law nm)) dL_law_447 rfl ?_
  refine z_iload (M := (M_law nm)) dL_law_448 rfl ?_
  refine z_iconst (M := (M_law nm)) dL_law_450 ?_
  refine z_iadd (M := (M_law nm)) dL_law_451 ?_
  obtain ⟨hi_11, H⟩ := ck_e H
  obtain ⟨a_10, a_10_e, H⟩ := lt_e H
  refine z_sald (M := (M_law nm)) hx dL_law_452 rfl rfl hi_11 a_10_e.symm ?_
  obtain ⟨⟨x_14, σ_13⟩, hc_12, H⟩ := bd_e H
  refine z_callV (M := (M_law nm)) (M' := M_X12_writeBytes) (as := [vi a_8, vi a_10]) (rest := []) rfl rfl dL_law_453 m_X12_writeBytes t_3074 t_3075 t_3076 (c_X12_writeBytes hl  hc_12) rfl rfl ly_277 rfl (Nat.le_of_ble_eq_true rfl) (Nat.le_of_ble_eq_true rfl) (by omega) (by omega) ?_
  refine z_st (st' := [vi x_14]) rfl ?_
  refine z_istore (M := (M_law nm)) (lv' := [some (vr 0), some (vr 32), some (vr 277), some (vr 359), some (vi i_0), some (vi x_7), some (vi x_14), none]) dL_law_456 (Nat.le_of_ble_eq_true rfl) rfl rfl ?_
  refine z_goto (M := (M_law nm)) (tgt := 1606) dL_law_458 (by decide) ?_
  refine z_le (lv' := [some (vr 0), some (vr 32), some (vr 277), some (vr 359), some (vi i_0), none, none, none]) ⟨Or.inr rfl, Or.inr rfl, Or.inr rfl, Or.inr rfl, Or.inr rfl, Or.inl rfl, Or.inl rfl, Or.inl rfl, trivial⟩ ?_
  cases H
  exact z_wide (by omega) (by omega) J
theorem s_case8 (hl : l.stackTraces = false) {nm : String} {post : Outc → SG → Prop} {σ σ' : SG} {xs : Nat → Int32} {L : Nat} (hx : E.2.2.2.2 0 = some (L, xs)) {i_0 : Int} {cu su : Nat} (hcu : cu + 16 ≤ 601024) (hsu : su + 96 ≤ 7293000) (H : fS_8 σ xs L i_0 = some (true, σ')) (J : YY l E (M_law nm) 1312 601024 7293000 post 1606 [some (vr 0), some (vr 32), some (vr 277), some (vr 359), some (vi i_0), none, none, none] [] σ' (cu + 16) (su + 96)) : YY l E (M_law nm) 1312 601024 7293000 post 461 [some (vr 0), some (vr 32), some (vr 277), some (vr 359), some (vi i_0), none, none, none] [] σ cu su := by
  unfold fS_8 at H
  refine z_aload_n (M := (M_law nm)) dL_law_461 rfl ?_
  refine z_aload_n (M := (M_law nm)) dL_law_462 rfl ?_
  refine z_iload (M := (M_law nm)) dL_law_463 rfl ?_
  refine z_iconst (M := (M_law nm)) dL_law_465 ?_
  refine z_iadd (M := (M_law nm)) dL_law_466 ?_
  obtain ⟨hi_2, H⟩ := ck_e H
  obtain ⟨a_1, a_1_e, H⟩ := lt_e H
  refine z_sald (M := (M_law nm)) hx dL_law_467 rfl rfl hi_2 a_1_e.symm ?_
  refine z_aload_n (M := (M_law nm)) dL_law_468 rfl ?_
  obtain ⟨⟨x_5, σ_4⟩, hc_3, H⟩ := bd_e H
  refine z_callSW (M := (M_law nm)) (M' := M_L_byteAt) (as := [vr 32, vi a_1, vr 359]) (rest := []) rfl rfl dL_law_469 m_L_byteAt t_1136 t_1137 (c_L_byteAt hl hc_3) rfl rfl (Nat.le_of_ble_eq_true rfl) (Nat.le_of_ble_eq_true rfl) (by omega) (by omega) ?_
  refine z_st (st' := [vi x_5]) rfl ?_
  refine z_istore (M := (M_law nm)) (lv' := [some (vr 0), some (vr 32), some (vr 277), some (vr 359), some (vi i_0), some (vi x_5), none, none]) dL_law_472 (Nat.le_of_ble_eq_true rfl) rfl rfl ?_
  refine z_aload_n (M := (M_law nm)) dL_law_474 rfl ?_
  refine z_aload_n (M := (M_law nm)) dL_law_475 rfl ?_
  refine z_iload (M := (M_law nm)) dL_law_476 rfl ?_
  refine z_iconst (M := (M_law nm)) dL_law_478 ?_
  refine z_iadd (M := (M_law nm)) dL_law_479 ?_
  obtain ⟨hi_7, H⟩ := ck_e H
  obtain ⟨a_6, a_6_e, H⟩ := lt_e H
  refine z_sald (M := (M_law nm)) hx dL_law_480 rfl rfl hi_7 a_6_e.symm ?_
  obtain ⟨⟨x_10, σ_9⟩, hc_8, H⟩ := bd_e H
  refine z_callV (M := (M_law nm)) (M' := M_X12_byteAt) (as := [vi a_6]) (rest := []) rfl rfl dL_law_481 m_X12_byteAt t_2829 t_2830 t_2831 (c_X12_byteAt hl  hc_8) rfl rfl ly_277 rfl (Nat.le_of_ble_eq_true rfl) (Nat.le_of_ble_eq_true rfl) (by omega) (by omega) ?_
  refine z_st (st' := [vi x_10]) rfl ?_
  refine z_istore (M := (M_law nm)) (lv' := [some (vr 0), some (vr 32), some (vr 277), some (vr 359), some (vi i_0), some (vi x_5), some (vi x_10), none]) dL_law_484 (Nat.le_of_ble_eq_true rfl) rfl rfl ?_
  refine z_goto (M := (M_law nm)) (tgt := 1606) dL_law_486 (by decide) ?_
  refine z_le (lv' := [some (vr 0), some (vr 32), some (vr 277), some (vr 359), some (vi i_0), none, none, none]) ⟨Or.inr rfl, Or.inr rfl, Or.inr rfl, Or.inr rfl, Or.inr rfl, Or.inl rfl, Or.inl rfl, Or.inl rfl, trivial⟩ ?_
  cases H
  exact z_wide (by omega) (by omega) J
theorem s_case9 (hl : l.stackTraces = false) {nm : String} {post : Outc → SG → Prop} {σ σ' : SG} {xs : Nat → Int32} {L : Nat} (hx : E.2.2.2.2 0 = some (L, xs)) {i_0 : Int} {cu su : Nat} (hcu : cu + 16 ≤ 601024) (hsu : su + 96 ≤ 7293000) (H : fS_9 σ xs L i_0 = some (true, σ')) (J : YY l E (M_law nm) 1312 601024 7293000 post 1606 [some (vr 0), some (vr 32), some (vr 277), some (vr 359), some (vi i_0), none, none, none] [] σ' (cu + 16) (su + 96)) : YY l E (M_law nm) 1312 601024 7293000 post 489 [some (vr 0), some (vr 32), some (vr 277), some (vr 359), some (vi i_0), none, none, none] [] σ cu su := by
  unfold fS_9 at H
  refine z_aload_n (M := (M_law nm)) dL_law_489 rfl ?_
  refine z_aload_n (M := (M_law nm)) dL_law_490 rfl ?_
  refine z_iload (M := (M_law nm)) dL_law_491 rfl ?_
  refine z_iconst (M := (M_law nm)) dL_law_493 ?_
  refine z_iadd (M := (M_law nm)) dL_law_494 ?_
  obtain ⟨hi_2, H⟩ := ck_e H
  obtain ⟨a_1, a_1_e, H⟩ := lt_e H
  refine z_sald (M := (M_law nm)) hx dL_law_495 rfl rfl hi_2 a_1_e.symm ?_
  refine z_aload_n (M := (M_law nm)) dL_law_496 rfl ?_
  refine z_iload (M := (M_law nm)) dL_law_497 rfl ?_
  refine z_iconst (M := (M_law nm)) dL_law_499 ?_
  refine z_iadd (M := (M_law nm)) dL_law_500 ?_
  obtain ⟨hi_4, H⟩ := ck_e H
  obtain ⟨a_3, a_3_e, H⟩ := lt_e H
  refine z_sald (M := (M_law nm)) hx dL_law_501 rfl rfl hi_4 a_3_e.symm ?_
  refine z_aload_n (M := (M_law nm)) dL_law_502 rfl ?_
  obtain ⟨⟨x_7, σ_6⟩, hc_5, H⟩ := bd_e H
  refine z_callSW (M := (M_law nm)) (M' := M_L_copy) (as := [vr 32, vi a_1, vi a_3, vr 359]) (rest := []) rfl rfl dL_law_503 m_L_copy t_1143 t_1144 (c_L_copy hl hc_5) rfl rfl (Nat.le_of_ble_eq_true rfl) (Nat.le_of_ble_eq_true rfl) (by omega) (by omega) ?_
  refine z_st (st' := [vi x_7]) rfl ?_
  refine z_istore (M := (M_law nm)) (lv' := [some (vr 0), some (vr 32), some (vr 277), some (vr 359), some (vi i_0), some (vi x_7), none, none]) dL_law_506 (Nat.le_of_ble_eq_true rfl) rfl rfl ?_
  refine z_aload_n (M := (M_law nm)) dL_law_508 rfl ?_
  refine z_aload_n (M := (M_law nm)) dL_law_509 rfl ?_
  refine z_iload (M := (M_law nm)) dL_law_510 rfl ?_
  refine z_iconst (M := (M_law nm)) dL_law_512 ?_
  refine z_iadd (M := (M_law nm)) dL_law_513 ?_
  obtain ⟨hi_9, H⟩ := ck_e H
  obtain ⟨a_8, a_8_e, H⟩ := lt_e H
  refine z_sald (M := (M_law nm)) hx dL_law_514 rfl rfl hi_9 a_8_e.symm ?_
  refine z_aload_n (M := (M_law nm)) dL_law_515 rfl ?_
  refine z_iload (M := (M_law nm)) dL_law_516 rfl ?_
  refine z_iconst (M := (M_law nm)) dL_law_518 ?_
  refine z_iadd (M := (M_law nm)) dL_law_519 ?_
  obtain ⟨hi_11, H⟩ := ck_e H
  obtain ⟨a_10, a_10_e, H⟩ := lt_e H
  refine z_sald (M := (M_law nm)) hx dL_law_520 rfl rfl hi_11 a_10_e.symm ?_
  obtain ⟨⟨x_14, σ_13⟩, hc_12, H⟩ := bd_e H
  refine z_callV (M := (M_law nm)) (M' := M_X12_copy) (as := [vi a_8, vi a_10]) (rest := []) rfl rfl dL_law_521 m_X12_copy t_3094 t_3095 t_3096 (c_X12_copy hl  hc_12) rfl rfl ly_277 rfl (Nat.le_of_ble_eq_true rfl) (Nat.le_of_ble_eq_true rfl) (by omega) (by omega) ?_
  refine z_st (st' := [vi x_14]) rfl ?_
  refine z_istore (M := (M_law nm)) (lv' := [some (vr 0), some (vr 32), some (vr 277), some (vr 359), some (vi i_0), some (vi x_7), some (vi x_14), none]) dL_law_524 (Nat.le_of_ble_eq_true rfl) rfl rfl ?_
  refine z_goto (M := (M_law nm)) (tgt := 1606) dL_law_526 (by decide) ?_
  refine z_le (lv' := [some (vr 0), some (vr 32), some (vr 277), some (vr 359), some (vi i_0), none, none, none]) ⟨Or.inr rfl, Or.inr rfl, Or.inr rfl, Or.inr rfl, Or.inr rfl, Or.inl rfl, Or.inl rfl, Or.inl rfl, trivial⟩ ?_
  cases H
  exact z_wide (by omega) (by omega) J
theorem s_case10 (hl : l.stackTraces = false) {nm : String} {post : Outc → SG → Prop} {σ σ' : SG} {xs : Nat → Int32} {L : Nat} (hx : E.2.2.2.2 0 = some (L, xs)) {i_0 : Int} {cu su : Nat} (hcu : cu + 16 ≤ 601024) (hsu : su + 96 ≤ 7293000) (H : fS_10 σ xs L i_0 = some (true, σ')) (J : YY l E (M_law nm) 1312 601024 7293000 post 1606 [some (vr 0), some (vr 32), some (vr 277), some (vr 359), some (vi i_0), none, none, none] [] σ' (cu + 16) (su + 96)) : YY l E (M_law nm) 1312 601024 7293000 post 529 [some (vr 0), some (vr 32), some (vr 277), some (vr 359), some (vi i_0), none, none, none] [] σ cu su := by
  unfold fS_10 at H
  refine z_aload_n (M := (M_law nm)) dL_law_529 rfl ?_
  refine z_aload_n (M := (M_law nm)) dL_law_530 rfl ?_
  refine z_iload (M := (M_law nm)) dL_law_531 rfl ?_
  refine z_iconst (M := (M_law nm)) dL_law_533 ?_
  refine z_iadd (M := (M_law nm)) dL_law_534 ?_
  obtain ⟨hi_2, H⟩ := ck_e H
  obtain ⟨a_1, a_1_e, H⟩ := lt_e H
  refine z_sald (M := (M_law nm)) hx dL_law_535 rfl rfl hi_2 a_1_e.symm ?_
  refine z_aload_n (M := (M_law nm)) dL_law_536 rfl ?_
  obtain ⟨⟨x_5, σ_4⟩, hc_3, H⟩ := bd_e H
  refine z_callSW (M := (M_law nm)) (M' := M_L_drop) (as := [vr 32, vi a_1, vr 359]) (rest := []) rfl rfl dL_law_537 m_L_drop t_1155 t_1156 (c_L_drop hl hc_3) rfl rfl (Nat.le_of_ble_eq_true rfl) (Nat.le_of_ble_eq_true rfl) (by omega) (by omega) ?_
  refine z_st (st' := [vi x_5]) rfl ?_
  refine z_istore (M := (M_law nm)) (lv' := [some (vr 0), some (vr 32), some (vr 277), some (vr 359), some (vi i_0), some (vi x_5), none, none]) dL_law_540 (Nat.le_of_ble_eq_true rfl) rfl rfl ?_
  refine z_aload_n (M := (M_law nm)) dL_law_542 rfl ?_
  refine z_aload_n (M := (M_law nm)) dL_law_543 rfl ?_
  refine z_iload (M := (M_law nm)) dL_law_544 rfl ?_
  refine z_iconst (M := (M_law nm)) dL_law_546 ?_
  refine z_iadd (M := (M_law nm)) dL_law_547 ?_
  obtain ⟨hi_7, H⟩ := ck_e H
  obtain ⟨a_6, a_6_e, H⟩ := lt_e H
  refine z_sald (M := (M_law nm)) hx dL_law_548 rfl rfl hi_7 a_6_e.symm ?_
  obtain ⟨⟨x_10, σ_9⟩, hc_8, H⟩ := bd_e H
  refine z_callV (M := (M_law nm)) (M' := M_X12_drop) (as := [vi a_6]) (rest := []) rfl rfl dL_law_549 m_X12_drop t_3098 t_3099 t_3100 (c_X12_drop hl  hc_8) rfl rfl ly_277 rfl (Nat.le_of_ble_eq_true rfl) (Nat.le_of_ble_eq_true rfl) (by omega) (by omega) ?_
  refine z_st (st' := [zv x_10]) rfl ?_
  refine z_zstore (M := (M_law nm)) (lv' := [some (vr 0), some (vr 32), some (vr 277), some (vr 359), some (vi i_0), some (vi x_5), some (zv x_10), none]) dL_law_552 (Nat.le_of_ble_eq_true rfl) rfl rfl ?_
  refine z_goto (M := (M_law nm)) (tgt := 1606) dL_law_554 (by decide) ?_
  refine z_le (lv' := [some (vr 0), some (vr 32), some (vr 277), some (vr 359), some (vi i_0), none, none, none]) ⟨Or.inr rfl, Or.inr rfl, Or.inr rfl, Or.inr rfl, Or.inr rfl, Or.inl rfl, Or.inl rfl, Or.inl rfl, trivial⟩ ?_
  cases H
  exact z_wide (by omega) (by omega) J
theorem s_case11 (hl : l.stackTraces = false) {nm : String} {post : Outc → SG → Prop} {σ σ' : SG} {xs : Nat → Int32} {L : Nat} (hx : E.2.2.2.2 0 = some (L, xs)) {i_0 : Int} {cu su : Nat} (hcu : cu + 16 ≤ 601024) (hsu : su + 96 ≤ 7293000) (H : fS_11 σ xs L i_0 = some (true, σ')) (J : YY l E (M_law nm) 1312 601024 7293000 post 1606 [some (vr 0), some (vr 32), some (vr 277), some (vr 359), some (vi i_0), none, none, none] [] σ' (cu + 16) (su + 96)) : YY l E (M_law nm) 1312 601024 7293000 post 557 [some (vr 0), some (vr 32), some (vr 277), some (vr 359), some (vi i_0), none, none, none] [] σ cu su := by
  unfold fS_11 at H
  refine z_aload_n (M := (M_law nm)) dL_law_557 rfl ?_
  refine z_aload_n (M := (M_law nm)) dL_law_558 rfl ?_
  refine z_iload (M := (M_law nm)) dL_law_559 rfl ?_
  refine z_iconst (M := (M_law nm)) dL_law_561 ?_
  refine z_iadd (M := (M_law nm)) dL_law_562 ?_
  obtain ⟨hi_2, H⟩ := ck_e H
  obtain ⟨a_1, a_1_e, H⟩ := lt_e H
  refine z_sald (M := (M_law nm)) hx dL_law_563 rfl rfl hi_2 a_1_e.symm ?_
  refine z_aload_n (M := (M_law nm)) dL_law_564 rfl ?_
  refine z_iload (M := (M_law nm)) dL_law_565 rfl ?_
  refine z_iconst (M := (M_law nm)) dL_law_567 ?_
  refine z_iadd (M := (M_law nm)) dL_law_568 ?_
  obtain ⟨hi_4, H⟩ := ck_e H
  obtain ⟨a_3, a_3_e, H⟩ := lt_e H
  refine z_sald (M := (M_law nm)) hx dL_law_569 rfl rfl hi_4 a_3_e.symm ?_
  refine z_aload_n (M := (M_law nm)) dL_law_570 rfl ?_
  obtain ⟨⟨x_7, σ_6⟩, hc_5, H⟩ := bd_e H
  refine z_callSW (M := (M_law nm)) (M' := M_L_same) (as := [vr 32, vi a_1, vi a_3, vr 359]) (rest := []) rfl rfl dL_law_571 m_L_same t_1162 t_1163 (c_L_same hl hc_5) rfl rfl (Nat.le_of_ble_eq_true rfl) (Nat.le_of_ble_eq_true rfl) (by omega) (by omega) ?_
  refine z_st (st' := [vi x_7]) rfl ?_
  refine z_istore (M := (M_law nm)) (lv' := [some (vr 0), some (vr 32), some (vr 277), some (vr 359), some (vi i_0), some (vi x_7), none, none]) dL_law_574 (Nat.le_of_ble_eq_true rfl) rfl rfl ?_
  refine z_aload_n (M := (M_law nm)) dL_law_576 rfl ?_
  refine z_aload_n (M := (M_law nm)) dL_law_577 rfl ?_
  refine z_iload (M := (M_law nm)) dL_law_578 rfl ?_
  refine z_iconst (M := (M_law nm)) dL_law_580 ?_
  refine z_iadd (M := (M_law nm)) dL_law_581 ?_
  obtain ⟨hi_9, H⟩ := ck_e H
  obtain ⟨a_8, a_8_e, H⟩ := lt_e H
  refine z_sald (M := (M_law nm)) hx dL_law_582 rfl rfl hi_9 a_8_e.symm ?_
  refine z_aload_n (M := (M_law nm)) dL_law_583 rfl ?_
  refine z_iload (M := (M_law nm)) dL_law_584 rfl ?_
  refine z_iconst (M := (M_law nm)) dL_law_586 ?_
  refine z_iadd (M := (M_law nm)) dL_law_587 ?_
  obtain ⟨hi_11, H⟩ := ck_e H
  obtain ⟨a_10, a_10_e, H⟩ := lt_e H
  refine z_sald (M := (M_law nm)) hx dL_law_588 rfl rfl hi_11 a_10_e.symm ?_
  obtain ⟨⟨x_14, σ_13⟩, hc_12, H⟩ := bd_e H
  refine z_callV (M := (M_law nm)) (M' := M_X12_same) (as := [vi a_8, vi a_10]) (rest := []) rfl rfl dL_law_589 m_X12_same t_3102 t_3103 t_3104 (c_X12_same hl  hc_12) rfl rfl ly_277 rfl (Nat.le_of_ble_eq_true rfl) (Nat.le_of_ble_eq_true rfl) (by omega) (by omega) ?_
  refine z_st (st' := [zv x_14]) rfl ?_
  refine z_zstore (M := (M_law nm)) (lv' := [some (vr 0), some (vr 32), some (vr 277), some (vr 359), some (vi i_0), some (vi x_7), some (zv x_14), none]) dL_law_592 (Nat.le_of_ble_eq_true rfl) rfl rfl ?_
  refine z_goto (M := (M_law nm)) (tgt := 1606) dL_law_594 (by decide) ?_
  refine z_le (lv' := [some (vr 0), some (vr 32), some (vr 277), some (vr 359), some (vi i_0), none, none, none]) ⟨Or.inr rfl, Or.inr rfl, Or.inr rfl, Or.inr rfl, Or.inr rfl, Or.inl rfl, Or.inl rfl, Or.inl rfl, trivial⟩ ?_
  cases H
  exact z_wide (by omega) (by omega) J
theorem s_case12 (hl : l.stackTraces = false) {nm : String} {post : Outc → SG → Prop} {σ σ' : SG} {xs : Nat → Int32} {L : Nat} (hx : E.2.2.2.2 0 = some (L, xs)) {i_0 : Int} {cu su : Nat} (hcu : cu + 16 ≤ 601024) (hsu : su + 96 ≤ 7293000) (H : fS_12 σ xs L i_0 = some (true, σ')) (J : YY l E (M_law nm) 1312 601024 7293000 post 1606 [some (vr 0), some (vr 32), some (vr 277), some (vr 359), some (vi i_0), none, none, none] [] σ' (cu + 16) (su + 96)) : YY l E (M_law nm) 1312 601024 7293000 post 597 [some (vr 0), some (vr 32), some (vr 277), some (vr 359), some (vi i_0), none, none, none] [] σ cu su := by
  unfold fS_12 at H
  refine z_aload_n (M := (M_law nm)) dL_law_597 rfl ?_
  refine z_aload_n (M := (M_law nm)) dL_law_598 rfl ?_
  refine z_iload (M := (M_law nm)) dL_law_599 rfl ?_
  refine z_iconst (M := (M_law nm)) dL_law_601 ?_
  refine z_iadd (M := (M_law nm)) dL_law_602 ?_
  obtain ⟨hi_2, H⟩ := ck_e H
  obtain ⟨a_1, a_1_e, H⟩ := lt_e H
  refine z_sald (M := (M_law nm)) hx dL_law_603 rfl rfl hi_2 a_1_e.symm ?_
  refine z_aload_n (M := (M_law nm)) dL_law_604 rfl ?_
  obtain ⟨⟨x_5, σ_4⟩, hc_3, H⟩ := bd_e H
  refine z_callSW (M := (M_law nm)) (M' := M_L_judge) (as := [vr 32, vi a_1, vr 359]) (rest := []) rfl rfl dL_law_605 m_L_judge t_1173 t_1174 (c_L_judge hl hc_3) rfl rfl (Nat.le_of_ble_eq_true rfl) (Nat.le_of_ble_eq_true rfl) (by omega) (by omega) ?_
  refine z_st (st' := [vi x_5]) rfl ?_
  refine z_istore (M := (M_law nm)) (lv' := [some (vr 0), some (vr 32), some (vr 277), some (vr 359), some (vi i_0), some (vi x_5), none, none]) dL_law_608 (Nat.le_of_ble_eq_true rfl) rfl rfl ?_
  refine z_aload_n (M := (M_law nm)) dL_law_610 rfl ?_
  refine z_aload_n (M := (M_law nm)) dL_law_611 rfl ?_
  refine z_iload (M := (M_law nm)) dL_law_612 rfl ?_
  refine z_iconst (M := (M_law nm)) dL_law_614 ?_
  refine z_iadd (M := (M_law nm)) dL_law_615 ?_
  obtain ⟨hi_7, H⟩ := ck_e H
  obtain ⟨a_6, a_6_e, H⟩ := lt_e H
  refine z_sald (M := (M_law nm)) hx dL_law_616 rfl rfl hi_7 a_6_e.symm ?_
  obtain ⟨⟨x_10, σ_9⟩, hc_8, H⟩ := bd_e H
  refine z_callV (M := (M_law nm)) (M' := M_X12_judge) (as := [vi a_6]) (rest := []) rfl rfl dL_law_617 m_X12_judge t_3214 t_3215 t_3216 (c_X12_judge hl  hc_8) rfl rfl ly_277 rfl (Nat.le_of_ble_eq_true rfl) (Nat.le_of_ble_eq_true rfl) (by omega) (by omega) ?_
  refine z_st (st' := [vi x_10]) rfl ?_
  refine z_istore (M := (M_law nm)) (lv' := [some (vr 0), some (vr 32), some (vr 277), some (vr 359), some (vi i_0), some (vi x_5), some (vi x_10), none]) dL_law_620 (Nat.le_of_ble_eq_true rfl) rfl rfl ?_
  refine z_goto (M := (M_law nm)) (tgt := 1606) dL_law_622 (by decide) ?_
  refine z_le (lv' := [some (vr 0), some (vr 32), some (vr 277), some (vr 359), some (vi i_0), none, none, none]) ⟨Or.inr rfl, Or.inr rfl, Or.inr rfl, Or.inr rfl, Or.inr rfl, Or.inl rfl, Or.inl rfl, Or.inl rfl, trivial⟩ ?_
  cases H
  exact z_wide (by omega) (by omega) J
theorem s_case13 (hl : l.stackTraces = false) {nm : String} {post : Outc → SG → Prop} {σ σ' : SG} {xs : Nat → Int32} {L : Nat} (hx : E.2.2.2.2 0 = some (L, xs)) {i_0 : Int} {cu su : Nat} (hcu : cu + 16 ≤ 601024) (hsu : su + 96 ≤ 7293000) (H : fS_13 σ xs L i_0 = some (true, σ')) (J : YY l E (M_law nm) 1312 601024 7293000 post 1606 [some (vr 0), some (vr 32), some (vr 277), some (vr 359), some (vi i_0), none, none, none] [] σ' (cu + 16) (su + 96)) : YY l E (M_law nm) 1312 601024 7293000 post 625 [some (vr 0), some (vr 32), some (vr 277), some (vr 359), some (vi i_0), none, none, none] [] σ cu su := by
  unfold fS_13 at H
  refine z_aload_n (M := (M_law nm)) dL_law_625 rfl ?_
  refine z_aload_n (M := (M_law nm)) dL_law_626 rfl ?_
  refine z_iload (M := (M_law nm)) dL_law_627 rfl ?_
  refine z_iconst (M := (M_law nm)) dL_law_629 ?_
  refine z_iadd (M := (M_law nm)) dL_law_630 ?_
  obtain ⟨hi_2, H⟩ := ck_e H
  obtain ⟨a_1, a_1_e, H⟩ := lt_e H
  refine z_sald (M := (M_law nm)) hx dL_law_631 rfl rfl hi_2 a_1_e.symm ?_
  refine z_aload_n (M := (M_law nm)) dL_law_632 rfl ?_
  obtain ⟨⟨x_5, σ_4⟩, hc_3, H⟩ := bd_e H
  refine z_callSW (M := (M_law nm)) (M' := M_L_place) (as := [vr 32, vi a_1, vr 359]) (rest := []) rfl rfl dL_law_633 m_L_place t_1362 t_1363 (c_L_place hl hc_3) rfl rfl (Nat.le_of_ble_eq_true rfl) (Nat.le_of_ble_eq_true rfl) (by omega) (by omega) ?_
  refine z_st (st' := [vi x_5]) rfl ?_
  refine z_istore (M := (M_law nm)) (lv' := [some (vr 0), some (vr 32), some (vr 277), some (vr 359), some (vi i_0), some (vi x_5), none, none]) dL_law_636 (Nat.le_of_ble_eq_true rfl) rfl rfl ?_
  refine z_aload_n (M := (M_law nm)) dL_law_638 rfl ?_
  refine z_aload_n (M := (M_law nm)) dL_law_639 rfl ?_
  refine z_iload (M := (M_law nm)) dL_law_640 rfl ?_
  refine z_iconst (M := (M_law nm)) dL_law_642 ?_
  refine z_iadd (M := (M_law nm)) dL_law_643 ?_
  obtain ⟨hi_7, H⟩ := ck_e H
  obtain ⟨a_6, a_6_e, H⟩ := lt_e H
  refine z_sald (M := (M_law nm)) hx dL_law_644 rfl rfl hi_7 a_6_e.symm ?_
  obtain ⟨⟨x_10, σ_9⟩, hc_8, H⟩ := bd_e H
  refine z_callV (M := (M_law nm)) (M' := M_X12_place) (as := [vi a_6]) (rest := []) rfl rfl dL_law_645 m_X12_place t_3337 t_3338 t_3339 (c_X12_place hl  hc_8) rfl rfl ly_277 rfl (Nat.le_of_ble_eq_true rfl) (Nat.le_of_ble_eq_true rfl) (by omega) (by omega) ?_
  refine z_st (st' := [vi x_10]) rfl ?_
  refine z_istore (M := (M_law nm)) (lv' := [some (vr 0), some (vr 32), some (vr 277), some (vr 359), some (vi i_0), some (vi x_5), some (vi x_10), none]) dL_law_648 (Nat.le_of_ble_eq_true rfl) rfl rfl ?_
  refine z_goto (M := (M_law nm)) (tgt := 1606) dL_law_650 (by decide) ?_
  refine z_le (lv' := [some (vr 0), some (vr 32), some (vr 277), some (vr 359), some (vi i_0), none, none, none]) ⟨Or.inr rfl, Or.inr rfl, Or.inr rfl, Or.inr rfl, Or.inr rfl, Or.inl rfl, Or.inl rfl, Or.inl rfl, trivial⟩ ?_
  cases H
  exact z_wide (by omega) (by omega) J
theorem s_case14 (hl : l.stackTraces = false) {nm : String} {post : Outc → SG → Prop} {σ σ' : SG} {xs : Nat → Int32} {L : Nat} (hx : E.2.2.2.2 0 = some (L, xs)) {i_0 : Int} {cu su : Nat} (hcu : cu + 16 ≤ 601024) (hsu : su + 96 ≤ 7293000) (H : fS_14 σ xs L i_0 = some (true, σ')) (J : YY l E (M_law nm) 1312 601024 7293000 post 1606 [some (vr 0), some (vr 32), some (vr 277), some (vr 359), some (vi i_0), none, none, none] [] σ' (cu + 16) (su + 96)) : YY l E (M_law nm) 1312 601024 7293000 post 653 [some (vr 0), some (vr 32), some (vr 277), some (vr 359), some (vi i_0), none, none, none] [] σ cu su := by
  unfold fS_14 at H
  refine z_aload_n (M := (M_law nm)) dL_law_653 rfl ?_
  refine z_aload_n (M := (M_law nm)) dL_law_654 rfl ?_
  refine z_iload (M := (M_law nm)) dL_law_655 rfl ?_
  refine z_iconst (M := (M_law nm)) dL_law_657 ?_
  refine z_iadd (M := (M_law nm)) dL_law_658 ?_
  obtain ⟨hi_2, H⟩ := ck_e H
  obtain ⟨a_1, a_1_e, H⟩ := lt_e H
  refine z_sald (M := (M_law nm)) hx dL_law_659 rfl rfl hi_2 a_1_e.symm ?_
  refine z_aload_n (M := (M_law nm)) dL_law_660 rfl ?_
  refine z_iload (M := (M_law nm)) dL_law_661 rfl ?_
  refine z_iconst (M := (M_law nm)) dL_law_663 ?_
  refine z_iadd (M := (M_law nm)) dL_law_664 ?_
  obtain ⟨hi_4, H⟩ := ck_e H
  obtain ⟨a_3, a_3_e, H⟩ := lt_e H
  refine z_sald (M := (M_law nm)) hx dL_law_665 rfl rfl hi_4 a_3_e.symm ?_
  refine z_aload_n (M := (M_law nm)) dL_law_666 rfl ?_
  refine z_iload (M := (M_law nm)) dL_law_667 rfl ?_
  refine z_iconst (M := (M_law nm)) dL_law_669 ?_
  refine z_iadd (M := (M_law nm)) dL_law_670 ?_
  obtain ⟨hi_6, H⟩ := ck_e H
  obtain ⟨a_5, a_5_e, H⟩ := lt_e H
  refine z_sald (M := (M_law nm)) hx dL_law_671 rfl rfl hi_6 a_5_e.symm ?_
  refine z_aload_n (M := (M_law nm)) dL_law_672 rfl ?_
  refine z_iload (M := (M_law nm)) dL_law_673 rfl ?_
  refine z_iconst (M := (M_law nm)) dL_law_675 ?_
  refine z_iadd (M := (M_law nm)) dL_law_676 ?_
  obtain ⟨hi_8, H⟩ := ck_e H
  obtain ⟨a_7, a_7_e, H⟩ := lt_e H
  refine z_sald (M := (M_law nm)) hx dL_law_677 rfl rfl hi_8 a_7_e.symm ?_
  refine z_aload_n (M := (M_law nm)) dL_law_678 rfl ?_
  obtain ⟨⟨x_11, σ_10⟩, hc_9, H⟩ := bd_e H
  refine z_callSW (M := (M_law nm)) (M' := M_L_overlay) (as := [vr 32, vi a_1, vi a_3, vi a_5, vi a_7, vr 359]) (rest := []) rfl rfl dL_law_679 m_L_overlay t_1369 t_1370 (c_L_overlay hl hc_9) rfl rfl (Nat.le_of_ble_eq_true rfl) (Nat.le_of_ble_eq_true rfl) (by omega) (by omega) ?_
  refine z_st (st' := [vi x_11]) rfl ?_
  refine z_istore (M := (M_law nm)) (lv' := [some (vr 0), some (vr 32), some (vr 277), some (vr 359), some (vi i_0), some (vi x_11), none, none]) dL_law_682 (Nat.le_of_ble_eq_true rfl) rfl rfl ?_
  refine z_aload_n (M := (M_law nm)) dL_law_684 rfl ?_
  refine z_aload_n (M := (M_law nm)) dL_law_685 rfl ?_
  refine z_iload (M := (M_law nm)) dL_law_686 rfl ?_
  refine z_iconst (M := (M_law nm)) dL_law_688 ?_
  refine z_iadd (M := (M_law nm)) dL_law_689 ?_
  obtain ⟨hi_13, H⟩ := ck_e H
  obtain ⟨a_12, a_12_e, H⟩ := lt_e H
  refine z_sald (M := (M_law nm)) hx dL_law_690 rfl rfl hi_13 a_12_e.symm ?_
  refine z_aload_n (M := (M_law nm)) dL_law_691 rfl ?_
  refine z_iload (M := (M_law nm)) dL_law_692 rfl ?_
  refine z_iconst (M := (M_law nm)) dL_law_694 ?_
  refine z_iadd (M := (M_law nm)) dL_law_695 ?_
  obtain ⟨hi_15, H⟩ := ck_e H
  obtain ⟨a_14, a_14_e, H⟩ := lt_e H
  refine z_sald (M := (M_law nm)) hx dL_law_696 rfl rfl hi_15 a_14_e.symm ?_
  refine z_aload_n (M := (M_law nm)) dL_law_697 rfl ?_
  refine z_iload (M := (M_law nm)) dL_law_698 rfl ?_
  refine z_iconst (M := (M_law nm)) dL_law_700 ?_
  refine z_iadd (M := (M_law nm)) dL_law_701 ?_
  obtain ⟨hi_17, H⟩ := ck_e H
  obtain ⟨a_16, a_16_e, H⟩ := lt_e H
  refine z_sald (M := (M_law nm)) hx dL_law_702 rfl rfl hi_17 a_16_e.symm ?_
  refine z_aload_n (M := (M_law nm)) dL_law_703 rfl ?_
  refine z_iload (M := (M_law nm)) dL_law_704 rfl ?_
  refine z_iconst (M := (M_law nm)) dL_law_706 ?_
  refine z_iadd (M := (M_law nm)) dL_law_707 ?_
  obtain ⟨hi_19, H⟩ := ck_e H
  obtain ⟨a_18, a_18_e, H⟩ := lt_e H
  refine z_sald (M := (M_law nm)) hx dL_law_708 rfl rfl hi_19 a_18_e.symm ?_
  obtain ⟨⟨x_22, σ_21⟩, hc_20, H⟩ := bd_e H
  refine z_callV (M := (M_law nm)) (M' := M_X12_overlay) (as := [vi a_12, vi a_14, vi a_16, vi a_18]) (rest := []) rfl rfl dL_law_709 m_X12_overlay t_3350 t_3351 t_3352 (c_X12_overlay hl  hc_20) rfl rfl ly_277 rfl (Nat.le_of_ble_eq_true rfl) (Nat.le_of_ble_eq_true rfl) (by omega) (by omega) ?_
  refine z_st (st' := [vi x_22]) rfl ?_
  refine z_istore (M := (M_law nm)) (lv' := [some (vr 0), some (vr 32), some (vr 277), some (vr 359), some (vi i_0), some (vi x_11), some (vi x_22), none]) dL_law_712 (Nat.le_of_ble_eq_true rfl) rfl rfl ?_
  refine z_goto (M := (M_law nm)) (tgt := 1606) dL_law_714 (by decide) ?_
  refine z_le (lv' := [some (vr 0), some (vr 32), some (vr 277), some (vr 359), some (vi i_0), none, none, none]) ⟨Or.inr rfl, Or.inr rfl, Or.inr rfl, Or.inr rfl, Or.inr rfl, Or.inl rfl, Or.inl rfl, Or.inl rfl, trivial⟩ ?_
  cases H
  exact z_wide (by omega) (by omega) J
theorem s_case15 (hl : l.stackTraces = false) {nm : String} {post : Outc → SG → Prop} {σ σ' : SG} {xs : Nat → Int32} {L : Nat} (hx : E.2.2.2.2 0 = some (L, xs)) {i_0 : Int} {cu su : Nat} (hcu : cu + 16 ≤ 601024) (hsu : su + 96 ≤ 7293000) (H : fS_15 σ xs L i_0 = some (true, σ')) (J : YY l E (M_law nm) 1312 601024 7293000 post 1606 [some (vr 0), some (vr 32), some (vr 277), some (vr 359), some (vi i_0), none, none, none] [] σ' (cu + 16) (su + 96)) : YY l E (M_law nm) 1312 601024 7293000 post 717 [some (vr 0), some (vr 32), some (vr 277), some (vr 359), some (vi i_0), none, none, none] [] σ cu su := by
  unfold fS_15 at H
  refine z_aload_n (M := (M_law nm)) dL_law_717 rfl ?_
  refine z_aload_n (M := (M_law nm)) dL_law_718 rfl ?_
  refine z_iload (M := (M_law nm)) dL_law_719 rfl ?_
  refine z_iconst (M := (M_law nm)) dL_law_721 ?_
  refine z_iadd (M := (M_law nm)) dL_law_722 ?_
  obtain ⟨hi_2, H⟩ := ck_e H
  obtain ⟨a_1, a_1_e, H⟩ := lt_e H
  refine z_sald (M := (M_law nm)) hx dL_law_723 rfl rfl hi_2 a_1_e.symm ?_
  refine z_aload_n (M := (M_law nm)) dL_law_724 rfl ?_
  refine z_iload (M := (M_law nm)) dL_law_725 rfl ?_
  refine z_iconst (M := (M_law nm)) dL_law_727 ?_
  refine z_iadd (M := (M_law nm)) dL_law_728 ?_
  obtain ⟨hi_4, H⟩ := ck_e H
  obtain ⟨a_3, a_3_e, H⟩ := lt_e H
  refine z_sald (M := (M_law nm)) hx dL_law_729 rfl rfl hi_4 a_3_e.symm ?_
  refine z_aload_n (M := (M_law nm)) dL_law_730 rfl ?_
  obtain ⟨⟨x_7, σ_6⟩, hc_5, H⟩ := bd_e H
  refine z_callSW (M := (M_law nm)) (M' := M_L_relate) (as := [vr 32, vi a_1, vi a_3, vr 359]) (rest := []) rfl rfl dL_law_731 m_L_relate t_1872 t_1873 (c_L_relate hl hc_5) rfl rfl (Nat.le_of_ble_eq_true rfl) (Nat.le_of_ble_eq_true rfl) (by omega) (by omega) ?_
  refine z_st (st' := [vi x_7]) rfl ?_
  refine z_istore (M := (M_law nm)) (lv' := [some (vr 0), some (vr 32), some (vr 277), some (vr 359), some (vi i_0), some (vi x_7), none, none]) dL_law_734 (Nat.le_of_ble_eq_true rfl) rfl rfl ?_
  refine z_aload_n (M := (M_law nm)) dL_law_736 rfl ?_
  refine z_aload_n (M := (M_law nm)) dL_law_737 rfl ?_
  refine z_iload (M := (M_law nm)) dL_law_738 rfl ?_
  refine z_iconst (M := (M_law nm)) dL_law_740 ?_
  refine z_iadd (M := (M_law nm)) dL_law_741 ?_
  obtain ⟨hi_9, H⟩ := ck_e H
  obtain ⟨a_8, a_8_e, H⟩ := lt_e H
  refine z_sald (M := (M_law nm)) hx dL_law_742 rfl rfl hi_9 a_8_e.symm ?_
  refine z_aload_n (M := (M_law nm)) dL_law_743 rfl ?_
  refine z_iload (M := (M_law nm)) dL_law_744 rfl ?_
  refine z_iconst (M := (M_law nm)) dL_law_746 ?_
  refine z_iadd (M := (M_law nm)) dL_law_747 ?_
  obtain ⟨hi_11, H⟩ := ck_e H
  obtain ⟨a_10, a_10_e, H⟩ := lt_e H
  refine z_sald (M := (M_law nm)) hx dL_law_748 rfl rfl hi_11 a_10_e.symm ?_
  obtain ⟨⟨x_14, σ_13⟩, hc_12, H⟩ := bd_e H
  refine z_callV (M := (M_law nm)) (M' := M_X12_relate) (as := [vi a_8, vi a_10]) (rest := []) rfl rfl dL_law_749 m_X12_relate t_3486 t_3487 t_3488 (c_X12_relate hl  hc_12) rfl rfl ly_277 rfl (Nat.le_of_ble_eq_true rfl) (Nat.le_of_ble_eq_true rfl) (by omega) (by omega) ?_
  refine z_st (st' := [vi x_14]) rfl ?_
  refine z_istore (M := (M_law nm)) (lv' := [some (vr 0), some (vr 32), some (vr 277), some (vr 359), some (vi i_0), some (vi x_7), some (vi x_14), none]) dL_law_752 (Nat.le_of_ble_eq_true rfl) rfl rfl ?_
  refine z_goto (M := (M_law nm)) (tgt := 1606) dL_law_754 (by decide) ?_
  refine z_le (lv' := [some (vr 0), some (vr 32), some (vr 277), some (vr 359), some (vi i_0), none, none, none]) ⟨Or.inr rfl, Or.inr rfl, Or.inr rfl, Or.inr rfl, Or.inr rfl, Or.inl rfl, Or.inl rfl, Or.inl rfl, trivial⟩ ?_
  cases H
  exact z_wide (by omega) (by omega) J
theorem s_case16 (hl : l.stackTraces = false) {nm : String} {post : Outc → SG → Prop} {σ σ' : SG} {xs : Nat → Int32} {L : Nat} (hx : E.2.2.2.2 0 = some (L, xs)) {i_0 : Int} {cu su : Nat} (hcu : cu + 16 ≤ 601024) (hsu : su + 96 ≤ 7293000) (H : fS_16 σ xs L i_0 = some (true, σ')) (J : YY l E (M_law nm) 1312 601024 7293000 post 1606 [some (vr 0), some (vr 32), some (vr 277), some (vr 359), some (vi i_0), none, none, none] [] σ' (cu + 16) (su + 96)) : YY l E (M_law nm) 1312 601024 7293000 post 757 [some (vr 0), some (vr 32), some (vr 277), some (vr 359), some (vi i_0), none, none, none] [] σ cu su := by
  unfold fS_16 at H
  refine z_aload_n (M := (M_law nm)) dL_law_757 rfl ?_
  refine z_aload_n (M := (M_law nm)) dL_law_758 rfl ?_
  refine z_iload (M := (M_law nm)) dL_law_759 rfl ?_
  refine z_iconst (M := (M_law nm)) dL_law_761 ?_
  refine z_iadd (M := (M_law nm)) dL_law_762 ?_
  obtain ⟨hi_2, H⟩ := ck_e H
  obtain ⟨a_1, a_1_e, H⟩ := lt_e H
  refine z_sald (M := (M_law nm)) hx dL_law_763 rfl rfl hi_2 a_1_e.symm ?_
  refine z_aload_n (M := (M_law nm)) dL_law_764 rfl ?_
  refine z_iload (M := (M_law nm)) dL_law_765 rfl ?_
  refine z_iconst (M := (M_law nm)) dL_law_767 ?_
  refine z_iadd (M := (M_law nm)) dL_law_768 ?_
  obtain ⟨hi_4, H⟩ := ck_e H
  obtain ⟨a_3, a_3_e, H⟩ := lt_e H
  refine z_sald (M := (M_law nm)) hx dL_law_769 rfl rfl hi_4 a_3_e.symm ?_
  refine z_aload_n (M := (M_law nm)) dL_law_770 rfl ?_
  refine z_iload (M := (M_law nm)) dL_law_771 rfl ?_
  refine z_iconst (M := (M_law nm)) dL_law_773 ?_
  refine z_iadd (M := (M_law nm)) dL_law_774 ?_
  obtain ⟨hi_6, H⟩ := ck_e H
  obtain ⟨a_5, a_5_e, H⟩ := lt_e H
  refine z_sald (M := (M_law nm)) hx dL_law_775 rfl rfl hi_6 a_5_e.symm ?_
  refine z_aload_n (M := (M_law nm)) dL_law_776 rfl ?_
  obtain ⟨⟨x_9, σ_8⟩, hc_7, H⟩ := bd_e H
  refine z_callSW (M := (M_law nm)) (M' := M_L_is) (as := [vr 32, vi a_1, vi a_3, vi a_5, vr 359]) (rest := []) rfl rfl dL_law_777 m_L_is t_2035 t_2036 (c_L_is hl hc_7) rfl rfl (Nat.le_of_ble_eq_true rfl) (Nat.le_of_ble_eq_true rfl) (by omega) (by omega) ?_
  refine z_st (st' := [vi x_9]) rfl ?_
  refine z_istore (M := (M_law nm)) (lv' := [some (vr 0), some (vr 32), some (vr 277), some (vr 359), some (vi i_0), some (vi x_9), none, none]) dL_law_780 (Nat.le_of_ble_eq_true rfl) rfl rfl ?_
  refine z_aload_n (M := (M_law nm)) dL_law_782 rfl ?_
  refine z_aload_n (M := (M_law nm)) dL_law_783 rfl ?_
  refine z_iload (M := (M_law nm)) dL_law_784 rfl ?_
  refine z_iconst (M := (M_law nm)) dL_law_786 ?_
  refine z_iadd (M := (M_law nm)) dL_law_787 ?_
  obtain ⟨hi_11, H⟩ := ck_e H
  obtain ⟨a_10, a_10_e, H⟩ := lt_e H
  refine z_sald (M := (M_law nm)) hx dL_law_788 rfl rfl hi_11 a_10_e.symm ?_
  refine z_aload_n (M := (M_law nm)) dL_law_789 rfl ?_
  refine z_iload (M := (M_law nm)) dL_law_790 rfl ?_
  refine z_iconst (M := (M_law nm)) dL_law_792 ?_
  refine z_iadd (M := (M_law nm)) dL_law_793 ?_
  obtain ⟨hi_13, H⟩ := ck_e H
  obtain ⟨a_12, a_12_e, H⟩ := lt_e H
  refine z_sald (M := (M_law nm)) hx dL_law_794 rfl rfl hi_13 a_12_e.symm ?_
  refine z_aload_n (M := (M_law nm)) dL_law_795 rfl ?_
  refine z_iload (M := (M_law nm)) dL_law_796 rfl ?_
  refine z_iconst (M := (M_law nm)) dL_law_798 ?_
  refine z_iadd (M := (M_law nm)) dL_law_799 ?_
  obtain ⟨hi_15, H⟩ := ck_e H
  obtain ⟨a_14, a_14_e, H⟩ := lt_e H
  refine z_sald (M := (M_law nm)) hx dL_law_800 rfl rfl hi_15 a_14_e.symm ?_
  obtain ⟨⟨x_18, σ_17⟩, hc_16, H⟩ := bd_e H
  refine z_callV (M := (M_law nm)) (M' := M_X12_is) (as := [vi a_10, vi a_12, vi a_14]) (rest := []) rfl rfl dL_law_801 m_X12_is t_3596 t_3597 t_3598 (c_X12_is hl  hc_16) rfl rfl ly_277 rfl (Nat.le_of_ble_eq_true rfl) (Nat.le_of_ble_eq_true rfl) (by omega) (by omega) ?_
  refine z_st (st' := [zv x_18]) rfl ?_
  refine z_zstore (M := (M_law nm)) (lv' := [some (vr 0), some (vr 32), some (vr 277), some (vr 359), some (vi i_0), some (vi x_9), some (zv x_18), none]) dL_law_804 (Nat.le_of_ble_eq_true rfl) rfl rfl ?_
  refine z_goto (M := (M_law nm)) (tgt := 1606) dL_law_806 (by decide) ?_
  refine z_le (lv' := [some (vr 0), some (vr 32), some (vr 277), some (vr 359), some (vi i_0), none, none, none]) ⟨Or.inr rfl, Or.inr rfl, Or.inr rfl, Or.inr rfl, Or.inr rfl, Or.inl rfl, Or.inl rfl, Or.inl rfl, trivial⟩ ?_
  cases H
  exact z_wide (by omega) (by omega) J
theorem s_case17 (hl : l.stackTraces = false) {nm : String} {post : Outc → SG → Prop} {σ σ' : SG} {xs : Nat → Int32} {L : Nat} (hx : E.2.2.2.2 0 = some (L, xs)) {i_0 : Int} {cu su : Nat} (hcu : cu + 16 ≤ 601024) (hsu : su + 96 ≤ 7293000) (H : fS_17 σ xs L i_0 = some (true, σ')) (J : YY l E (M_law nm) 1312 601024 7293000 post 1606 [some (vr 0), some (vr 32), some (vr 277), some (vr 359), some (vi i_0), none, none, none] [] σ' (cu + 16) (su + 96)) : YY l E (M_law nm) 1312 601024 7293000 post 809 [some (vr 0), some (vr 32), some (vr 277), some (vr 359), some (vi i_0), none, none, none] [] σ cu su := by
  unfold fS_17 at H
  refine z_aload_n (M := (M_law nm)) dL_law_809 rfl ?_
  refine z_aload_n (M := (M_law nm)) dL_law_810 rfl ?_
  refine z_iload (M := (M_law nm)) dL_law_811 rfl ?_
  refine z_iconst (M := (M_law nm)) dL_law_813 ?_
  refine z_iadd (M := (M_law nm)) dL_law_814 ?_
  obtain ⟨hi_2, H⟩ := ck_e H
  obtain ⟨a_1, a_1_e, H⟩ := lt_e H
  refine z_sald (M := (M_law nm)) hx dL_law_815 rfl rfl hi_2 a_1_e.symm ?_
  refine z_aload_n (M := (M_law nm)) dL_law_816 rfl ?_
  refine z_iload (M := (M_law nm)) dL_law_817 rfl ?_
  refine z_iconst (M := (M_law nm)) dL_law_819 ?_
  refine z_iadd (M := (M_law nm)) dL_law_820 ?_
  obtain ⟨hi_4, H⟩ := ck_e H
  obtain ⟨a_3, a_3_e, H⟩ := lt_e H
  refine z_sald (M := (M_law nm)) hx dL_law_821 rfl rfl hi_4 a_3_e.symm ?_
  refine z_aload_n (M := (M_law nm)) dL_law_822 rfl ?_
  refine z_iload (M := (M_law nm)) dL_law_823 rfl ?_
  refine z_iconst (M := (M_law nm)) dL_law_825 ?_
  refine z_iadd (M := (M_law nm)) dL_law_826 ?_
  obtain ⟨hi_6, H⟩ := ck_e H
  obtain ⟨a_5, a_5_e, H⟩ := lt_e H
  refine z_sald (M := (M_law nm)) hx dL_law_827 rfl rfl hi_6 a_5_e.symm ?_
  refine z_aload_n (M := (M_law nm)) dL_law_828 rfl ?_
  obtain ⟨⟨x_9, σ_8⟩, hc_7, H⟩ := bd_e H
  refine z_callSW (M := (M_law nm)) (M' := M_L_locate) (as := [vr 32, vi a_1, vi a_3, vi a_5, vr 359]) (rest := []) rfl rfl dL_law_829 m_L_locate t_2066 t_2067 (c_L_locate hl hc_7) rfl rfl (Nat.le_of_ble_eq_true rfl) (Nat.le_of_ble_eq_true rfl) (by omega) (by omega) ?_
  refine z_st (st' := [vi x_9]) rfl ?_
  refine z_istore (M := (M_law nm)) (lv' := [some (vr 0), some (vr 32), some (vr 277), some (vr 359), some (vi i_0), some (vi x_9), none, none]) dL_law_832 (Nat.le_of_ble_eq_true rfl) rfl rfl ?_
  refine z_aload_n (M := (M_law nm)) dL_law_834 rfl ?_
  refine z_aload_n (M := (M_law nm)) dL_law_835 rfl ?_
  refine z_iload (M := (M_law nm)) dL_law_836 rfl ?_
  refine z_iconst (M := (M_law nm)) dL_law_838 ?_
  refine z_iadd (M := (M_law nm)) dL_law_839 ?_
  obtain ⟨hi_11, H⟩ := ck_e H
  obtain ⟨a_10, a_10_e, H⟩ := lt_e H
  refine z_sald (M := (M_law nm)) hx dL_law_840 rfl rfl hi_11 a_10_e.symm ?_
  refine z_aload_n (M := (M_law nm)) dL_law_841 rfl ?_
  refine z_iload (M := (M_law nm)) dL_law_842 rfl ?_
  refine z_iconst (M := (M_law nm)) dL_law_844 ?_
  refine z_iadd (M := (M_law nm)) dL_law_845 ?_
  obtain ⟨hi_13, H⟩ := ck_e H
  obtain ⟨a_12, a_12_e, H⟩ := lt_e H
  refine z_sald (M := (M_law nm)) hx dL_law_846 rfl rfl hi_13 a_12_e.symm ?_
  refine z_aload_n (M := (M_law nm)) dL_law_847 rfl ?_
  refine z_iload (M := (M_law nm)) dL_law_848 rfl ?_
  refine z_iconst (M := (M_law nm)) dL_law_850 ?_
  refine z_iadd (M := (M_law nm)) dL_law_851 ?_
  obtain ⟨hi_15, H⟩ := ck_e H
  obtain ⟨a_14, a_14_e, H⟩ := lt_e H
  refine z_sald (M := (M_law nm)) hx dL_law_852 rfl rfl hi_15 a_14_e.symm ?_
  obtain ⟨⟨x_18, σ_17⟩, hc_16, H⟩ := bd_e H
  refine z_callV (M := (M_law nm)) (M' := M_X12_locate) (as := [vi a_10, vi a_12, vi a_14]) (rest := []) rfl rfl dL_law_853 m_X12_locate t_3613 t_3614 t_3615 (c_X12_locate hl  hc_16) rfl rfl ly_277 rfl (Nat.le_of_ble_eq_true rfl) (Nat.le_of_ble_eq_true rfl) (by omega) (by omega) ?_
  refine z_st (st' := [vi x_18]) rfl ?_
  refine z_istore (M := (M_law nm)) (lv' := [some (vr 0), some (vr 32), some (vr 277), some (vr 359), some (vi i_0), some (vi x_9), some (vi x_18), none]) dL_law_856 (Nat.le_of_ble_eq_true rfl) rfl rfl ?_
  refine z_goto (M := (M_law nm)) (tgt := 1606) dL_law_858 (by decide) ?_
  refine z_le (lv' := [some (vr 0), some (vr 32), some (vr 277), some (vr 359), some (vi i_0), none, none, none]) ⟨Or.inr rfl, Or.inr rfl, Or.inr rfl, Or.inr rfl, Or.inr rfl, Or.inl rfl, Or.inl rfl, Or.inl rfl, trivial⟩ ?_
  cases H
  exact z_wide (by omega) (by omega) J
theorem s_case18 (hl : l.stackTraces = false) {nm : String} {post : Outc → SG → Prop} {σ σ' : SG} {xs : Nat → Int32} {L : Nat} (hx : E.2.2.2.2 0 = some (L, xs)) {i_0 : Int} {cu su : Nat} (hcu : cu + 16 ≤ 601024) (hsu : su + 96 ≤ 7293000) (H : fS_18 σ xs L i_0 = some (true, σ')) (J : YY l E (M_law nm) 1312 601024 7293000 post 1606 [some (vr 0), some (vr 32), some (vr 277), some (vr 359), some (vi i_0), none, none, none] [] σ' (cu + 16) (su + 96)) : YY l E (M_law nm) 1312 601024 7293000 post 861 [some (vr 0), some (vr 32), some (vr 277), some (vr 359), some (vi i_0), none, none, none] [] σ cu su := by
  unfold fS_18 at H
  refine z_aload_n (M := (M_law nm)) dL_law_861 rfl ?_
  refine z_aload_n (M := (M_law nm)) dL_law_862 rfl ?_
  refine z_iload (M := (M_law nm)) dL_law_863 rfl ?_
  refine z_iconst (M := (M_law nm)) dL_law_865 ?_
  refine z_iadd (M := (M_law nm)) dL_law_866 ?_
  obtain ⟨hi_2, H⟩ := ck_e H
  obtain ⟨a_1, a_1_e, H⟩ := lt_e H
  refine z_sald (M := (M_law nm)) hx dL_law_867 rfl rfl hi_2 a_1_e.symm ?_
  refine z_aload_n (M := (M_law nm)) dL_law_868 rfl ?_
  refine z_iload (M := (M_law nm)) dL_law_869 rfl ?_
  refine z_iconst (M := (M_law nm)) dL_law_871 ?_
  refine z_iadd (M := (M_law nm)) dL_law_872 ?_
  obtain ⟨hi_4, H⟩ := ck_e H
  obtain ⟨a_3, a_3_e, H⟩ := lt_e H
  refine z_sald (M := (M_law nm)) hx dL_law_873 rfl rfl hi_4 a_3_e.symm ?_
  refine z_aload_n (M := (M_law nm)) dL_law_874 rfl ?_
  obtain ⟨⟨x_7, σ_6⟩, hc_5, H⟩ := bd_e H
  refine z_callSW (M := (M_law nm)) (M' := M_L_hull) (as := [vr 32, vi a_1, vi a_3, vr 359]) (rest := []) rfl rfl dL_law_875 m_L_hull t_2076 t_2077 (c_L_hull hl hc_5) rfl rfl (Nat.le_of_ble_eq_true rfl) (Nat.le_of_ble_eq_true rfl) (by omega) (by omega) ?_
  refine z_st (st' := [vi x_7]) rfl ?_
  refine z_istore (M := (M_law nm)) (lv' := [some (vr 0), some (vr 32), some (vr 277), some (vr 359), some (vi i_0), some (vi x_7), none, none]) dL_law_878 (Nat.le_of_ble_eq_true rfl) rfl rfl ?_
  refine z_aload_n (M := (M_law nm)) dL_law_880 rfl ?_
  refine z_aload_n (M := (M_law nm)) dL_law_881 rfl ?_
  refine z_iload (M := (M_law nm)) dL_law_882 rfl ?_
  refine z_iconst (M := (M_law nm)) dL_law_884 ?_
  refine z_iadd (M := (M_law nm)) dL_law_885 ?_
  obtain ⟨hi_9, H⟩ := ck_e H
  obtain ⟨a_8, a_8_e, H⟩ := lt_e H
  refine z_sald (M := (M_law nm)) hx dL_law_886 rfl rfl hi_9 a_8_e.symm ?_
  refine z_aload_n (M := (M_law nm)) dL_law_887 rfl ?_
  refine z_iload (M := (M_law nm)) dL_law_888 rfl ?_
  refine z_iconst (M := (M_law nm)) dL_law_890 ?_
  refine z_iadd (M := (M_law nm)) dL_law_891 ?_
  obtain ⟨hi_11, H⟩ := ck_e H
  obtain ⟨a_10, a_10_e, H⟩ := lt_e H
  refine z_sald (M := (M_law nm)) hx dL_law_892 rfl rfl hi_11 a_10_e.symm ?_
  obtain ⟨⟨x_14, σ_13⟩, hc_12, H⟩ := bd_e H
  refine z_callV (M := (M_law nm)) (M' := M_X12_hull) (as := [vi a_8, vi a_10]) (rest := []) rfl rfl dL_law_893 m_X12_hull t_3617 t_3618 t_3619 (c_X12_hull hl  hc_12) rfl rfl ly_277 rfl (Nat.le_of_ble_eq_true rfl) (Nat.le_of_ble_eq_true rfl) (by omega) (by omega) ?_
  refine z_st (st' := [vi x_14]) rfl ?_
  refine z_istore (M := (M_law nm)) (lv' := [some (vr 0), some (vr 32), some (vr 277), some (vr 359), some (vi i_0), some (vi x_7), some (vi x_14), none]) dL_law_896 (Nat.le_of_ble_eq_true rfl) rfl rfl ?_
  refine z_goto (M := (M_law nm)) (tgt := 1606) dL_law_898 (by decide) ?_
  refine z_le (lv' := [some (vr 0), some (vr 32), some (vr 277), some (vr 359), some (vi i_0), none, none, none]) ⟨Or.inr rfl, Or.inr rfl, Or.inr rfl, Or.inr rfl, Or.inr rfl, Or.inl rfl, Or.inl rfl, Or.inl rfl, trivial⟩ ?_
  cases H
  exact z_wide (by omega) (by omega) J
theorem s_case19 (hl : l.stackTraces = false) {nm : String} {post : Outc → SG → Prop} {σ σ' : SG} {xs : Nat → Int32} {L : Nat} (hx : E.2.2.2.2 0 = some (L, xs)) {i_0 : Int} {cu su : Nat} (hcu : cu + 16 ≤ 601024) (hsu : su + 96 ≤ 7293000) (H : fS_19 σ xs L i_0 = some (true, σ')) (J : YY l E (M_law nm) 1312 601024 7293000 post 1606 [some (vr 0), some (vr 32), some (vr 277), some (vr 359), some (vi i_0), none, none, none] [] σ' (cu + 16) (su + 96)) : YY l E (M_law nm) 1312 601024 7293000 post 901 [some (vr 0), some (vr 32), some (vr 277), some (vr 359), some (vi i_0), none, none, none] [] σ cu su := by
  unfold fS_19 at H
  refine z_aload_n (M := (M_law nm)) dL_law_901 rfl ?_
  refine z_aload_n (M := (M_law nm)) dL_law_902 rfl ?_
  refine z_iload (M := (M_law nm)) dL_law_903 rfl ?_
  refine z_iconst (M := (M_law nm)) dL_law_905 ?_
  refine z_iadd (M := (M_law nm)) dL_law_906 ?_
  obtain ⟨hi_2, H⟩ := ck_e H
  obtain ⟨a_1, a_1_e, H⟩ := lt_e H
  refine z_sald (M := (M_law nm)) hx dL_law_907 rfl rfl hi_2 a_1_e.symm ?_
  refine z_aload_n (M := (M_law nm)) dL_law_908 rfl ?_
  refine z_iload (M := (M_law nm)) dL_law_909 rfl ?_
  refine z_iconst (M := (M_law nm)) dL_law_911 ?_
  refine z_iadd (M := (M_law nm)) dL_law_912 ?_
  obtain ⟨hi_4, H⟩ := ck_e H
  obtain ⟨a_3, a_3_e, H⟩ := lt_e H
  refine z_sald (M := (M_law nm)) hx dL_law_913 rfl rfl hi_4 a_3_e.symm ?_
  refine z_aload_n (M := (M_law nm)) dL_law_914 rfl ?_
  obtain ⟨⟨x_7, σ_6⟩, hc_5, H⟩ := bd_e H
  refine z_callSW (M := (M_law nm)) (M' := M_L_triangles) (as := [vr 32, vi a_1, vi a_3, vr 359]) (rest := []) rfl rfl dL_law_915 m_L_triangles t_2122 t_2123 (c_L_triangles hl hc_5) rfl rfl (Nat.le_of_ble_eq_true rfl) (Nat.le_of_ble_eq_true rfl) (by omega) (by omega) ?_
  refine z_st (st' := [vi x_7]) rfl ?_
  refine z_istore (M := (M_law nm)) (lv' := [some (vr 0), some (vr 32), some (vr 277), some (vr 359), some (vi i_0), some (vi x_7), none, none]) dL_law_918 (Nat.le_of_ble_eq_true rfl) rfl rfl ?_
  refine z_aload_n (M := (M_law nm)) dL_law_920 rfl ?_
  refine z_aload_n (M := (M_law nm)) dL_law_921 rfl ?_
  refine z_iload (M := (M_law nm)) dL_law_922 rfl ?_
  refine z_iconst (M := (M_law nm)) dL_law_924 ?_
  refine z_iadd (M := (M_law nm)) dL_law_925 ?_
  obtain ⟨hi_9, H⟩ := ck_e H
  obtain ⟨a_8, a_8_e, H⟩ := lt_e H
  refine z_sald (M := (M_law nm)) hx dL_law_926 rfl rfl hi_9 a_8_e.symm ?_
  refine z_aload_n (M := (M_law nm)) dL_law_927 rfl ?_
  refine z_iload (M := (M_law nm)) dL_law_928 rfl ?_
  refine z_iconst (M := (M_law nm)) dL_law_930 ?_
  refine z_iadd (M := (M_law nm)) dL_law_931 ?_
  obtain ⟨hi_11, H⟩ := ck_e H
  obtain ⟨a_10, a_10_e, H⟩ := lt_e H
  refine z_sald (M := (M_law nm)) hx dL_law_932 rfl rfl hi_11 a_10_e.symm ?_
  obtain ⟨⟨x_14, σ_13⟩, hc_12, H⟩ := bd_e H
  refine z_callV (M := (M_law nm)) (M' := M_X12_triangles) (as := [vi a_8, vi a_10]) (rest := []) rfl rfl dL_law_933 m_X12_triangles t_3649 t_3650 t_3651 (c_X12_triangles hl  hc_12) rfl rfl ly_277 rfl (Nat.le_of_ble_eq_true rfl) (Nat.le_of_ble_eq_true rfl) (by omega) (by omega) ?_
  refine z_st (st' := [vi x_14]) rfl ?_
  refine z_istore (M := (M_law nm)) (lv' := [some (vr 0), some (vr 32), some (vr 277), some (vr 359), some (vi i_0), some (vi x_7), some (vi x_14), none]) dL_law_936 (Nat.le_of_ble_eq_true rfl) rfl rfl ?_
  refine z_goto (M := (M_law nm)) (tgt := 1606) dL_law_938 (by decide) ?_
  refine z_le (lv' := [some (vr 0), some (vr 32), some (vr 277), some (vr 359), some (vi i_0), none, none, none]) ⟨Or.inr rfl, Or.inr rfl, Or.inr rfl, Or.inr rfl, Or.inr rfl, Or.inl rfl, Or.inl rfl, Or.inl rfl, trivial⟩ ?_
  cases H
  exact z_wide (by omega) (by omega) J
theorem s_case20 (hl : l.stackTraces = false) {nm : String} {post : Outc → SG → Prop} {σ σ' : SG} {xs : Nat → Int32} {L : Nat} (hx : E.2.2.2.2 0 = some (L, xs)) {i_0 : Int} {cu su : Nat} (hcu : cu + 16 ≤ 601024) (hsu : su + 96 ≤ 7293000) (H : fS_20 σ xs L i_0 = some (true, σ')) (J : YY l E (M_law nm) 1312 601024 7293000 post 1606 [some (vr 0), some (vr 32), some (vr 277), some (vr 359), some (vi i_0), none, none, none] [] σ' (cu + 16) (su + 96)) : YY l E (M_law nm) 1312 601024 7293000 post 941 [some (vr 0), some (vr 32), some (vr 277), some (vr 359), some (vi i_0), none, none, none] [] σ cu su := by
  unfold fS_20 at H
  refine z_aload_n (M := (M_law nm)) dL_law_941 rfl ?_
  refine z_aload_n (M := (M_law nm)) dL_law_942 rfl ?_
  refine z_iload (M := (M_law nm)) dL_law_943 rfl ?_
  refine z_iconst (M := (M_law nm)) dL_law_945 ?_
  refine z_iadd (M := (M_law nm)) dL_law_946 ?_
  obtain ⟨hi_2, H⟩ := ck_e H
  obtain ⟨a_1, a_1_e, H⟩ := lt_e H
  refine z_sald (M := (M_law nm)) hx dL_law_947 rfl rfl hi_2 a_1_e.symm ?_
  refine z_aload_n (M := (M_law nm)) dL_law_948 rfl ?_
  refine z_iload (M := (M_law nm)) dL_law_949 rfl ?_
  refine z_iconst (M := (M_law nm)) dL_law_951 ?_
  refine z_iadd (M := (M_law nm)) dL_law_952 ?_
  obtain ⟨hi_4, H⟩ := ck_e H
  obtain ⟨a_3, a_3_e, H⟩ := lt_e H
  refine z_sald (M := (M_law nm)) hx dL_law_953 rfl rfl hi_4 a_3_e.symm ?_
  refine z_aload_n (M := (M_law nm)) dL_law_954 rfl ?_
  refine z_iload (M := (M_law nm)) dL_law_955 rfl ?_
  refine z_iconst (M := (M_law nm)) dL_law_957 ?_
  refine z_iadd (M := (M_law nm)) dL_law_958 ?_
  obtain ⟨hi_6, H⟩ := ck_e H
  obtain ⟨a_5, a_5_e, H⟩ := lt_e H
  refine z_sald (M := (M_law nm)) hx dL_law_959 rfl rfl hi_6 a_5_e.symm ?_
  refine z_aload_n (M := (M_law nm)) dL_law_960 rfl ?_
  obtain ⟨⟨x_9, σ_8⟩, hc_7, H⟩ := bd_e H
  refine z_callSW (M := (M_law nm)) (M' := M_L_simplify) (as := [vr 32, vi a_1, vi a_3, vi a_5, vr 359]) (rest := []) rfl rfl dL_law_961 m_L_simplify t_2184 t_2185 (c_L_simplify hl hc_7) rfl rfl (Nat.le_of_ble_eq_true rfl) (Nat.le_of_ble_eq_true rfl) (by omega) (by omega) ?_
  refine z_st (st' := [vi x_9]) rfl ?_
  refine z_istore (M := (M_law nm)) (lv' := [some (vr 0), some (vr 32), some (vr 277), some (vr 359), some (vi i_0), some (vi x_9), none, none]) dL_law_964 (Nat.le_of_ble_eq_true rfl) rfl rfl ?_
  refine z_aload_n (M := (M_law nm)) dL_law_966 rfl ?_
  refine z_aload_n (M := (M_law nm)) dL_law_967 rfl ?_
  refine z_iload (M := (M_law nm)) dL_law_968 rfl ?_
  refine z_iconst (M := (M_law nm)) dL_law_970 ?_
  refine z_iadd (M := (M_law nm)) dL_law_971 ?_
  obtain ⟨hi_11, H⟩ := ck_e H
  obtain ⟨a_10, a_10_e, H⟩ := lt_e H
  refine z_sald (M := (M_law nm)) hx dL_law_972 rfl rfl hi_11 a_10_e.symm ?_
  refine z_aload_n (M := (M_law nm)) dL_law_973 rfl ?_
  refine z_iload (M := (M_law nm)) dL_law_974 rfl ?_
  refine z_iconst (M := (M_law nm)) dL_law_976 ?_
  refine z_iadd (M := (M_law nm)) dL_law_977 ?_
  obtain ⟨hi_13, H⟩ := ck_e H
  obtain ⟨a_12, a_12_e, H⟩ := lt_e H
  refine z_sald (M := (M_law nm)) hx dL_law_978 rfl rfl hi_13 a_12_e.symm ?_
  refine z_aload_n (M := (M_law nm)) dL_law_979 rfl ?_
  refine z_iload (M := (M_law nm)) dL_law_980 rfl ?_
  refine z_iconst (M := (M_law nm)) dL_law_982 ?_
  refine z_iadd (M := (M_law nm)) dL_law_983 ?_
  obtain ⟨hi_15, H⟩ := ck_e H
  obtain ⟨a_14, a_14_e, H⟩ := lt_e H
  refine z_sald (M := (M_law nm)) hx dL_law_984 rfl rfl hi_15 a_14_e.symm ?_
  obtain ⟨⟨x_18, σ_17⟩, hc_16, H⟩ := bd_e H
  refine z_callV (M := (M_law nm)) (M' := M_X12_simplify) (as := [vi a_10, vi a_12, vi a_14]) (rest := []) rfl rfl dL_law_985 m_X12_simplify t_3685 t_3686 t_3687 (c_X12_simplify hl  hc_16) rfl rfl ly_277 rfl (Nat.le_of_ble_eq_true rfl) (Nat.le_of_ble_eq_true rfl) (by omega) (by omega) ?_
  refine z_st (st' := [vi x_18]) rfl ?_
  refine z_istore (M := (M_law nm)) (lv' := [some (vr 0), some (vr 32), some (vr 277), some (vr 359), some (vi i_0), some (vi x_9), some (vi x_18), none]) dL_law_988 (Nat.le_of_ble_eq_true rfl) rfl rfl ?_
  refine z_goto (M := (M_law nm)) (tgt := 1606) dL_law_990 (by decide) ?_
  refine z_le (lv' := [some (vr 0), some (vr 32), some (vr 277), some (vr 359), some (vi i_0), none, none, none]) ⟨Or.inr rfl, Or.inr rfl, Or.inr rfl, Or.inr rfl, Or.inr rfl, Or.inl rfl, Or.inl rfl, Or.inl rfl, trivial⟩ ?_
  cases H
  exact z_wide (by omega) (by omega) J
theorem s_case21 (hl : l.stackTraces = false) {nm : String} {post : Outc → SG → Prop} {σ σ' : SG} {xs : Nat → Int32} {L : Nat} (hx : E.2.2.2.2 0 = some (L, xs)) {i_0 : Int} {cu su : Nat} (hcu : cu + 16 ≤ 601024) (hsu : su + 96 ≤ 7293000) (H : fS_21 σ xs L i_0 = some (true, σ')) (J : YY l E (M_law nm) 1312 601024 7293000 post 1606 [some (vr 0), some (vr 32), some (vr 277), some (vr 359), some (vi i_0), none, none, none] [] σ' (cu + 16) (su + 96)) : YY l E (M_law nm) 1312 601024 7293000 post 993 [some (vr 0), some (vr 32), some (vr 277), some (vr 359), some (vi i_0), none, none, none] [] σ cu su := by
  unfold fS_21 at H
  refine z_aload_n (M := (M_law nm)) dL_law_993 rfl ?_
  refine z_aload_n (M := (M_law nm)) dL_law_994 rfl ?_
  refine z_iload (M := (M_law nm)) dL_law_995 rfl ?_
  refine z_iconst (M := (M_law nm)) dL_law_997 ?_
  refine z_iadd (M := (M_law nm)) dL_law_998 ?_
  obtain ⟨hi_2, H⟩ := ck_e H
  obtain ⟨a_1, a_1_e, H⟩ := lt_e H
  refine z_sald (M := (M_law nm)) hx dL_law_999 rfl rfl hi_2 a_1_e.symm ?_
  refine z_aload_n (M := (M_law nm)) dL_law_1000 rfl ?_
  obtain ⟨⟨x_5, σ_4⟩, hc_3, H⟩ := bd_e H
  refine z_callSW (M := (M_law nm)) (M' := M_L_area) (as := [vr 32, vi a_1, vr 359]) (rest := []) rfl rfl dL_law_1001 m_L_area t_2217 t_2218 (c_L_area hl hc_3) rfl rfl (Nat.le_of_ble_eq_true rfl) (Nat.le_of_ble_eq_true rfl) (by omega) (by omega) ?_
  refine z_st (st' := [vi x_5]) rfl ?_
  refine z_istore (M := (M_law nm)) (lv' := [some (vr 0), some (vr 32), some (vr 277), some (vr 359), some (vi i_0), some (vi x_5), none, none]) dL_law_1004 (Nat.le_of_ble_eq_true rfl) rfl rfl ?_
  refine z_aload_n (M := (M_law nm)) dL_law_1006 rfl ?_
  refine z_aload_n (M := (M_law nm)) dL_law_1007 rfl ?_
  refine z_iload (M := (M_law nm)) dL_law_1008 rfl ?_
  refine z_iconst (M := (M_law nm)) dL_law_1010 ?_
  refine z_iadd (M := (M_law nm)) dL_law_1011 ?_
  obtain ⟨hi_7, H⟩ := ck_e H
  obtain ⟨a_6, a_6_e, H⟩ := lt_e H
  refine z_sald (M := (M_law nm)) hx dL_law_1012 rfl rfl hi_7 a_6_e.symm ?_
  obtain ⟨⟨x_10, σ_9⟩, hc_8, H⟩ := bd_e H
  refine z_callV (M := (M_law nm)) (M' := M_X12_area) (as := [vi a_6]) (rest := []) rfl rfl dL_law_1013 m_X12_area t_3342 t_3343 t_3344 (c_X12_area hl  hc_8) rfl rfl ly_277 rfl (Nat.le_of_ble_eq_true rfl) (Nat.le_of_ble_eq_true rfl) (by omega) (by omega) ?_
  refine z_st (st' := [vl x_10]) rfl ?_
  refine z_lstore (M := (M_law nm)) (lv' := [some (vr 0), some (vr 32), some (vr 277), some (vr 359), some (vi i_0), some (vi x_5), some (vl x_10), none]) dL_law_1016 (Nat.le_of_ble_eq_true rfl) rfl rfl ?_
  refine z_goto (M := (M_law nm)) (tgt := 1606) dL_law_1018 (by decide) ?_
  refine z_le (lv' := [some (vr 0), some (vr 32), some (vr 277), some (vr 359), some (vi i_0), none, none, none]) ⟨Or.inr rfl, Or.inr rfl, Or.inr rfl, Or.inr rfl, Or.inr rfl, Or.inl rfl, Or.inl rfl, Or.inl rfl, trivial⟩ ?_
  cases H
  exact z_wide (by omega) (by omega) J
theorem s_case22 (hl : l.stackTraces = false) {nm : String} {post : Outc → SG → Prop} {σ σ' : SG} {xs : Nat → Int32} {L : Nat} (hx : E.2.2.2.2 0 = some (L, xs)) {i_0 : Int} {cu su : Nat} (hcu : cu + 16 ≤ 601024) (hsu : su + 96 ≤ 7293000) (H : fS_22 σ xs L i_0 = some (true, σ')) (J : YY l E (M_law nm) 1312 601024 7293000 post 1606 [some (vr 0), some (vr 32), some (vr 277), some (vr 359), some (vi i_0), none, none, none] [] σ' (cu + 16) (su + 96)) : YY l E (M_law nm) 1312 601024 7293000 post 1021 [some (vr 0), some (vr 32), some (vr 277), some (vr 359), some (vi i_0), none, none, none] [] σ cu su := by
  unfold fS_22 at H
  refine z_aload_n (M := (M_law nm)) dL_law_1021 rfl ?_
  refine z_aload_n (M := (M_law nm)) dL_law_1022 rfl ?_
  refine z_iload (M := (M_law nm)) dL_law_1023 rfl ?_
  refine z_iconst (M := (M_law nm)) dL_law_1025 ?_
  refine z_iadd (M := (M_law nm)) dL_law_1026 ?_
  obtain ⟨hi_2, H⟩ := ck_e H
  obtain ⟨a_1, a_1_e, H⟩ := lt_e H
  refine z_sald (M := (M_law nm)) hx dL_law_1027 rfl rfl hi_2 a_1_e.symm ?_
  refine z_aload_n (M := (M_law nm)) dL_law_1028 rfl ?_
  refine z_iload (M := (M_law nm)) dL_law_1029 rfl ?_
  refine z_iconst (M := (M_law nm)) dL_law_1031 ?_
  refine z_iadd (M := (M_law nm)) dL_law_1032 ?_
  obtain ⟨hi_4, H⟩ := ck_e H
  obtain ⟨a_3, a_3_e, H⟩ := lt_e H
  refine z_sald (M := (M_law nm)) hx dL_law_1033 rfl rfl hi_4 a_3_e.symm ?_
  refine z_aload_n (M := (M_law nm)) dL_law_1034 rfl ?_
  obtain ⟨⟨x_7, σ_6⟩, hc_5, H⟩ := bd_e H
  refine z_callSW (M := (M_law nm)) (M' := M_L_bounds) (as := [vr 32, vi a_1, vi a_3, vr 359]) (rest := []) rfl rfl dL_law_1035 m_L_bounds t_2229 t_2230 (c_L_bounds hl hc_5) rfl rfl (Nat.le_of_ble_eq_true rfl) (Nat.le_of_ble_eq_true rfl) (by omega) (by omega) ?_
  refine z_st (st' := [vi x_7]) rfl ?_
  refine z_istore (M := (M_law nm)) (lv' := [some (vr 0), some (vr 32), some (vr 277), some (vr 359), some (vi i_0), some (vi x_7), none, none]) dL_law_1038 (Nat.le_of_ble_eq_true rfl) rfl rfl ?_
  refine z_aload_n (M := (M_law nm)) dL_law_1040 rfl ?_
  refine z_aload_n (M := (M_law nm)) dL_law_1041 rfl ?_
  refine z_iload (M := (M_law nm)) dL_law_1042 rfl ?_
  refine z_iconst (M := (M_law nm)) dL_law_1044 ?_
  refine z_iadd (M := (M_law nm)) dL_law_1045 ?_
  obtain ⟨hi_9, H⟩ := ck_e H
  obtain ⟨a_8, a_8_e, H⟩ := lt_e H
  refine z_sald (M := (M_law nm)) hx dL_law_1046 rfl rfl hi_9 a_8_e.symm ?_
  refine z_aload_n (M := (M_law nm)) dL_law_1047 rfl ?_
  refine z_iload (M := (M_law nm)) dL_law_1048 rfl ?_
  refine z_iconst (M := (M_law nm)) dL_law_1050 ?_
  refine z_iadd (M := (M_law nm)) dL_law_1051 ?_
  obtain ⟨hi_11, H⟩ := ck_e H
  obtain ⟨a_10, a_10_e, H⟩ := lt_e H
  refine z_sald (M := (M_law nm)) hx dL_law_1052 rfl rfl hi_11 a_10_e.symm ?_
  obtain ⟨⟨x_14, σ_13⟩, hc_12, H⟩ := bd_e H
  refine z_callV (M := (M_law nm)) (M' := M_X12_bounds) (as := [vi a_8, vi a_10]) (rest := []) rfl rfl dL_law_1053 m_X12_bounds t_3119 t_3120 t_3121 (c_X12_bounds hl  hc_12) rfl rfl ly_277 rfl (Nat.le_of_ble_eq_true rfl) (Nat.le_of_ble_eq_true rfl) (by omega) (by omega) ?_
  refine z_st (st' := [vi x_14]) rfl ?_
  refine z_istore (M := (M_law nm)) (lv' := [some (vr 0), some (vr 32), some (vr 277), some (vr 359), some (vi i_0), some (vi x_7), some (vi x_14), none]) dL_law_1056 (Nat.le_of_ble_eq_true rfl) rfl rfl ?_
  refine z_goto (M := (M_law nm)) (tgt := 1606) dL_law_1058 (by decide) ?_
  refine z_le (lv' := [some (vr 0), some (vr 32), some (vr 277), some (vr 359), some (vi i_0), none, none, none]) ⟨Or.inr rfl, Or.inr rfl, Or.inr rfl, Or.inr rfl, Or.inr rfl, Or.inl rfl, Or.inl rfl, Or.inl rfl, trivial⟩ ?_
  cases H
  exact z_wide (by omega) (by omega) J
theorem s_case23 (hl : l.stackTraces = false) {nm : String} {post : Outc → SG → Prop} {σ σ' : SG} {xs : Nat → Int32} {L : Nat} (hx : E.2.2.2.2 0 = some (L, xs)) {i_0 : Int} {cu su : Nat} (hcu : cu + 16 ≤ 601024) (hsu : su + 96 ≤ 7293000) (H : fS_23 σ xs L i_0 = some (true, σ')) (J : YY l E (M_law nm) 1312 601024 7293000 post 1606 [some (vr 0), some (vr 32), some (vr 277), some (vr 359), some (vi i_0), none, none, none] [] σ' (cu + 16) (su + 96)) : YY l E (M_law nm) 1312 601024 7293000 post 1061 [some (vr 0), some (vr 32), some (vr 277), some (vr 359), some (vi i_0), none, none, none] [] σ cu su := by
  unfold fS_23 at H
  refine z_aload_n (M := (M_law nm)) dL_law_1061 rfl ?_
  refine z_aload_n (M := (M_law nm)) dL_law_1062 rfl ?_
  refine z_iload (M := (M_law nm)) dL_law_1063 rfl ?_
  refine z_iconst (M := (M_law nm)) dL_law_1065 ?_
  refine z_iadd (M := (M_law nm)) dL_law_1066 ?_
  obtain ⟨hi_2, H⟩ := ck_e H
  obtain ⟨a_1, a_1_e, H⟩ := lt_e H
  refine z_sald (M := (M_law nm)) hx dL_law_1067 rfl rfl hi_2 a_1_e.symm ?_
  refine z_aload_n (M := (M_law nm)) dL_law_1068 rfl ?_
  refine z_iload (M := (M_law nm)) dL_law_1069 rfl ?_
  refine z_iconst (M := (M_law nm)) dL_law_1071 ?_
  refine z_iadd (M := (M_law nm)) dL_law_1072 ?_
  obtain ⟨hi_4, H⟩ := ck_e H
  obtain ⟨a_3, a_3_e, H⟩ := lt_e H
  refine z_sald (M := (M_law nm)) hx dL_law_1073 rfl rfl hi_4 a_3_e.symm ?_
  refine z_aload_n (M := (M_law nm)) dL_law_1074 rfl ?_
  refine z_iload (M := (M_law nm)) dL_law_1075 rfl ?_
  refine z_iconst (M := (M_law nm)) dL_law_1077 ?_
  refine z_iadd (M := (M_law nm)) dL_law_1078 ?_
  obtain ⟨hi_6, H⟩ := ck_e H
  obtain ⟨a_5, a_5_e, H⟩ := lt_e H
  refine z_sald (M := (M_law nm)) hx dL_law_1079 rfl rfl hi_6 a_5_e.symm ?_
  refine z_aload_n (M := (M_law nm)) dL_law_1080 rfl ?_
  refine z_iload (M := (M_law nm)) dL_law_1081 rfl ?_
  refine z_iconst (M := (M_law nm)) dL_law_1083 ?_
  refine z_iadd (M := (M_law nm)) dL_law_1084 ?_
  obtain ⟨hi_8, H⟩ := ck_e H
  obtain ⟨a_7, a_7_e, H⟩ := lt_e H
  refine z_sald (M := (M_law nm)) hx dL_law_1085 rfl rfl hi_8 a_7_e.symm ?_
  refine z_aload_n (M := (M_law nm)) dL_law_1086 rfl ?_
  refine z_iload (M := (M_law nm)) dL_law_1087 rfl ?_
  refine z_iconst (M := (M_law nm)) dL_law_1089 ?_
  refine z_iadd (M := (M_law nm)) dL_law_1090 ?_
  obtain ⟨hi_10, H⟩ := ck_e H
  obtain ⟨a_9, a_9_e, H⟩ := lt_e H
  refine z_sald (M := (M_law nm)) hx dL_law_1091 rfl rfl hi_10 a_9_e.symm ?_
  refine z_aload_n (M := (M_law nm)) dL_law_1092 rfl ?_
  obtain ⟨⟨x_13, σ_12⟩, hc_11, H⟩ := bd_e H
  refine z_callSW (M := (M_law nm)) (M' := M_L_find) (as := [vr 32, vi a_1, vi a_3, vi a_5, vi a_7, vi a_9, vr 359]) (rest := []) rfl rfl dL_law_1093 m_L_find t_2242 t_2243 (c_L_find hl hc_11) rfl rfl (Nat.le_of_ble_eq_true rfl) (Nat.le_of_ble_eq_true rfl) (by omega) (by omega) ?_
  refine z_st (st' := [vi x_13]) rfl ?_
  refine z_istore (M := (M_law nm)) (lv' := [some (vr 0), some (vr 32), some (vr 277), some (vr 359), some (vi i_0), some (vi x_13), none, none]) dL_law_1096 (Nat.le_of_ble_eq_true rfl) rfl rfl ?_
  refine z_aload_n (M := (M_law nm)) dL_law_1098 rfl ?_
  refine z_aload_n (M := (M_law nm)) dL_law_1099 rfl ?_
  refine z_iload (M := (M_law nm)) dL_law_1100 rfl ?_
  refine z_iconst (M := (M_law nm)) dL_law_1102 ?_
  refine z_iadd (M := (M_law nm)) dL_law_1103 ?_
  obtain ⟨hi_15, H⟩ := ck_e H
  obtain ⟨a_14, a_14_e, H⟩ := lt_e H
  refine z_sald (M := (M_law nm)) hx dL_law_1104 rfl rfl hi_15 a_14_e.symm ?_
  refine z_aload_n (M := (M_law nm)) dL_law_1105 rfl ?_
  refine z_iload (M := (M_law nm)) dL_law_1106 rfl ?_
  refine z_iconst (M := (M_law nm)) dL_law_1108 ?_
  refine z_iadd (M := (M_law nm)) dL_law_1109 ?_
  obtain ⟨hi_17, H⟩ := ck_e H
  obtain ⟨a_16, a_16_e, H⟩ := lt_e H
  refine z_sald (M := (M_law nm)) hx dL_law_1110 rfl rfl hi_17 a_16_e.symm ?_
  refine z_aload_n (M := (M_law nm)) dL_law_1111 rfl ?_
  refine z_iload (M := (M_law nm)) dL_law_1112 rfl ?_
  refine z_iconst (M := (M_law nm)) dL_law_1114 ?_
  refine z_iadd (M := (M_law nm)) dL_law_1115 ?_
  obtain ⟨hi_19, H⟩ := ck_e H
  obtain ⟨a_18, a_18_e, H⟩ := lt_e H
  refine z_sald (M := (M_law nm)) hx dL_law_1116 rfl rfl hi_19 a_18_e.symm ?_
  refine z_aload_n (M := (M_law nm)) dL_law_1117 rfl ?_
  refine z_iload (M := (M_law nm)) dL_law_1118 rfl ?_
  refine z_iconst (M := (M_law nm)) dL_law_1120 ?_
  refine z_iadd (M := (M_law nm)) dL_law_1121 ?_
  obtain ⟨hi_21, H⟩ := ck_e H
  obtain ⟨a_20, a_20_e, H⟩ := lt_e H
  refine z_sald (M := (M_law nm)) hx dL_law_1122 rfl rfl hi_21 a_20_e.symm ?_
  refine z_aload_n (M := (M_law nm)) dL_law_1123 rfl ?_
  refine z_iload (M := (M_law nm)) dL_law_1124 rfl ?_
  refine z_iconst (M := (M_law nm)) dL_law_1126 ?_
  refine z_iadd (M := (M_law nm)) dL_law_1127 ?_
  obtain ⟨hi_23, H⟩ := ck_e H
  obtain ⟨a_22, a_22_e, H⟩ := lt_e H
  refine z_sald (M := (M_law nm)) hx dL_law_1128 rfl rfl hi_23 a_22_e.symm ?_
  obtain ⟨⟨x_26, σ_25⟩, hc_24, H⟩ := bd_e H
  refine z_callV (M := (M_law nm)) (M' := M_X12_find) (as := [vi a_14, vi a_16, vi a_18, vi a_20, vi a_22]) (rest := []) rfl rfl dL_law_1129 m_X12_find t_3129 t_3130 t_3131 (c_X12_find hl  hc_24) rfl rfl ly_277 rfl (Nat.le_of_ble_eq_true rfl) (Nat.le_of_ble_eq_true rfl) (by omega) (by omega) ?_
  refine z_st (st' := [vi x_26]) rfl ?_
  refine z_istore (M := (M_law nm)) (lv' := [some (vr 0), some (vr 32), some (vr 277), some (vr 359), some (vi i_0), some (vi x_13), some (vi x_26), none]) dL_law_1132 (Nat.le_of_ble_eq_true rfl) rfl rfl ?_
  refine z_goto (M := (M_law nm)) (tgt := 1606) dL_law_1134 (by decide) ?_
  refine z_le (lv' := [some (vr 0), some (vr 32), some (vr 277), some (vr 359), some (vi i_0), none, none, none]) ⟨Or.inr rfl, Or.inr rfl, Or.inr rfl, Or.inr rfl, Or.inr rfl, Or.inl rfl, Or.inl rfl, Or.inl rfl, trivial⟩ ?_
  cases H
  exact z_wide (by omega) (by omega) J
theorem s_case24 (hl : l.stackTraces = false) {nm : String} {post : Outc → SG → Prop} {σ σ' : SG} {xs : Nat → Int32} {L : Nat} (hx : E.2.2.2.2 0 = some (L, xs)) {i_0 : Int} {cu su : Nat} (hcu : cu + 16 ≤ 601024) (hsu : su + 96 ≤ 7293000) (H : fS_24 σ xs L i_0 = some (true, σ')) (J : YY l E (M_law nm) 1312 601024 7293000 post 1606 [some (vr 0), some (vr 32), some (vr 277), some (vr 359), some (vi i_0), none, none, none] [] σ' (cu + 16) (su + 96)) : YY l E (M_law nm) 1312 601024 7293000 post 1137 [some (vr 0), some (vr 32), some (vr 277), some (vr 359), some (vi i_0), none, none, none] [] σ cu su := by
  unfold fS_24 at H
  refine z_aload_n (M := (M_law nm)) dL_law_1137 rfl ?_
  refine z_aload_n (M := (M_law nm)) dL_law_1138 rfl ?_
  refine z_iload (M := (M_law nm)) dL_law_1139 rfl ?_
  refine z_iconst (M := (M_law nm)) dL_law_1141 ?_
  refine z_iadd (M := (M_law nm)) dL_law_1142 ?_
  obtain ⟨hi_2, H⟩ := ck_e H
  obtain ⟨a_1, a_1_e, H⟩ := lt_e H
  refine z_sald (M := (M_law nm)) hx dL_law_1143 rfl rfl hi_2 a_1_e.symm ?_
  refine z_aload_n (M := (M_law nm)) dL_law_1144 rfl ?_
  refine z_iload (M := (M_law nm)) dL_law_1145 rfl ?_
  refine z_iconst (M := (M_law nm)) dL_law_1147 ?_
  refine z_iadd (M := (M_law nm)) dL_law_1148 ?_
  obtain ⟨hi_4, H⟩ := ck_e H
  obtain ⟨a_3, a_3_e, H⟩ := lt_e H
  refine z_sald (M := (M_law nm)) hx dL_law_1149 rfl rfl hi_4 a_3_e.symm ?_
  refine z_aload_n (M := (M_law nm)) dL_law_1150 rfl ?_
  refine z_iload (M := (M_law nm)) dL_law_1151 rfl ?_
  refine z_iconst (M := (M_law nm)) dL_law_1153 ?_
  refine z_iadd (M := (M_law nm)) dL_law_1154 ?_
  obtain ⟨hi_6, H⟩ := ck_e H
  obtain ⟨a_5, a_5_e, H⟩ := lt_e H
  refine z_sald (M := (M_law nm)) hx dL_law_1155 rfl rfl hi_6 a_5_e.symm ?_
  refine z_aload_n (M := (M_law nm)) dL_law_1156 rfl ?_
  obtain ⟨⟨x_9, σ_8⟩, hc_7, H⟩ := bd_e H
  refine z_callSW (M := (M_law nm)) (M' := M_L_nearest) (as := [vr 32, vi a_1, vi a_3, vi a_5, vr 359]) (rest := []) rfl rfl dL_law_1157 m_L_nearest t_2254 t_2255 (c_L_nearest hl hc_7) rfl rfl (Nat.le_of_ble_eq_true rfl) (Nat.le_of_ble_eq_true rfl) (by omega) (by omega) ?_
  refine z_st (st' := [vi x_9]) rfl ?_
  refine z_istore (M := (M_law nm)) (lv' := [some (vr 0), some (vr 32), some (vr 277), some (vr 359), some (vi i_0), some (vi x_9), none, none]) dL_law_1160 (Nat.le_of_ble_eq_true rfl) rfl rfl ?_
  refine z_aload_n (M := (M_law nm)) dL_law_1162 rfl ?_
  refine z_aload_n (M := (M_law nm)) dL_law_1163 rfl ?_
  refine z_iload (M := (M_law nm)) dL_law_1164 rfl ?_
  refine z_iconst (M := (M_law nm)) dL_law_1166 ?_
  refine z_iadd (M := (M_law nm)) dL_law_1167 ?_
  obtain ⟨hi_11, H⟩ := ck_e H
  obtain ⟨a_10, a_10_e, H⟩ := lt_e H
  refine z_sald (M := (M_law nm)) hx dL_law_1168 rfl rfl hi_11 a_10_e.symm ?_
  refine z_aload_n (M := (M_law nm)) dL_law_1169 rfl ?_
  refine z_iload (M := (M_law nm)) dL_law_1170 rfl ?_
  refine z_iconst (M := (M_law nm)) dL_law_1172 ?_
  refine z_iadd (M := (M_law nm)) dL_law_1173 ?_
  obtain ⟨hi_13, H⟩ := ck_e H
  obtain ⟨a_12, a_12_e, H⟩ := lt_e H
  refine z_sald (M := (M_law nm)) hx dL_law_1174 rfl rfl hi_13 a_12_e.symm ?_
  refine z_aload_n (M := (M_law nm)) dL_law_1175 rfl ?_
  refine z_iload (M := (M_law nm)) dL_law_1176 rfl ?_
  refine z_iconst (M := (M_law nm)) dL_law_1178 ?_
  refine z_iadd (M := (M_law nm)) dL_law_1179 ?_
  obtain ⟨hi_15, H⟩ := ck_e H
  obtain ⟨a_14, a_14_e, H⟩ := lt_e H
  refine z_sald (M := (M_law nm)) hx dL_law_1180 rfl rfl hi_15 a_14_e.symm ?_
  obtain ⟨⟨x_18, σ_17⟩, hc_16, H⟩ := bd_e H
  refine z_callV (M := (M_law nm)) (M' := M_X12_nearest) (as := [vi a_10, vi a_12, vi a_14]) (rest := []) rfl rfl dL_law_1181 m_X12_nearest t_3137 t_3138 t_3139 (c_X12_nearest hl  hc_16) rfl rfl ly_277 rfl (Nat.le_of_ble_eq_true rfl) (Nat.le_of_ble_eq_true rfl) (by omega) (by omega) ?_
  refine z_st (st' := [vi x_18]) rfl ?_
  refine z_istore (M := (M_law nm)) (lv' := [some (vr 0), some (vr 32), some (vr 277), some (vr 359), some (vi i_0), some (vi x_9), some (vi x_18), none]) dL_law_1184 (Nat.le_of_ble_eq_true rfl) rfl rfl ?_
  refine z_goto (M := (M_law nm)) (tgt := 1606) dL_law_1186 (by decide) ?_
  refine z_le (lv' := [some (vr 0), some (vr 32), some (vr 277), some (vr 359), some (vi i_0), none, none, none]) ⟨Or.inr rfl, Or.inr rfl, Or.inr rfl, Or.inr rfl, Or.inr rfl, Or.inl rfl, Or.inl rfl, Or.inl rfl, trivial⟩ ?_
  cases H
  exact z_wide (by omega) (by omega) J
theorem s_case25 (hl : l.stackTraces = false) {nm : String} {post : Outc → SG → Prop} {σ σ' : SG} {xs : Nat → Int32} {L : Nat} (hx : E.2.2.2.2 0 = some (L, xs)) {i_0 : Int} {cu su : Nat} (hcu : cu + 16 ≤ 601024) (hsu : su + 96 ≤ 7293000) (H : fS_25 σ xs L i_0 = some (true, σ')) (J : YY l E (M_law nm) 1312 601024 7293000 post 1606 [some (vr 0), some (vr 32), some (vr 277), some (vr 359), some (vi i_0), none, none, none] [] σ' (cu + 16) (su + 96)) : YY l E (M_law nm) 1312 601024 7293000 post 1189 [some (vr 0), some (vr 32), some (vr 277), some (vr 359), some (vi i_0), none, none, none] [] σ cu su := by
  unfold fS_25 at H
  refine z_aload_n (M := (M_law nm)) dL_law_1189 rfl ?_
  refine z_aload_n (M := (M_law nm)) dL_law_1190 rfl ?_
  refine z_iload (M := (M_law nm)) dL_law_1191 rfl ?_
  refine z_iconst (M := (M_law nm)) dL_law_1193 ?_
  refine z_iadd (M := (M_law nm)) dL_law_1194 ?_
  obtain ⟨hi_2, H⟩ := ck_e H
  obtain ⟨a_1, a_1_e, H⟩ := lt_e H
  refine z_sald (M := (M_law nm)) hx dL_law_1195 rfl rfl hi_2 a_1_e.symm ?_
  refine z_aload_n (M := (M_law nm)) dL_law_1196 rfl ?_
  obtain ⟨⟨x_5, σ_4⟩, hc_3, H⟩ := bd_e H
  refine z_callSW (M := (M_law nm)) (M' := M_L_found) (as := [vr 32, vi a_1, vr 359]) (rest := []) rfl rfl dL_law_1197 m_L_found t_2270 t_2271 (c_L_found hl hc_3) rfl rfl (Nat.le_of_ble_eq_true rfl) (Nat.le_of_ble_eq_true rfl) (by omega) (by omega) ?_
  refine z_st (st' := [vi x_5]) rfl ?_
  refine z_istore (M := (M_law nm)) (lv' := [some (vr 0), some (vr 32), some (vr 277), some (vr 359), some (vi i_0), some (vi x_5), none, none]) dL_law_1200 (Nat.le_of_ble_eq_true rfl) rfl rfl ?_
  refine z_aload_n (M := (M_law nm)) dL_law_1202 rfl ?_
  refine z_aload_n (M := (M_law nm)) dL_law_1203 rfl ?_
  refine z_iload (M := (M_law nm)) dL_law_1204 rfl ?_
  refine z_iconst (M := (M_law nm)) dL_law_1206 ?_
  refine z_iadd (M := (M_law nm)) dL_law_1207 ?_
  obtain ⟨hi_7, H⟩ := ck_e H
  obtain ⟨a_6, a_6_e, H⟩ := lt_e H
  refine z_sald (M := (M_law nm)) hx dL_law_1208 rfl rfl hi_7 a_6_e.symm ?_
  obtain ⟨⟨x_10, σ_9⟩, hc_8, H⟩ := bd_e H
  refine z_callV (M := (M_law nm)) (M' := M_X12_found) (as := [vi a_6]) (rest := []) rfl rfl dL_law_1209 m_X12_found t_3146 t_3147 t_3148 (c_X12_found hl  hc_8) rfl rfl ly_277 rfl (Nat.le_of_ble_eq_true rfl) (Nat.le_of_ble_eq_true rfl) (by omega) (by omega) ?_
  refine z_st (st' := [vi x_10]) rfl ?_
  refine z_istore (M := (M_law nm)) (lv' := [some (vr 0), some (vr 32), some (vr 277), some (vr 359), some (vi i_0), some (vi x_5), some (vi x_10), none]) dL_law_1212 (Nat.le_of_ble_eq_true rfl) rfl rfl ?_
  refine z_goto (M := (M_law nm)) (tgt := 1606) dL_law_1214 (by decide) ?_
  refine z_le (lv' := [some (vr 0), some (vr 32), some (vr 277), some (vr 359), some (vi i_0), none, none, none]) ⟨Or.inr rfl, Or.inr rfl, Or.inr rfl, Or.inr rfl, Or.inr rfl, Or.inl rfl, Or.inl rfl, Or.inl rfl, trivial⟩ ?_
  cases H
  exact z_wide (by omega) (by omega) J
theorem s_case26 (hl : l.stackTraces = false) {nm : String} {post : Outc → SG → Prop} {σ σ' : SG} {xs : Nat → Int32} {L : Nat} (hx : E.2.2.2.2 0 = some (L, xs)) {i_0 : Int} {cu su : Nat} (hcu : cu + 16 ≤ 601024) (hsu : su + 96 ≤ 7293000) (H : fS_26 σ xs L i_0 = some (true, σ')) (J : YY l E (M_law nm) 1312 601024 7293000 post 1606 [some (vr 0), some (vr 32), some (vr 277), some (vr 359), some (vi i_0), none, none, none] [] σ' (cu + 16) (su + 96)) : YY l E (M_law nm) 1312 601024 7293000 post 1217 [some (vr 0), some (vr 32), some (vr 277), some (vr 359), some (vi i_0), none, none, none] [] σ cu su := by
  unfold fS_26 at H
  refine z_aload_n (M := (M_law nm)) dL_law_1217 rfl ?_
  refine z_aload_n (M := (M_law nm)) dL_law_1218 rfl ?_
  refine z_iload (M := (M_law nm)) dL_law_1219 rfl ?_
  refine z_iconst (M := (M_law nm)) dL_law_1221 ?_
  refine z_iadd (M := (M_law nm)) dL_law_1222 ?_
  obtain ⟨hi_2, H⟩ := ck_e H
  obtain ⟨a_1, a_1_e, H⟩ := lt_e H
  refine z_sald (M := (M_law nm)) hx dL_law_1223 rfl rfl hi_2 a_1_e.symm ?_
  refine z_aload_n (M := (M_law nm)) dL_law_1224 rfl ?_
  refine z_iload (M := (M_law nm)) dL_law_1225 rfl ?_
  refine z_iconst (M := (M_law nm)) dL_law_1227 ?_
  refine z_iadd (M := (M_law nm)) dL_law_1228 ?_
  obtain ⟨hi_4, H⟩ := ck_e H
  obtain ⟨a_3, a_3_e, H⟩ := lt_e H
  refine z_sald (M := (M_law nm)) hx dL_law_1229 rfl rfl hi_4 a_3_e.symm ?_
  refine z_aload_n (M := (M_law nm)) dL_law_1230 rfl ?_
  obtain ⟨⟨x_7, σ_6⟩, hc_5, H⟩ := bd_e H
  refine z_callSW (M := (M_law nm)) (M' := M_L_plan) (as := [vr 32, vi a_1, vi a_3, vr 359]) (rest := []) rfl rfl dL_law_1231 m_L_plan t_2277 t_2278 (c_L_plan hl hc_5) rfl rfl (Nat.le_of_ble_eq_true rfl) (Nat.le_of_ble_eq_true rfl) (by omega) (by omega) ?_
  refine z_st (st' := [vi x_7]) rfl ?_
  refine z_istore (M := (M_law nm)) (lv' := [some (vr 0), some (vr 32), some (vr 277), some (vr 359), some (vi i_0), some (vi x_7), none, none]) dL_law_1234 (Nat.le_of_ble_eq_true rfl) rfl rfl ?_
  refine z_aload_n (M := (M_law nm)) dL_law_1236 rfl ?_
  refine z_aload_n (M := (M_law nm)) dL_law_1237 rfl ?_
  refine z_iload (M := (M_law nm)) dL_law_1238 rfl ?_
  refine z_iconst (M := (M_law nm)) dL_law_1240 ?_
  refine z_iadd (M := (M_law nm)) dL_law_1241 ?_
  obtain ⟨hi_9, H⟩ := ck_e H
  obtain ⟨a_8, a_8_e, H⟩ := lt_e H
  refine z_sald (M := (M_law nm)) hx dL_law_1242 rfl rfl hi_9 a_8_e.symm ?_
  refine z_aload_n (M := (M_law nm)) dL_law_1243 rfl ?_
  refine z_iload (M := (M_law nm)) dL_law_1244 rfl ?_
  refine z_iconst (M := (M_law nm)) dL_law_1246 ?_
  refine z_iadd (M := (M_law nm)) dL_law_1247 ?_
  obtain ⟨hi_11, H⟩ := ck_e H
  obtain ⟨a_10, a_10_e, H⟩ := lt_e H
  refine z_sald (M := (M_law nm)) hx dL_law_1248 rfl rfl hi_11 a_10_e.symm ?_
  obtain ⟨⟨x_14, σ_13⟩, hc_12, H⟩ := bd_e H
  refine z_callV (M := (M_law nm)) (M' := M_X12_plan) (as := [vi a_8, vi a_10]) (rest := []) rfl rfl dL_law_1249 m_X12_plan t_3106 t_3107 t_3108 (c_X12_plan hl  hc_12) rfl rfl ly_277 rfl (Nat.le_of_ble_eq_true rfl) (Nat.le_of_ble_eq_true rfl) (by omega) (by omega) ?_
  refine z_st (st' := [vi x_14]) rfl ?_
  refine z_istore (M := (M_law nm)) (lv' := [some (vr 0), some (vr 32), some (vr 277), some (vr 359), some (vi i_0), some (vi x_7), some (vi x_14), none]) dL_law_1252 (Nat.le_of_ble_eq_true rfl) rfl rfl ?_
  refine z_goto (M := (M_law nm)) (tgt := 1606) dL_law_1254 (by decide) ?_
  refine z_le (lv' := [some (vr 0), some (vr 32), some (vr 277), some (vr 359), some (vi i_0), none, none, none]) ⟨Or.inr rfl, Or.inr rfl, Or.inr rfl, Or.inr rfl, Or.inr rfl, Or.inl rfl, Or.inl rfl, Or.inl rfl, trivial⟩ ?_
  cases H
  exact z_wide (by omega) (by omega) J
end LCAA
