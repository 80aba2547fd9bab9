section LCAB
variable {l : Launch} {E : EE}
theorem s_case17 (hl : l.stackTraces = false) {nm : String} {post : Outc → SG → Prop} {σ σ' : SG} {xs : Nat → Int32} {L : Nat} (hx : E.2.2.2.2 0 = some (L, xs)) {i_0 : Int} {cu su : Nat} (hcu : cu + 16 ≤ 601024) (hsu : su + 96 ≤ 7293000) (H : fS_17 σ xs L i_0 = some (true, σ')) (J : YY l E (M_law nm) 1312 601024 7293000 post 2449 [some (vr 0), some (vr 32), some (vr 277), some (vr 359), some (vi i_0), none, none, none] [] σ' (cu + 16) (su + 96)) : YY l E (M_law nm) 1312 601024 7293000 post 1278 [some (vr 0), some (vr 32), some (vr 277), some (vr 359), some (vi i_0), none, none, none] [] σ cu su := by
  unfold fS_17 at H
  refine z_aload_n (M := (M_law nm)) dL_law_1278 rfl ?_
  refine z_aload_n (M := (M_law nm)) dL_law_1279 rfl ?_
  refine z_iload (M := (M_law nm)) dL_law_1280 rfl ?_
  refine z_iconst (M := (M_law nm)) dL_law_1282 ?_
  refine z_iadd (M := (M_law nm)) dL_law_1283 ?_
  obtain ⟨hi_2, H⟩ := ck_e H
  obtain ⟨a_1, a_1_e, H⟩ := lt_e H
  refine z_sald (M := (M_law nm)) hx dL_law_1284 rfl rfl hi_2 a_1_e.symm ?_
  refine z_aload_n (M := (M_law nm)) dL_law_1285 rfl ?_
  refine z_iload (M := (M_law nm)) dL_law_1286 rfl ?_
  refine z_iconst (M := (M_law nm)) dL_law_1288 ?_
  refine z_iadd (M := (M_law nm)) dL_law_1289 ?_
  obtain ⟨hi_4, H⟩ := ck_e H
  obtain ⟨a_3, a_3_e, H⟩ := lt_e H
  refine z_sald (M := (M_law nm)) hx dL_law_1290 rfl rfl hi_4 a_3_e.symm ?_
  refine z_aload_n (M := (M_law nm)) dL_law_1291 rfl ?_
  refine z_iload (M := (M_law nm)) dL_law_1292 rfl ?_
  refine z_iconst (M := (M_law nm)) dL_law_1294 ?_
  refine z_iadd (M := (M_law nm)) dL_law_1295 ?_
  obtain ⟨hi_6, H⟩ := ck_e H
  obtain ⟨a_5, a_5_e, H⟩ := lt_e H
  refine z_sald (M := (M_law nm)) hx dL_law_1296 rfl rfl hi_6 a_5_e.symm ?_
  refine z_aload_n (M := (M_law nm)) dL_law_1297 rfl ?_
  obtain ⟨⟨x_9, σ_8⟩, hc_7, H⟩ := bd_e H
  refine z_callSW (M := (M_law nm)) (M' := M_L_locate) (as := [vr 32, vi a_1, vi a_3, vi a_5, vr 359]) (rest := []) rfl rfl dL_law_1298 m_L_locate t_2066 t_2067 (c_L_locate hl hc_7) rfl rfl (Nat.le_of_ble_eq_true rfl) (Nat.le_of_ble_eq_true rfl) (by omega) (by omega) ?_
  refine z_st (st' := [vi x_9]) rfl ?_
  refine z_istore (M := (M_law nm)) (lv' := [some (vr 0), some (vr 32), some (vr 277), some (vr 359), some (vi i_0), some (vi x_9), none, none]) dL_law_1301 (Nat.le_of_ble_eq_true rfl) rfl rfl ?_
  refine z_aload_n (M := (M_law nm)) dL_law_1303 rfl ?_
  refine z_aload_n (M := (M_law nm)) dL_law_1304 rfl ?_
  refine z_iload (M := (M_law nm)) dL_law_1305 rfl ?_
  refine z_iconst (M := (M_law nm)) dL_law_1307 ?_
  refine z_iadd (M := (M_law nm)) dL_law_1308 ?_
  obtain ⟨hi_11, H⟩ := ck_e H
  obtain ⟨a_10, a_10_e, H⟩ := lt_e H
  refine z_sald (M := (M_law nm)) hx dL_law_1309 rfl rfl hi_11 a_10_e.symm ?_
  refine z_aload_n (M := (M_law nm)) dL_law_1310 rfl ?_
  refine z_iload (M := (M_law nm)) dL_law_1311 rfl ?_
  refine z_iconst (M := (M_law nm)) dL_law_1313 ?_
  refine z_iadd (M := (M_law nm)) dL_law_1314 ?_
  obtain ⟨hi_13, H⟩ := ck_e H
  obtain ⟨a_12, a_12_e, H⟩ := lt_e H
  refine z_sald (M := (M_law nm)) hx dL_law_1315 rfl rfl hi_13 a_12_e.symm ?_
  refine z_aload_n (M := (M_law nm)) dL_law_1316 rfl ?_
  refine z_iload (M := (M_law nm)) dL_law_1317 rfl ?_
  refine z_iconst (M := (M_law nm)) dL_law_1319 ?_
  refine z_iadd (M := (M_law nm)) dL_law_1320 ?_
  obtain ⟨hi_15, H⟩ := ck_e H
  obtain ⟨a_14, a_14_e, H⟩ := lt_e H
  refine z_sald (M := (M_law nm)) hx dL_law_1321 rfl rfl hi_15 a_14_e.symm ?_
  obtain ⟨⟨x_18, σ_17⟩, hc_16, H⟩ := bd_e H
  refine z_callV (M := (M_law nm)) (M' := M_X12_locate) (as := [vi a_10, vi a_12, vi a_14]) (rest := []) rfl rfl dL_law_1322 m_X12_locate t_3613 t_3614 t_3615 (c_X12_locate hl  hc_16) rfl rfl ly_277 rfl (Nat.le_of_ble_eq_true rfl) (Nat.le_of_ble_eq_true rfl) (by omega) (by omega) ?_
  refine z_st (st' := [vi x_18]) rfl ?_
  refine z_istore (M := (M_law nm)) (lv' := [some (vr 0), some (vr 32), some (vr 277), some (vr 359), some (vi i_0), some (vi x_9), some (vi x_18), none]) dL_law_1325 (Nat.le_of_ble_eq_true rfl) rfl rfl ?_
  refine z_aload_n (M := (M_law nm)) dL_law_1327 rfl ?_
  refine z_callV (M := (M_law nm)) (M' := M_X12_thrown) (as := []) (rest := []) rfl rfl dL_law_1328 m_X12_thrown t_2797 t_2798 t_2799 (c_X12_thrown hl  rfl) rfl rfl ly_277 rfl (Nat.le_of_ble_eq_true rfl) (Nat.le_of_ble_eq_true rfl) (by omega) (by omega) ?_
  refine z_st (st' := [vi (fR_thrown σ_17)]) rfl ?_
  refine z_iload (M := (M_law nm)) dL_law_1331 rfl ?_
  rcases if_e H with ⟨h_19, H⟩ | ⟨h_19, H⟩
  · refine z_icmp_eq_f (M := (M_law nm)) (tgt := 1338) dL_law_1333 (by decide) rfl rfl h_19 ?_
    refine z_zconst (M := (M_law nm)) (b := false) dL_law_1336 rfl ?_
    cases H
  · refine z_icmp_eq_t (M := (M_law nm)) (tgt := 1338) dL_law_1333 (by decide) rfl rfl (Decidable.not_not.mp h_19) ?_
    refine z_iload (M := (M_law nm)) dL_law_1338 rfl ?_
    rcases if_e H with ⟨h_27, H⟩ | ⟨h_27, H⟩
    · refine z_if_ne_f (M := (M_law nm)) (tgt := 1355) dL_law_1340 (by decide) rfl h_27 ?_
      refine z_aload_n (M := (M_law nm)) dL_law_1343 rfl ?_
      refine z_iconst (M := (M_law nm)) dL_law_1344 ?_
      obtain ⟨x_28, x_28_e, hi_29, H⟩ := rd_e H
      refine z_lald (M := (M_law nm)) dL_law_1345 ly_359 rfl (by decide +kernel) rfl hi_29 x_28_e ?_
      refine z_iload (M := (M_law nm)) dL_law_1346 rfl ?_
      refine z_i2l (M := (M_law nm)) dL_law_1348 ?_
      refine z_lcmp (M := (M_law nm)) dL_law_1349 ?_
      rcases if_e H with ⟨h_30, H⟩ | ⟨h_30, H⟩
      · refine z_lif_eq_f (M := (M_law nm)) (tgt := 1355) dL_law_1350 (by decide) rfl rfl h_30 ?_
        refine z_zconst (M := (M_law nm)) (b := false) dL_law_1353 rfl ?_
        cases H
      · refine z_lif_eq_t (M := (M_law nm)) (tgt := 1355) dL_law_1350 (by decide) rfl rfl (Decidable.not_not.mp h_30) ?_
        refine z_goto (M := (M_law nm)) (tgt := 2449) dL_law_1355 (by decide) ?_
        refine z_le (lv' := [some (vr 0), some (vr 32), some (vr 277), some (vr 359), some (vi i_0), none, none, none]) ⟨Or.inr rfl, Or.inr rfl, Or.inr rfl, Or.inr rfl, Or.inr rfl, Or.inl rfl, Or.inl rfl, Or.inl rfl, trivial⟩ ?_
        cases H
        exact z_wide (by omega) (by omega) J
    · refine z_if_ne_t (M := (M_law nm)) (tgt := 1355) dL_law_1340 (by decide) rfl h_27 ?_
      refine z_goto (M := (M_law nm)) (tgt := 2449) dL_law_1355 (by decide) ?_
      refine z_le (lv' := [some (vr 0), some (vr 32), some (vr 277), some (vr 359), some (vi i_0), none, none, none]) ⟨Or.inr rfl, Or.inr rfl, Or.inr rfl, Or.inr rfl, Or.inr rfl, Or.inl rfl, Or.inl rfl, Or.inl rfl, trivial⟩ ?_
      cases H
      exact z_wide (by omega) (by omega) J
theorem s_case18 (hl : l.stackTraces = false) {nm : String} {post : Outc → SG → Prop} {σ σ' : SG} {xs : Nat → Int32} {L : Nat} (hx : E.2.2.2.2 0 = some (L, xs)) {i_0 : Int} {cu su : Nat} (hcu : cu + 16 ≤ 601024) (hsu : su + 96 ≤ 7293000) (H : fS_18 σ xs L i_0 = some (true, σ')) (J : YY l E (M_law nm) 1312 601024 7293000 post 2449 [some (vr 0), some (vr 32), some (vr 277), some (vr 359), some (vi i_0), none, none, none] [] σ' (cu + 16) (su + 96)) : YY l E (M_law nm) 1312 601024 7293000 post 1358 [some (vr 0), some (vr 32), some (vr 277), some (vr 359), some (vi i_0), none, none, none] [] σ cu su := by
  unfold fS_18 at H
  refine z_aload_n (M := (M_law nm)) dL_law_1358 rfl ?_
  refine z_aload_n (M := (M_law nm)) dL_law_1359 rfl ?_
  refine z_iload (M := (M_law nm)) dL_law_1360 rfl ?_
  refine z_iconst (M := (M_law nm)) dL_law_1362 ?_
  refine z_iadd (M := (M_law nm)) dL_law_1363 ?_
  obtain ⟨hi_2, H⟩ := ck_e H
  obtain ⟨a_1, a_1_e, H⟩ := lt_e H
  refine z_sald (M := (M_law nm)) hx dL_law_1364 rfl rfl hi_2 a_1_e.symm ?_
  refine z_aload_n (M := (M_law nm)) dL_law_1365 rfl ?_
  refine z_iload (M := (M_law nm)) dL_law_1366 rfl ?_
  refine z_iconst (M := (M_law nm)) dL_law_1368 ?_
  refine z_iadd (M := (M_law nm)) dL_law_1369 ?_
  obtain ⟨hi_4, H⟩ := ck_e H
  obtain ⟨a_3, a_3_e, H⟩ := lt_e H
  refine z_sald (M := (M_law nm)) hx dL_law_1370 rfl rfl hi_4 a_3_e.symm ?_
  refine z_aload_n (M := (M_law nm)) dL_law_1371 rfl ?_
  obtain ⟨⟨x_7, σ_6⟩, hc_5, H⟩ := bd_e H
  refine z_callSW (M := (M_law nm)) (M' := M_L_hull) (as := [vr 32, vi a_1, vi a_3, vr 359]) (rest := []) rfl rfl dL_law_1372 m_L_hull t_2076 t_2077 (c_L_hull hl hc_5) rfl rfl (Nat.le_of_ble_eq_true rfl) (Nat.le_of_ble_eq_true rfl) (by omega) (by omega) ?_
  refine z_st (st' := [vi x_7]) rfl ?_
  refine z_istore (M := (M_law nm)) (lv' := [some (vr 0), some (vr 32), some (vr 277), some (vr 359), some (vi i_0), some (vi x_7), none, none]) dL_law_1375 (Nat.le_of_ble_eq_true rfl) rfl rfl ?_
  refine z_aload_n (M := (M_law nm)) dL_law_1377 rfl ?_
  refine z_aload_n (M := (M_law nm)) dL_law_1378 rfl ?_
  refine z_iload (M := (M_law nm)) dL_law_1379 rfl ?_
  refine z_iconst (M := (M_law nm)) dL_law_1381 ?_
  refine z_iadd (M := (M_law nm)) dL_law_1382 ?_
  obtain ⟨hi_9, H⟩ := ck_e H
  obtain ⟨a_8, a_8_e, H⟩ := lt_e H
  refine z_sald (M := (M_law nm)) hx dL_law_1383 rfl rfl hi_9 a_8_e.symm ?_
  refine z_aload_n (M := (M_law nm)) dL_law_1384 rfl ?_
  refine z_iload (M := (M_law nm)) dL_law_1385 rfl ?_
  refine z_iconst (M := (M_law nm)) dL_law_1387 ?_
  refine z_iadd (M := (M_law nm)) dL_law_1388 ?_
  obtain ⟨hi_11, H⟩ := ck_e H
  obtain ⟨a_10, a_10_e, H⟩ := lt_e H
  refine z_sald (M := (M_law nm)) hx dL_law_1389 rfl rfl hi_11 a_10_e.symm ?_
  obtain ⟨⟨x_14, σ_13⟩, hc_12, H⟩ := bd_e H
  refine z_callV (M := (M_law nm)) (M' := M_X12_hull) (as := [vi a_8, vi a_10]) (rest := []) rfl rfl dL_law_1390 m_X12_hull t_3617 t_3618 t_3619 (c_X12_hull hl  hc_12) rfl rfl ly_277 rfl (Nat.le_of_ble_eq_true rfl) (Nat.le_of_ble_eq_true rfl) (by omega) (by omega) ?_
  refine z_st (st' := [vi x_14]) rfl ?_
  refine z_istore (M := (M_law nm)) (lv' := [some (vr 0), some (vr 32), some (vr 277), some (vr 359), some (vi i_0), some (vi x_7), some (vi x_14), none]) dL_law_1393 (Nat.le_of_ble_eq_true rfl) rfl rfl ?_
  refine z_aload_n (M := (M_law nm)) dL_law_1395 rfl ?_
  refine z_callV (M := (M_law nm)) (M' := M_X12_thrown) (as := []) (rest := []) rfl rfl dL_law_1396 m_X12_thrown t_2797 t_2798 t_2799 (c_X12_thrown hl  rfl) rfl rfl ly_277 rfl (Nat.le_of_ble_eq_true rfl) (Nat.le_of_ble_eq_true rfl) (by omega) (by omega) ?_
  refine z_st (st' := [vi (fR_thrown σ_13)]) rfl ?_
  refine z_iload (M := (M_law nm)) dL_law_1399 rfl ?_
  rcases if_e H with ⟨h_15, H⟩ | ⟨h_15, H⟩
  · refine z_icmp_eq_f (M := (M_law nm)) (tgt := 1406) dL_law_1401 (by decide) rfl rfl h_15 ?_
    refine z_zconst (M := (M_law nm)) (b := false) dL_law_1404 rfl ?_
    cases H
  · refine z_icmp_eq_t (M := (M_law nm)) (tgt := 1406) dL_law_1401 (by decide) rfl rfl (Decidable.not_not.mp h_15) ?_
    refine z_iload (M := (M_law nm)) dL_law_1406 rfl ?_
    rcases if_e H with ⟨h_23, H⟩ | ⟨h_23, H⟩
    · refine z_if_ne_f (M := (M_law nm)) (tgt := 1423) dL_law_1408 (by decide) rfl h_23 ?_
      refine z_aload_n (M := (M_law nm)) dL_law_1411 rfl ?_
      refine z_iconst (M := (M_law nm)) dL_law_1412 ?_
      obtain ⟨x_24, x_24_e, hi_25, H⟩ := rd_e H
      refine z_lald (M := (M_law nm)) dL_law_1413 ly_359 rfl (by decide +kernel) rfl hi_25 x_24_e ?_
      refine z_iload (M := (M_law nm)) dL_law_1414 rfl ?_
      refine z_i2l (M := (M_law nm)) dL_law_1416 ?_
      refine z_lcmp (M := (M_law nm)) dL_law_1417 ?_
      rcases if_e H with ⟨h_26, H⟩ | ⟨h_26, H⟩
      · refine z_lif_eq_f (M := (M_law nm)) (tgt := 1423) dL_law_1418 (by decide) rfl rfl h_26 ?_
        refine z_zconst (M := (M_law nm)) (b := false) dL_law_1421 rfl ?_
        cases H
      · refine z_lif_eq_t (M := (M_law nm)) (tgt := 1423) dL_law_1418 (by decide) rfl rfl (Decidable.not_not.mp h_26) ?_
        refine z_goto (M := (M_law nm)) (tgt := 2449) dL_law_1423 (by decide) ?_
        refine z_le (lv' := [some (vr 0), some (vr 32), some (vr 277), some (vr 359), some (vi i_0), none, none, none]) ⟨Or.inr rfl, Or.inr rfl, Or.inr rfl, Or.inr rfl, Or.inr rfl, Or.inl rfl, Or.inl rfl, Or.inl rfl, trivial⟩ ?_
        cases H
        exact z_wide (by omega) (by omega) J
    · refine z_if_ne_t (M := (M_law nm)) (tgt := 1423) dL_law_1408 (by decide) rfl h_23 ?_
      refine z_goto (M := (M_law nm)) (tgt := 2449) dL_law_1423 (by decide) ?_
      refine z_le (lv' := [some (vr 0), some (vr 32), some (vr 277), some (vr 359), some (vi i_0), none, none, none]) ⟨Or.inr rfl, Or.inr rfl, Or.inr rfl, Or.inr rfl, Or.inr rfl, Or.inl rfl, Or.inl rfl, Or.inl rfl, trivial⟩ ?_
      cases H
      exact z_wide (by omega) (by omega) J
theorem s_case19 (hl : l.stackTraces = false) {nm : String} {post : Outc → SG → Prop} {σ σ' : SG} {xs : Nat → Int32} {L : Nat} (hx : E.2.2.2.2 0 = some (L, xs)) {i_0 : Int} {cu su : Nat} (hcu : cu + 16 ≤ 601024) (hsu : su + 96 ≤ 7293000) (H : fS_19 σ xs L i_0 = some (true, σ')) (J : YY l E (M_law nm) 1312 601024 7293000 post 2449 [some (vr 0), some (vr 32), some (vr 277), some (vr 359), some (vi i_0), none, none, none] [] σ' (cu + 16) (su + 96)) : YY l E (M_law nm) 1312 601024 7293000 post 1426 [some (vr 0), some (vr 32), some (vr 277), some (vr 359), some (vi i_0), none, none, none] [] σ cu su := by
  unfold fS_19 at H
  refine z_aload_n (M := (M_law nm)) dL_law_1426 rfl ?_
  refine z_aload_n (M := (M_law nm)) dL_law_1427 rfl ?_
  refine z_iload (M := (M_law nm)) dL_law_1428 rfl ?_
  refine z_iconst (M := (M_law nm)) dL_law_1430 ?_
  refine z_iadd (M := (M_law nm)) dL_law_1431 ?_
  obtain ⟨hi_2, H⟩ := ck_e H
  obtain ⟨a_1, a_1_e, H⟩ := lt_e H
  refine z_sald (M := (M_law nm)) hx dL_law_1432 rfl rfl hi_2 a_1_e.symm ?_
  refine z_aload_n (M := (M_law nm)) dL_law_1433 rfl ?_
  refine z_iload (M := (M_law nm)) dL_law_1434 rfl ?_
  refine z_iconst (M := (M_law nm)) dL_law_1436 ?_
  refine z_iadd (M := (M_law nm)) dL_law_1437 ?_
  obtain ⟨hi_4, H⟩ := ck_e H
  obtain ⟨a_3, a_3_e, H⟩ := lt_e H
  refine z_sald (M := (M_law nm)) hx dL_law_1438 rfl rfl hi_4 a_3_e.symm ?_
  refine z_aload_n (M := (M_law nm)) dL_law_1439 rfl ?_
  obtain ⟨⟨x_7, σ_6⟩, hc_5, H⟩ := bd_e H
  refine z_callSW (M := (M_law nm)) (M' := M_L_triangles) (as := [vr 32, vi a_1, vi a_3, vr 359]) (rest := []) rfl rfl dL_law_1440 m_L_triangles t_2122 t_2123 (c_L_triangles hl hc_5) rfl rfl (Nat.le_of_ble_eq_true rfl) (Nat.le_of_ble_eq_true rfl) (by omega) (by omega) ?_
  refine z_st (st' := [vi x_7]) rfl ?_
  refine z_istore (M := (M_law nm)) (lv' := [some (vr 0), some (vr 32), some (vr 277), some (vr 359), some (vi i_0), some (vi x_7), none, none]) dL_law_1443 (Nat.le_of_ble_eq_true rfl) rfl rfl ?_
  refine z_aload_n (M := (M_law nm)) dL_law_1445 rfl ?_
  refine z_aload_n (M := (M_law nm)) dL_law_1446 rfl ?_
  refine z_iload (M := (M_law nm)) dL_law_1447 rfl ?_
  refine z_iconst (M := (M_law nm)) dL_law_1449 ?_
  refine z_iadd (M := (M_law nm)) dL_law_1450 ?_
  obtain ⟨hi_9, H⟩ := ck_e H
  obtain ⟨a_8, a_8_e, H⟩ := lt_e H
  refine z_sald (M := (M_law nm)) hx dL_law_1451 rfl rfl hi_9 a_8_e.symm ?_
  refine z_aload_n (M := (M_law nm)) dL_law_1452 rfl ?_
  refine z_iload (M := (M_law nm)) dL_law_1453 rfl ?_
  refine z_iconst (M := (M_law nm)) dL_law_1455 ?_
  refine z_iadd (M := (M_law nm)) dL_law_1456 ?_
  obtain ⟨hi_11, H⟩ := ck_e H
  obtain ⟨a_10, a_10_e, H⟩ := lt_e H
  refine z_sald (M := (M_law nm)) hx dL_law_1457 rfl rfl hi_11 a_10_e.symm ?_
  obtain ⟨⟨x_14, σ_13⟩, hc_12, H⟩ := bd_e H
  refine z_callV (M := (M_law nm)) (M' := M_X12_triangles) (as := [vi a_8, vi a_10]) (rest := []) rfl rfl dL_law_1458 m_X12_triangles t_3649 t_3650 t_3651 (c_X12_triangles hl  hc_12) rfl rfl ly_277 rfl (Nat.le_of_ble_eq_true rfl) (Nat.le_of_ble_eq_true rfl) (by omega) (by omega) ?_
  refine z_st (st' := [vi x_14]) rfl ?_
  refine z_istore (M := (M_law nm)) (lv' := [some (vr 0), some (vr 32), some (vr 277), some (vr 359), some (vi i_0), some (vi x_7), some (vi x_14), none]) dL_law_1461 (Nat.le_of_ble_eq_true rfl) rfl rfl ?_
  refine z_aload_n (M := (M_law nm)) dL_law_1463 rfl ?_
  refine z_callV (M := (M_law nm)) (M' := M_X12_thrown) (as := []) (rest := []) rfl rfl dL_law_1464 m_X12_thrown t_2797 t_2798 t_2799 (c_X12_thrown hl  rfl) rfl rfl ly_277 rfl (Nat.le_of_ble_eq_true rfl) (Nat.le_of_ble_eq_true rfl) (by omega) (by omega) ?_
  refine z_st (st' := [vi (fR_thrown σ_13)]) rfl ?_
  refine z_iload (M := (M_law nm)) dL_law_1467 rfl ?_
  rcases if_e H with ⟨h_15, H⟩ | ⟨h_15, H⟩
  · refine z_icmp_eq_f (M := (M_law nm)) (tgt := 1474) dL_law_1469 (by decide) rfl rfl h_15 ?_
    refine z_zconst (M := (M_law nm)) (b := false) dL_law_1472 rfl ?_
    cases H
  · refine z_icmp_eq_t (M := (M_law nm)) (tgt := 1474) dL_law_1469 (by decide) rfl rfl (Decidable.not_not.mp h_15) ?_
    refine z_iload (M := (M_law nm)) dL_law_1474 rfl ?_
    rcases if_e H with ⟨h_23, H⟩ | ⟨h_23, H⟩
    · refine z_if_ne_f (M := (M_law nm)) (tgt := 1491) dL_law_1476 (by decide) rfl h_23 ?_
      refine z_aload_n (M := (M_law nm)) dL_law_1479 rfl ?_
      refine z_iconst (M := (M_law nm)) dL_law_1480 ?_
      obtain ⟨x_24, x_24_e, hi_25, H⟩ := rd_e H
      refine z_lald (M := (M_law nm)) dL_law_1481 ly_359 rfl (by decide +kernel) rfl hi_25 x_24_e ?_
      refine z_iload (M := (M_law nm)) dL_law_1482 rfl ?_
      refine z_i2l (M := (M_law nm)) dL_law_1484 ?_
      refine z_lcmp (M := (M_law nm)) dL_law_1485 ?_
      rcases if_e H with ⟨h_26, H⟩ | ⟨h_26, H⟩
      · refine z_lif_eq_f (M := (M_law nm)) (tgt := 1491) dL_law_1486 (by decide) rfl rfl h_26 ?_
        refine z_zconst (M := (M_law nm)) (b := false) dL_law_1489 rfl ?_
        cases H
      · refine z_lif_eq_t (M := (M_law nm)) (tgt := 1491) dL_law_1486 (by decide) rfl rfl (Decidable.not_not.mp h_26) ?_
        refine z_goto (M := (M_law nm)) (tgt := 2449) dL_law_1491 (by decide) ?_
        refine z_le (lv' := [some (vr 0), some (vr 32), some (vr 277), some (vr 359), some (vi i_0), none, none, none]) ⟨Or.inr rfl, Or.inr rfl, Or.inr rfl, Or.inr rfl, Or.inr rfl, Or.inl rfl, Or.inl rfl, Or.inl rfl, trivial⟩ ?_
        cases H
        exact z_wide (by omega) (by omega) J
    · refine z_if_ne_t (M := (M_law nm)) (tgt := 1491) dL_law_1476 (by decide) rfl h_23 ?_
      refine z_goto (M := (M_law nm)) (tgt := 2449) dL_law_1491 (by decide) ?_
      refine z_le (lv' := [some (vr 0), some (vr 32), some (vr 277), some (vr 359), some (vi i_0), none, none, none]) ⟨Or.inr rfl, Or.inr rfl, Or.inr rfl, Or.inr rfl, Or.inr rfl, Or.inl rfl, Or.inl rfl, Or.inl rfl, trivial⟩ ?_
      cases H
      exact z_wide (by omega) (by omega) J
theorem s_case20 (hl : l.stackTraces = false) {nm : String} {post : Outc → SG → Prop} {σ σ' : SG} {xs : Nat → Int32} {L : Nat} (hx : E.2.2.2.2 0 = some (L, xs)) {i_0 : Int} {cu su : Nat} (hcu : cu + 16 ≤ 601024) (hsu : su + 96 ≤ 7293000) (H : fS_20 σ xs L i_0 = some (true, σ')) (J : YY l E (M_law nm) 1312 601024 7293000 post 2449 [some (vr 0), some (vr 32), some (vr 277), some (vr 359), some (vi i_0), none, none, none] [] σ' (cu + 16) (su + 96)) : YY l E (M_law nm) 1312 601024 7293000 post 1494 [some (vr 0), some (vr 32), some (vr 277), some (vr 359), some (vi i_0), none, none, none] [] σ cu su := by
  unfold fS_20 at H
  refine z_aload_n (M := (M_law nm)) dL_law_1494 rfl ?_
  refine z_aload_n (M := (M_law nm)) dL_law_1495 rfl ?_
  refine z_iload (M := (M_law nm)) dL_law_1496 rfl ?_
  refine z_iconst (M := (M_law nm)) dL_law_1498 ?_
  refine z_iadd (M := (M_law nm)) dL_law_1499 ?_
  obtain ⟨hi_2, H⟩ := ck_e H
  obtain ⟨a_1, a_1_e, H⟩ := lt_e H
  refine z_sald (M := (M_law nm)) hx dL_law_1500 rfl rfl hi_2 a_1_e.symm ?_
  refine z_aload_n (M := (M_law nm)) dL_law_1501 rfl ?_
  refine z_iload (M := (M_law nm)) dL_law_1502 rfl ?_
  refine z_iconst (M := (M_law nm)) dL_law_1504 ?_
  refine z_iadd (M := (M_law nm)) dL_law_1505 ?_
  obtain ⟨hi_4, H⟩ := ck_e H
  obtain ⟨a_3, a_3_e, H⟩ := lt_e H
  refine z_sald (M := (M_law nm)) hx dL_law_1506 rfl rfl hi_4 a_3_e.symm ?_
  refine z_aload_n (M := (M_law nm)) dL_law_1507 rfl ?_
  refine z_iload (M := (M_law nm)) dL_law_1508 rfl ?_
  refine z_iconst (M := (M_law nm)) dL_law_1510 ?_
  refine z_iadd (M := (M_law nm)) dL_law_1511 ?_
  obtain ⟨hi_6, H⟩ := ck_e H
  obtain ⟨a_5, a_5_e, H⟩ := lt_e H
  refine z_sald (M := (M_law nm)) hx dL_law_1512 rfl rfl hi_6 a_5_e.symm ?_
  refine z_aload_n (M := (M_law nm)) dL_law_1513 rfl ?_
  obtain ⟨⟨x_9, σ_8⟩, hc_7, H⟩ := bd_e H
  refine z_callSW (M := (M_law nm)) (M' := M_L_simplify) (as := [vr 32, vi a_1, vi a_3, vi a_5, vr 359]) (rest := []) rfl rfl dL_law_1514 m_L_simplify t_2184 t_2185 (c_L_simplify hl hc_7) rfl rfl (Nat.le_of_ble_eq_true rfl) (Nat.le_of_ble_eq_true rfl) (by omega) (by omega) ?_
  refine z_st (st' := [vi x_9]) rfl ?_
  refine z_istore (M := (M_law nm)) (lv' := [some (vr 0), some (vr 32), some (vr 277), some (vr 359), some (vi i_0), some (vi x_9), none, none]) dL_law_1517 (Nat.le_of_ble_eq_true rfl) rfl rfl ?_
  refine z_aload_n (M := (M_law nm)) dL_law_1519 rfl ?_
  refine z_aload_n (M := (M_law nm)) dL_law_1520 rfl ?_
  refine z_iload (M := (M_law nm)) dL_law_1521 rfl ?_
  refine z_iconst (M := (M_law nm)) dL_law_1523 ?_
  refine z_iadd (M := (M_law nm)) dL_law_1524 ?_
  obtain ⟨hi_11, H⟩ := ck_e H
  obtain ⟨a_10, a_10_e, H⟩ := lt_e H
  refine z_sald (M := (M_law nm)) hx dL_law_1525 rfl rfl hi_11 a_10_e.symm ?_
  refine z_aload_n (M := (M_law nm)) dL_law_1526 rfl ?_
  refine z_iload (M := (M_law nm)) dL_law_1527 rfl ?_
  refine z_iconst (M := (M_law nm)) dL_law_1529 ?_
  refine z_iadd (M := (M_law nm)) dL_law_1530 ?_
  obtain ⟨hi_13, H⟩ := ck_e H
  obtain ⟨a_12, a_12_e, H⟩ := lt_e H
  refine z_sald (M := (M_law nm)) hx dL_law_1531 rfl rfl hi_13 a_12_e.symm ?_
  refine z_aload_n (M := (M_law nm)) dL_law_1532 rfl ?_
  refine z_iload (M := (M_law nm)) dL_law_1533 rfl ?_
  refine z_iconst (M := (M_law nm)) dL_law_1535 ?_
  refine z_iadd (M := (M_law nm)) dL_law_1536 ?_
  obtain ⟨hi_15, H⟩ := ck_e H
  obtain ⟨a_14, a_14_e, H⟩ := lt_e H
  refine z_sald (M := (M_law nm)) hx dL_law_1537 rfl rfl hi_15 a_14_e.symm ?_
  obtain ⟨⟨x_18, σ_17⟩, hc_16, H⟩ := bd_e H
  refine z_callV (M := (M_law nm)) (M' := M_X12_simplify) (as := [vi a_10, vi a_12, vi a_14]) (rest := []) rfl rfl dL_law_1538 m_X12_simplify t_3685 t_3686 t_3687 (c_X12_simplify hl  hc_16) rfl rfl ly_277 rfl (Nat.le_of_ble_eq_true rfl) (Nat.le_of_ble_eq_true rfl) (by omega) (by omega) ?_
  refine z_st (st' := [vi x_18]) rfl ?_
  refine z_istore (M := (M_law nm)) (lv' := [some (vr 0), some (vr 32), some (vr 277), some (vr 359), some (vi i_0), some (vi x_9), some (vi x_18), none]) dL_law_1541 (Nat.le_of_ble_eq_true rfl) rfl rfl ?_
  refine z_aload_n (M := (M_law nm)) dL_law_1543 rfl ?_
  refine z_callV (M := (M_law nm)) (M' := M_X12_thrown) (as := []) (rest := []) rfl rfl dL_law_1544 m_X12_thrown t_2797 t_2798 t_2799 (c_X12_thrown hl  rfl) rfl rfl ly_277 rfl (Nat.le_of_ble_eq_true rfl) (Nat.le_of_ble_eq_true rfl) (by omega) (by omega) ?_
  refine z_st (st' := [vi (fR_thrown σ_17)]) rfl ?_
  refine z_iload (M := (M_law nm)) dL_law_1547 rfl ?_
  rcases if_e H with ⟨h_19, H⟩ | ⟨h_19, H⟩
  · refine z_icmp_eq_f (M := (M_law nm)) (tgt := 1554) dL_law_1549 (by decide) rfl rfl h_19 ?_
    refine z_zconst (M := (M_law nm)) (b := false) dL_law_1552 rfl ?_
    cases H
  · refine z_icmp_eq_t (M := (M_law nm)) (tgt := 1554) dL_law_1549 (by decide) rfl rfl (Decidable.not_not.mp h_19) ?_
    refine z_iload (M := (M_law nm)) dL_law_1554 rfl ?_
    rcases if_e H with ⟨h_27, H⟩ | ⟨h_27, H⟩
    · refine z_if_ne_f (M := (M_law nm)) (tgt := 1571) dL_law_1556 (by decide) rfl h_27 ?_
      refine z_aload_n (M := (M_law nm)) dL_law_1559 rfl ?_
      refine z_iconst (M := (M_law nm)) dL_law_1560 ?_
      obtain ⟨x_28, x_28_e, hi_29, H⟩ := rd_e H
      refine z_lald (M := (M_law nm)) dL_law_1561 ly_359 rfl (by decide +kernel) rfl hi_29 x_28_e ?_
      refine z_iload (M := (M_law nm)) dL_law_1562 rfl ?_
      refine z_i2l (M := (M_law nm)) dL_law_1564 ?_
      refine z_lcmp (M := (M_law nm)) dL_law_1565 ?_
      rcases if_e H with ⟨h_30, H⟩ | ⟨h_30, H⟩
      · refine z_lif_eq_f (M := (M_law nm)) (tgt := 1571) dL_law_1566 (by decide) rfl rfl h_30 ?_
        refine z_zconst (M := (M_law nm)) (b := false) dL_law_1569 rfl ?_
        cases H
      · refine z_lif_eq_t (M := (M_law nm)) (tgt := 1571) dL_law_1566 (by decide) rfl rfl (Decidable.not_not.mp h_30) ?_
        refine z_goto (M := (M_law nm)) (tgt := 2449) dL_law_1571 (by decide) ?_
        refine z_le (lv' := [some (vr 0), some (vr 32), some (vr 277), some (vr 359), some (vi i_0), none, none, none]) ⟨Or.inr rfl, Or.inr rfl, Or.inr rfl, Or.inr rfl, Or.inr rfl, Or.inl rfl, Or.inl rfl, Or.inl rfl, trivial⟩ ?_
        cases H
        exact z_wide (by omega) (by omega) J
    · refine z_if_ne_t (M := (M_law nm)) (tgt := 1571) dL_law_1556 (by decide) rfl h_27 ?_
      refine z_goto (M := (M_law nm)) (tgt := 2449) dL_law_1571 (by decide) ?_
      refine z_le (lv' := [some (vr 0), some (vr 32), some (vr 277), some (vr 359), some (vi i_0), none, none, none]) ⟨Or.inr rfl, Or.inr rfl, Or.inr rfl, Or.inr rfl, Or.inr rfl, Or.inl rfl, Or.inl rfl, Or.inl rfl, trivial⟩ ?_
      cases H
      exact z_wide (by omega) (by omega) J
theorem s_case21 (hl : l.stackTraces = false) {nm : String} {post : Outc → SG → Prop} {σ σ' : SG} {xs : Nat → Int32} {L : Nat} (hx : E.2.2.2.2 0 = some (L, xs)) {i_0 : Int} {cu su : Nat} (hcu : cu + 16 ≤ 601024) (hsu : su + 96 ≤ 7293000) (H : fS_21 σ xs L i_0 = some (true, σ')) (J : YY l E (M_law nm) 1312 601024 7293000 post 2449 [some (vr 0), some (vr 32), some (vr 277), some (vr 359), some (vi i_0), none, none, none] [] σ' (cu + 16) (su + 96)) : YY l E (M_law nm) 1312 601024 7293000 post 1574 [some (vr 0), some (vr 32), some (vr 277), some (vr 359), some (vi i_0), none, none, none] [] σ cu su := by
  unfold fS_21 at H
  refine z_aload_n (M := (M_law nm)) dL_law_1574 rfl ?_
  refine z_aload_n (M := (M_law nm)) dL_law_1575 rfl ?_
  refine z_iload (M := (M_law nm)) dL_law_1576 rfl ?_
  refine z_iconst (M := (M_law nm)) dL_law_1578 ?_
  refine z_iadd (M := (M_law nm)) dL_law_1579 ?_
  obtain ⟨hi_2, H⟩ := ck_e H
  obtain ⟨a_1, a_1_e, H⟩ := lt_e H
  refine z_sald (M := (M_law nm)) hx dL_law_1580 rfl rfl hi_2 a_1_e.symm ?_
  refine z_aload_n (M := (M_law nm)) dL_law_1581 rfl ?_
  obtain ⟨⟨x_5, σ_4⟩, hc_3, H⟩ := bd_e H
  refine z_callSW (M := (M_law nm)) (M' := M_L_area) (as := [vr 32, vi a_1, vr 359]) (rest := []) rfl rfl dL_law_1582 m_L_area t_2217 t_2218 (c_L_area hl hc_3) rfl rfl (Nat.le_of_ble_eq_true rfl) (Nat.le_of_ble_eq_true rfl) (by omega) (by omega) ?_
  refine z_st (st' := [vi x_5]) rfl ?_
  refine z_istore (M := (M_law nm)) (lv' := [some (vr 0), some (vr 32), some (vr 277), some (vr 359), some (vi i_0), some (vi x_5), none, none]) dL_law_1585 (Nat.le_of_ble_eq_true rfl) rfl rfl ?_
  refine z_aload_n (M := (M_law nm)) dL_law_1587 rfl ?_
  refine z_aload_n (M := (M_law nm)) dL_law_1588 rfl ?_
  refine z_iload (M := (M_law nm)) dL_law_1589 rfl ?_
  refine z_iconst (M := (M_law nm)) dL_law_1591 ?_
  refine z_iadd (M := (M_law nm)) dL_law_1592 ?_
  obtain ⟨hi_7, H⟩ := ck_e H
  obtain ⟨a_6, a_6_e, H⟩ := lt_e H
  refine z_sald (M := (M_law nm)) hx dL_law_1593 rfl rfl hi_7 a_6_e.symm ?_
  obtain ⟨⟨x_10, σ_9⟩, hc_8, H⟩ := bd_e H
  refine z_callV (M := (M_law nm)) (M' := M_X12_area) (as := [vi a_6]) (rest := []) rfl rfl dL_law_1594 m_X12_area t_3342 t_3343 t_3344 (c_X12_area hl  hc_8) rfl rfl ly_277 rfl (Nat.le_of_ble_eq_true rfl) (Nat.le_of_ble_eq_true rfl) (by omega) (by omega) ?_
  refine z_st (st' := [vl x_10]) rfl ?_
  refine z_lstore (M := (M_law nm)) (lv' := [some (vr 0), some (vr 32), some (vr 277), some (vr 359), some (vi i_0), some (vi x_5), some (vl x_10), none]) dL_law_1597 (Nat.le_of_ble_eq_true rfl) rfl rfl ?_
  refine z_aload_n (M := (M_law nm)) dL_law_1599 rfl ?_
  refine z_callV (M := (M_law nm)) (M' := M_X12_thrown) (as := []) (rest := []) rfl rfl dL_law_1600 m_X12_thrown t_2797 t_2798 t_2799 (c_X12_thrown hl  rfl) rfl rfl ly_277 rfl (Nat.le_of_ble_eq_true rfl) (Nat.le_of_ble_eq_true rfl) (by omega) (by omega) ?_
  refine z_st (st' := [vi (fR_thrown σ_9)]) rfl ?_
  refine z_iload (M := (M_law nm)) dL_law_1603 rfl ?_
  rcases if_e H with ⟨h_11, H⟩ | ⟨h_11, H⟩
  · refine z_icmp_eq_f (M := (M_law nm)) (tgt := 1610) dL_law_1605 (by decide) rfl rfl h_11 ?_
    refine z_zconst (M := (M_law nm)) (b := false) dL_law_1608 rfl ?_
    cases H
  · refine z_icmp_eq_t (M := (M_law nm)) (tgt := 1610) dL_law_1605 (by decide) rfl rfl (Decidable.not_not.mp h_11) ?_
    refine z_iload (M := (M_law nm)) dL_law_1610 rfl ?_
    rcases if_e H with ⟨h_19, H⟩ | ⟨h_19, H⟩
    · refine z_if_ne_f (M := (M_law nm)) (tgt := 1626) dL_law_1612 (by decide) rfl h_19 ?_
      refine z_aload_n (M := (M_law nm)) dL_law_1615 rfl ?_
      refine z_iconst (M := (M_law nm)) dL_law_1616 ?_
      obtain ⟨x_20, x_20_e, hi_21, H⟩ := rd_e H
      refine z_lald (M := (M_law nm)) dL_law_1617 ly_359 rfl (by decide +kernel) rfl hi_21 x_20_e ?_
      refine z_lload (M := (M_law nm)) dL_law_1618 rfl ?_
      refine z_lcmp (M := (M_law nm)) dL_law_1620 ?_
      rcases if_e H with ⟨h_22, H⟩ | ⟨h_22, H⟩
      · refine z_lif_eq_f (M := (M_law nm)) (tgt := 1626) dL_law_1621 (by decide) rfl rfl h_22 ?_
        refine z_zconst (M := (M_law nm)) (b := false) dL_law_1624 rfl ?_
        cases H
      · refine z_lif_eq_t (M := (M_law nm)) (tgt := 1626) dL_law_1621 (by decide) rfl rfl (Decidable.not_not.mp h_22) ?_
        refine z_goto (M := (M_law nm)) (tgt := 2449) dL_law_1626 (by decide) ?_
        refine z_le (lv' := [some (vr 0), some (vr 32), some (vr 277), some (vr 359), some (vi i_0), none, none, none]) ⟨Or.inr rfl, Or.inr rfl, Or.inr rfl, Or.inr rfl, Or.inr rfl, Or.inl rfl, Or.inl rfl, Or.inl rfl, trivial⟩ ?_
        cases H
        exact z_wide (by omega) (by omega) J
    · refine z_if_ne_t (M := (M_law nm)) (tgt := 1626) dL_law_1612 (by decide) rfl h_19 ?_
      refine z_goto (M := (M_law nm)) (tgt := 2449) dL_law_1626 (by decide) ?_
      refine z_le (lv' := [some (vr 0), some (vr 32), some (vr 277), some (vr 359), some (vi i_0), none, none, none]) ⟨Or.inr rfl, Or.inr rfl, Or.inr rfl, Or.inr rfl, Or.inr rfl, Or.inl rfl, Or.inl rfl, Or.inl rfl, trivial⟩ ?_
      cases H
      exact z_wide (by omega) (by omega) J
theorem s_case22 (hl : l.stackTraces = false) {nm : String} {post : Outc → SG → Prop} {σ σ' : SG} {xs : Nat → Int32} {L : Nat} (hx : E.2.2.2.2 0 = some (L, xs)) {i_0 : Int} {cu su : Nat} (hcu : cu + 16 ≤ 601024) (hsu : su + 96 ≤ 7293000) (H : fS_22 σ xs L i_0 = some (true, σ')) (J : YY l E (M_law nm) 1312 601024 7293000 post 2449 [some (vr 0), some (vr 32), some (vr 277), some (vr 359), some (vi i_0), none, none, none] [] σ' (cu + 16) (su + 96)) : YY l E (M_law nm) 1312 601024 7293000 post 1629 [some (vr 0), some (vr 32), some (vr 277), some (vr 359), some (vi i_0), none, none, none] [] σ cu su := by
  unfold fS_22 at H
  refine z_aload_n (M := (M_law nm)) dL_law_1629 rfl ?_
  refine z_aload_n (M := (M_law nm)) dL_law_1630 rfl ?_
  refine z_iload (M := (M_law nm)) dL_law_1631 rfl ?_
  refine z_iconst (M := (M_law nm)) dL_law_1633 ?_
  refine z_iadd (M := (M_law nm)) dL_law_1634 ?_
  obtain ⟨hi_2, H⟩ := ck_e H
  obtain ⟨a_1, a_1_e, H⟩ := lt_e H
  refine z_sald (M := (M_law nm)) hx dL_law_1635 rfl rfl hi_2 a_1_e.symm ?_
  refine z_aload_n (M := (M_law nm)) dL_law_1636 rfl ?_
  refine z_iload (M := (M_law nm)) dL_law_1637 rfl ?_
  refine z_iconst (M := (M_law nm)) dL_law_1639 ?_
  refine z_iadd (M := (M_law nm)) dL_law_1640 ?_
  obtain ⟨hi_4, H⟩ := ck_e H
  obtain ⟨a_3, a_3_e, H⟩ := lt_e H
  refine z_sald (M := (M_law nm)) hx dL_law_1641 rfl rfl hi_4 a_3_e.symm ?_
  refine z_aload_n (M := (M_law nm)) dL_law_1642 rfl ?_
  obtain ⟨⟨x_7, σ_6⟩, hc_5, H⟩ := bd_e H
  refine z_callSW (M := (M_law nm)) (M' := M_L_bounds) (as := [vr 32, vi a_1, vi a_3, vr 359]) (rest := []) rfl rfl dL_law_1643 m_L_bounds t_2229 t_2230 (c_L_bounds hl hc_5) rfl rfl (Nat.le_of_ble_eq_true rfl) (Nat.le_of_ble_eq_true rfl) (by omega) (by omega) ?_
  refine z_st (st' := [vi x_7]) rfl ?_
  refine z_istore (M := (M_law nm)) (lv' := [some (vr 0), some (vr 32), some (vr 277), some (vr 359), some (vi i_0), some (vi x_7), none, none]) dL_law_1646 (Nat.le_of_ble_eq_true rfl) rfl rfl ?_
  refine z_aload_n (M := (M_law nm)) dL_law_1648 rfl ?_
  refine z_aload_n (M := (M_law nm)) dL_law_1649 rfl ?_
  refine z_iload (M := (M_law nm)) dL_law_1650 rfl ?_
  refine z_iconst (M := (M_law nm)) dL_law_1652 ?_
  refine z_iadd (M := (M_law nm)) dL_law_1653 ?_
  obtain ⟨hi_9, H⟩ := ck_e H
  obtain ⟨a_8, a_8_e, H⟩ := lt_e H
  refine z_sald (M := (M_law nm)) hx dL_law_1654 rfl rfl hi_9 a_8_e.symm ?_
  refine z_aload_n (M := (M_law nm)) dL_law_1655 rfl ?_
  refine z_iload (M := (M_law nm)) dL_law_1656 rfl ?_
  refine z_iconst (M := (M_law nm)) dL_law_1658 ?_
  refine z_iadd (M := (M_law nm)) dL_law_1659 ?_
  obtain ⟨hi_11, H⟩ := ck_e H
  obtain ⟨a_10, a_10_e, H⟩ := lt_e H
  refine z_sald (M := (M_law nm)) hx dL_law_1660 rfl rfl hi_11 a_10_e.symm ?_
  obtain ⟨⟨x_14, σ_13⟩, hc_12, H⟩ := bd_e H
  refine z_callV (M := (M_law nm)) (M' := M_X12_bounds) (as := [vi a_8, vi a_10]) (rest := []) rfl rfl dL_law_1661 m_X12_bounds t_3119 t_3120 t_3121 (c_X12_bounds hl  hc_12) rfl rfl ly_277 rfl (Nat.le_of_ble_eq_true rfl) (Nat.le_of_ble_eq_true rfl) (by omega) (by omega) ?_
  refine z_st (st' := [vi x_14]) rfl ?_
  refine z_istore (M := (M_law nm)) (lv' := [some (vr 0), some (vr 32), some (vr 277), some (vr 359), some (vi i_0), some (vi x_7), some (vi x_14), none]) dL_law_1664 (Nat.le_of_ble_eq_true rfl) rfl rfl ?_
  refine z_aload_n (M := (M_law nm)) dL_law_1666 rfl ?_
  refine z_callV (M := (M_law nm)) (M' := M_X12_thrown) (as := []) (rest := []) rfl rfl dL_law_1667 m_X12_thrown t_2797 t_2798 t_2799 (c_X12_thrown hl  rfl) rfl rfl ly_277 rfl (Nat.le_of_ble_eq_true rfl) (Nat.le_of_ble_eq_true rfl) (by omega) (by omega) ?_
  refine z_st (st' := [vi (fR_thrown σ_13)]) rfl ?_
  refine z_iload (M := (M_law nm)) dL_law_1670 rfl ?_
  rcases if_e H with ⟨h_15, H⟩ | ⟨h_15, H⟩
  · refine z_icmp_eq_f (M := (M_law nm)) (tgt := 1677) dL_law_1672 (by decide) rfl rfl h_15 ?_
    refine z_zconst (M := (M_law nm)) (b := false) dL_law_1675 rfl ?_
    cases H
  · refine z_icmp_eq_t (M := (M_law nm)) (tgt := 1677) dL_law_1672 (by decide) rfl rfl (Decidable.not_not.mp h_15) ?_
    refine z_iload (M := (M_law nm)) dL_law_1677 rfl ?_
    rcases if_e H with ⟨h_23, H⟩ | ⟨h_23, H⟩
    · refine z_if_ne_f (M := (M_law nm)) (tgt := 1694) dL_law_1679 (by decide) rfl h_23 ?_
      refine z_aload_n (M := (M_law nm)) dL_law_1682 rfl ?_
      refine z_iconst (M := (M_law nm)) dL_law_1683 ?_
      obtain ⟨x_24, x_24_e, hi_25, H⟩ := rd_e H
      refine z_lald (M := (M_law nm)) dL_law_1684 ly_359 rfl (by decide +kernel) rfl hi_25 x_24_e ?_
      refine z_iload (M := (M_law nm)) dL_law_1685 rfl ?_
      refine z_i2l (M := (M_law nm)) dL_law_1687 ?_
      refine z_lcmp (M := (M_law nm)) dL_law_1688 ?_
      rcases if_e H with ⟨h_26, H⟩ | ⟨h_26, H⟩
      · refine z_lif_eq_f (M := (M_law nm)) (tgt := 1694) dL_law_1689 (by decide) rfl rfl h_26 ?_
        refine z_zconst (M := (M_law nm)) (b := false) dL_law_1692 rfl ?_
        cases H
      · refine z_lif_eq_t (M := (M_law nm)) (tgt := 1694) dL_law_1689 (by decide) rfl rfl (Decidable.not_not.mp h_26) ?_
        refine z_goto (M := (M_law nm)) (tgt := 2449) dL_law_1694 (by decide) ?_
        refine z_le (lv' := [some (vr 0), some (vr 32), some (vr 277), some (vr 359), some (vi i_0), none, none, none]) ⟨Or.inr rfl, Or.inr rfl, Or.inr rfl, Or.inr rfl, Or.inr rfl, Or.inl rfl, Or.inl rfl, Or.inl rfl, trivial⟩ ?_
        cases H
        exact z_wide (by omega) (by omega) J
    · refine z_if_ne_t (M := (M_law nm)) (tgt := 1694) dL_law_1679 (by decide) rfl h_23 ?_
      refine z_goto (M := (M_law nm)) (tgt := 2449) dL_law_1694 (by decide) ?_
      refine z_le (lv' := [some (vr 0), some (vr 32), some (vr 277), some (vr 359), some (vi i_0), none, none, none]) ⟨Or.inr rfl, Or.inr rfl, Or.inr rfl, Or.inr rfl, Or.inr rfl, Or.inl rfl, Or.inl rfl, Or.inl rfl, trivial⟩ ?_
      cases H
      exact z_wide (by omega) (by omega) J
theorem s_case23 (hl : l.stackTraces = false) {nm : String} {post : Outc → SG → Prop} {σ σ' : SG} {xs : Nat → Int32} {L : Nat} (hx : E.2.2.2.2 0 = some (L, xs)) {i_0 : Int} {cu su : Nat} (hcu : cu + 16 ≤ 601024) (hsu : su + 96 ≤ 7293000) (H : fS_23 σ xs L i_0 = some (true, σ')) (J : YY l E (M_law nm) 1312 601024 7293000 post 2449 [some (vr 0), some (vr 32), some (vr 277), some (vr 359), some (vi i_0), none, none, none] [] σ' (cu + 16) (su + 96)) : YY l E (M_law nm) 1312 601024 7293000 post 1697 [some (vr 0), some (vr 32), some (vr 277), some (vr 359), some (vi i_0), none, none, none] [] σ cu su := by
  unfold fS_23 at H
  refine z_aload_n (M := (M_law nm)) dL_law_1697 rfl ?_
  refine z_aload_n (M := (M_law nm)) dL_law_1698 rfl ?_
  refine z_iload (M := (M_law nm)) dL_law_1699 rfl ?_
  refine z_iconst (M := (M_law nm)) dL_law_1701 ?_
  refine z_iadd (M := (M_law nm)) dL_law_1702 ?_
  obtain ⟨hi_2, H⟩ := ck_e H
  obtain ⟨a_1, a_1_e, H⟩ := lt_e H
  refine z_sald (M := (M_law nm)) hx dL_law_1703 rfl rfl hi_2 a_1_e.symm ?_
  refine z_aload_n (M := (M_law nm)) dL_law_1704 rfl ?_
  refine z_iload (M := (M_law nm)) dL_law_1705 rfl ?_
  refine z_iconst (M := (M_law nm)) dL_law_1707 ?_
  refine z_iadd (M := (M_law nm)) dL_law_1708 ?_
  obtain ⟨hi_4, H⟩ := ck_e H
  obtain ⟨a_3, a_3_e, H⟩ := lt_e H
  refine z_sald (M := (M_law nm)) hx dL_law_1709 rfl rfl hi_4 a_3_e.symm ?_
  refine z_aload_n (M := (M_law nm)) dL_law_1710 rfl ?_
  refine z_iload (M := (M_law nm)) dL_law_1711 rfl ?_
  refine z_iconst (M := (M_law nm)) dL_law_1713 ?_
  refine z_iadd (M := (M_law nm)) dL_law_1714 ?_
  obtain ⟨hi_6, H⟩ := ck_e H
  obtain ⟨a_5, a_5_e, H⟩ := lt_e H
  refine z_sald (M := (M_law nm)) hx dL_law_1715 rfl rfl hi_6 a_5_e.symm ?_
  refine z_aload_n (M := (M_law nm)) dL_law_1716 rfl ?_
  refine z_iload (M := (M_law nm)) dL_law_1717 rfl ?_
  refine z_iconst (M := (M_law nm)) dL_law_1719 ?_
  refine z_iadd (M := (M_law nm)) dL_law_1720 ?_
  obtain ⟨hi_8, H⟩ := ck_e H
  obtain ⟨a_7, a_7_e, H⟩ := lt_e H
  refine z_sald (M := (M_law nm)) hx dL_law_1721 rfl rfl hi_8 a_7_e.symm ?_
  refine z_aload_n (M := (M_law nm)) dL_law_1722 rfl ?_
  refine z_iload (M := (M_law nm)) dL_law_1723 rfl ?_
  refine z_iconst (M := (M_law nm)) dL_law_1725 ?_
  refine z_iadd (M := (M_law nm)) dL_law_1726 ?_
  obtain ⟨hi_10, H⟩ := ck_e H
  obtain ⟨a_9, a_9_e, H⟩ := lt_e H
  refine z_sald (M := (M_law nm)) hx dL_law_1727 rfl rfl hi_10 a_9_e.symm ?_
  refine z_aload_n (M := (M_law nm)) dL_law_1728 rfl ?_
  obtain ⟨⟨x_13, σ_12⟩, hc_11, H⟩ := bd_e H
  refine z_callSW (M := (M_law nm)) (M' := M_L_find) (as := [vr 32, vi a_1, vi a_3, vi a_5, vi a_7, vi a_9, vr 359]) (rest := []) rfl rfl dL_law_1729 m_L_find t_2242 t_2243 (c_L_find hl hc_11) rfl rfl (Nat.le_of_ble_eq_true rfl) (Nat.le_of_ble_eq_true rfl) (by omega) (by omega) ?_
  refine z_st (st' := [vi x_13]) rfl ?_
  refine z_istore (M := (M_law nm)) (lv' := [some (vr 0), some (vr 32), some (vr 277), some (vr 359), some (vi i_0), some (vi x_13), none, none]) dL_law_1732 (Nat.le_of_ble_eq_true rfl) rfl rfl ?_
  refine z_aload_n (M := (M_law nm)) dL_law_1734 rfl ?_
  refine z_aload_n (M := (M_law nm)) dL_law_1735 rfl ?_
  refine z_iload (M := (M_law nm)) dL_law_1736 rfl ?_
  refine z_iconst (M := (M_law nm)) dL_law_1738 ?_
  refine z_iadd (M := (M_law nm)) dL_law_1739 ?_
  obtain ⟨hi_15, H⟩ := ck_e H
  obtain ⟨a_14, a_14_e, H⟩ := lt_e H
  refine z_sald (M := (M_law nm)) hx dL_law_1740 rfl rfl hi_15 a_14_e.symm ?_
  refine z_aload_n (M := (M_law nm)) dL_law_1741 rfl ?_
  refine z_iload (M := (M_law nm)) dL_law_1742 rfl ?_
  refine z_iconst (M := (M_law nm)) dL_law_1744 ?_
  refine z_iadd (M := (M_law nm)) dL_law_1745 ?_
  obtain ⟨hi_17, H⟩ := ck_e H
  obtain ⟨a_16, a_16_e, H⟩ := lt_e H
  refine z_sald (M := (M_law nm)) hx dL_law_1746 rfl rfl hi_17 a_16_e.symm ?_
  refine z_aload_n (M := (M_law nm)) dL_law_1747 rfl ?_
  refine z_iload (M := (M_law nm)) dL_law_1748 rfl ?_
  refine z_iconst (M := (M_law nm)) dL_law_1750 ?_
  refine z_iadd (M := (M_law nm)) dL_law_1751 ?_
  obtain ⟨hi_19, H⟩ := ck_e H
  obtain ⟨a_18, a_18_e, H⟩ := lt_e H
  refine z_sald (M := (M_law nm)) hx dL_law_1752 rfl rfl hi_19 a_18_e.symm ?_
  refine z_aload_n (M := (M_law nm)) dL_law_1753 rfl ?_
  refine z_iload (M := (M_law nm)) dL_law_1754 rfl ?_
  refine z_iconst (M := (M_law nm)) dL_law_1756 ?_
  refine z_iadd (M := (M_law nm)) dL_law_1757 ?_
  obtain ⟨hi_21, H⟩ := ck_e H
  obtain ⟨a_20, a_20_e, H⟩ := lt_e H
  refine z_sald (M := (M_law nm)) hx dL_law_1758 rfl rfl hi_21 a_20_e.symm ?_
  refine z_aload_n (M := (M_law nm)) dL_law_1759 rfl ?_
  refine z_iload (M := (M_law nm)) dL_law_1760 rfl ?_
  refine z_iconst (M := (M_law nm)) dL_law_1762 ?_
  refine z_iadd (M := (M_law nm)) dL_law_1763 ?_
  obtain ⟨hi_23, H⟩ := ck_e H
  obtain ⟨a_22, a_22_e, H⟩ := lt_e H
  refine z_sald (M := (M_law nm)) hx dL_law_1764 rfl rfl hi_23 a_22_e.symm ?_
  obtain ⟨⟨x_26, σ_25⟩, hc_24, H⟩ := bd_e H
  refine z_callV (M := (M_law nm)) (M' := M_X12_find) (as := [vi a_14, vi a_16, vi a_18, vi a_20, vi a_22]) (rest := []) rfl rfl dL_law_1765 m_X12_find t_3129 t_3130 t_3131 (c_X12_find hl  hc_24) rfl rfl ly_277 rfl (Nat.le_of_ble_eq_true rfl) (Nat.le_of_ble_eq_true rfl) (by omega) (by omega) ?_
  refine z_st (st' := [vi x_26]) rfl ?_
  refine z_istore (M := (M_law nm)) (lv' := [some (vr 0), some (vr 32), some (vr 277), some (vr 359), some (vi i_0), some (vi x_13), some (vi x_26), none]) dL_law_1768 (Nat.le_of_ble_eq_true rfl) rfl rfl ?_
  refine z_aload_n (M := (M_law nm)) dL_law_1770 rfl ?_
  refine z_callV (M := (M_law nm)) (M' := M_X12_thrown) (as := []) (rest := []) rfl rfl dL_law_1771 m_X12_thrown t_2797 t_2798 t_2799 (c_X12_thrown hl  rfl) rfl rfl ly_277 rfl (Nat.le_of_ble_eq_true rfl) (Nat.le_of_ble_eq_true rfl) (by omega) (by omega) ?_
  refine z_st (st' := [vi (fR_thrown σ_25)]) rfl ?_
  refine z_iload (M := (M_law nm)) dL_law_1774 rfl ?_
  rcases if_e H with ⟨h_27, H⟩ | ⟨h_27, H⟩
  · refine z_icmp_eq_f (M := (M_law nm)) (tgt := 1781) dL_law_1776 (by decide) rfl rfl h_27 ?_
    refine z_zconst (M := (M_law nm)) (b := false) dL_law_1779 rfl ?_
    cases H
  · refine z_icmp_eq_t (M := (M_law nm)) (tgt := 1781) dL_law_1776 (by decide) rfl rfl (Decidable.not_not.mp h_27) ?_
    refine z_iload (M := (M_law nm)) dL_law_1781 rfl ?_
    rcases if_e H with ⟨h_35, H⟩ | ⟨h_35, H⟩
    · refine z_if_ne_f (M := (M_law nm)) (tgt := 1798) dL_law_1783 (by decide) rfl h_35 ?_
      refine z_aload_n (M := (M_law nm)) dL_law_1786 rfl ?_
      refine z_iconst (M := (M_law nm)) dL_law_1787 ?_
      obtain ⟨x_36, x_36_e, hi_37, H⟩ := rd_e H
      refine z_lald (M := (M_law nm)) dL_law_1788 ly_359 rfl (by decide +kernel) rfl hi_37 x_36_e ?_
      refine z_iload (M := (M_law nm)) dL_law_1789 rfl ?_
      refine z_i2l (M := (M_law nm)) dL_law_1791 ?_
      refine z_lcmp (M := (M_law nm)) dL_law_1792 ?_
      rcases if_e H with ⟨h_38, H⟩ | ⟨h_38, H⟩
      · refine z_lif_eq_f (M := (M_law nm)) (tgt := 1798) dL_law_1793 (by decide) rfl rfl h_38 ?_
        refine z_zconst (M := (M_law nm)) (b := false) dL_law_1796 rfl ?_
        cases H
      · refine z_lif_eq_t (M := (M_law nm)) (tgt := 1798) dL_law_1793 (by decide) rfl rfl (Decidable.not_not.mp h_38) ?_
        refine z_goto (M := (M_law nm)) (tgt := 2449) dL_law_1798 (by decide) ?_
        refine z_le (lv' := [some (vr 0), some (vr 32), some (vr 277), some (vr 359), some (vi i_0), none, none, none]) ⟨Or.inr rfl, Or.inr rfl, Or.inr rfl, Or.inr rfl, Or.inr rfl, Or.inl rfl, Or.inl rfl, Or.inl rfl, trivial⟩ ?_
        cases H
        exact z_wide (by omega) (by omega) J
    · refine z_if_ne_t (M := (M_law nm)) (tgt := 1798) dL_law_1783 (by decide) rfl h_35 ?_
      refine z_goto (M := (M_law nm)) (tgt := 2449) dL_law_1798 (by decide) ?_
      refine z_le (lv' := [some (vr 0), some (vr 32), some (vr 277), some (vr 359), some (vi i_0), none, none, none]) ⟨Or.inr rfl, Or.inr rfl, Or.inr rfl, Or.inr rfl, Or.inr rfl, Or.inl rfl, Or.inl rfl, Or.inl rfl, trivial⟩ ?_
      cases H
      exact z_wide (by omega) (by omega) J
theorem s_case24 (hl : l.stackTraces = false) {nm : String} {post : Outc → SG → Prop} {σ σ' : SG} {xs : Nat → Int32} {L : Nat} (hx : E.2.2.2.2 0 = some (L, xs)) {i_0 : Int} {cu su : Nat} (hcu : cu + 16 ≤ 601024) (hsu : su + 96 ≤ 7293000) (H : fS_24 σ xs L i_0 = some (true, σ')) (J : YY l E (M_law nm) 1312 601024 7293000 post 2449 [some (vr 0), some (vr 32), some (vr 277), some (vr 359), some (vi i_0), none, none, none] [] σ' (cu + 16) (su + 96)) : YY l E (M_law nm) 1312 601024 7293000 post 1801 [some (vr 0), some (vr 32), some (vr 277), some (vr 359), some (vi i_0), none, none, none] [] σ cu su := by
  unfold fS_24 at H
  refine z_aload_n (M := (M_law nm)) dL_law_1801 rfl ?_
  refine z_aload_n (M := (M_law nm)) dL_law_1802 rfl ?_
  refine z_iload (M := (M_law nm)) dL_law_1803 rfl ?_
  refine z_iconst (M := (M_law nm)) dL_law_1805 ?_
  refine z_iadd (M := (M_law nm)) dL_law_1806 ?_
  obtain ⟨hi_2, H⟩ := ck_e H
  obtain ⟨a_1, a_1_e, H⟩ := lt_e H
  refine z_sald (M := (M_law nm)) hx dL_law_1807 rfl rfl hi_2 a_1_e.symm ?_
  refine z_aload_n (M := (M_law nm)) dL_law_1808 rfl ?_
  refine z_iload (M := (M_law nm)) dL_law_1809 rfl ?_
  refine z_iconst (M := (M_law nm)) dL_law_1811 ?_
  refine z_iadd (M := (M_law nm)) dL_law_1812 ?_
  obtain ⟨hi_4, H⟩ := ck_e H
  obtain ⟨a_3, a_3_e, H⟩ := lt_e H
  refine z_sald (M := (M_law nm)) hx dL_law_1813 rfl rfl hi_4 a_3_e.symm ?_
  refine z_aload_n (M := (M_law nm)) dL_law_1814 rfl ?_
  refine z_iload (M := (M_law nm)) dL_law_1815 rfl ?_
  refine z_iconst (M := (M_law nm)) dL_law_1817 ?_
  refine z_iadd (M := (M_law nm)) dL_law_1818 ?_
  obtain ⟨hi_6, H⟩ := ck_e H
  obtain ⟨a_5, a_5_e, H⟩ := lt_e H
  refine z_sald (M := (M_law nm)) hx dL_law_1819 rfl rfl hi_6 a_5_e.symm ?_
  refine z_aload_n (M := (M_law nm)) dL_law_1820 rfl ?_
  obtain ⟨⟨x_9, σ_8⟩, hc_7, H⟩ := bd_e H
  refine z_callSW (M := (M_law nm)) (M' := M_L_nearest) (as := [vr 32, vi a_1, vi a_3, vi a_5, vr 359]) (rest := []) rfl rfl dL_law_1821 m_L_nearest t_2254 t_2255 (c_L_nearest hl hc_7) rfl rfl (Nat.le_of_ble_eq_true rfl) (Nat.le_of_ble_eq_true rfl) (by omega) (by omega) ?_
  refine z_st (st' := [vi x_9]) rfl ?_
  refine z_istore (M := (M_law nm)) (lv' := [some (vr 0), some (vr 32), some (vr 277), some (vr 359), some (vi i_0), some (vi x_9), none, none]) dL_law_1824 (Nat.le_of_ble_eq_true rfl) rfl rfl ?_
  refine z_aload_n (M := (M_law nm)) dL_law_1826 rfl ?_
  refine z_aload_n (M := (M_law nm)) dL_law_1827 rfl ?_
  refine z_iload (M := (M_law nm)) dL_law_1828 rfl ?_
  refine z_iconst (M := (M_law nm)) dL_law_1830 ?_
  refine z_iadd (M := (M_law nm)) dL_law_1831 ?_
  obtain ⟨hi_11, H⟩ := ck_e H
  obtain ⟨a_10, a_10_e, H⟩ := lt_e H
  refine z_sald (M := (M_law nm)) hx dL_law_1832 rfl rfl hi_11 a_10_e.symm ?_
  refine z_aload_n (M := (M_law nm)) dL_law_1833 rfl ?_
  refine z_iload (M := (M_law nm)) dL_law_1834 rfl ?_
  refine z_iconst (M := (M_law nm)) dL_law_1836 ?_
  refine z_iadd (M := (M_law nm)) dL_law_1837 ?_
  obtain ⟨hi_13, H⟩ := ck_e H
  obtain ⟨a_12, a_12_e, H⟩ := lt_e H
  refine z_sald (M := (M_law nm)) hx dL_law_1838 rfl rfl hi_13 a_12_e.symm ?_
  refine z_aload_n (M := (M_law nm)) dL_law_1839 rfl ?_
  refine z_iload (M := (M_law nm)) dL_law_1840 rfl ?_
  refine z_iconst (M := (M_law nm)) dL_law_1842 ?_
  refine z_iadd (M := (M_law nm)) dL_law_1843 ?_
  obtain ⟨hi_15, H⟩ := ck_e H
  obtain ⟨a_14, a_14_e, H⟩ := lt_e H
  refine z_sald (M := (M_law nm)) hx dL_law_1844 rfl rfl hi_15 a_14_e.symm ?_
  obtain ⟨⟨x_18, σ_17⟩, hc_16, H⟩ := bd_e H
  refine z_callV (M := (M_law nm)) (M' := M_X12_nearest) (as := [vi a_10, vi a_12, vi a_14]) (rest := []) rfl rfl dL_law_1845 m_X12_nearest t_3137 t_3138 t_3139 (c_X12_nearest hl  hc_16) rfl rfl ly_277 rfl (Nat.le_of_ble_eq_true rfl) (Nat.le_of_ble_eq_true rfl) (by omega) (by omega) ?_
  refine z_st (st' := [vi x_18]) rfl ?_
  refine z_istore (M := (M_law nm)) (lv' := [some (vr 0), some (vr 32), some (vr 277), some (vr 359), some (vi i_0), some (vi x_9), some (vi x_18), none]) dL_law_1848 (Nat.le_of_ble_eq_true rfl) rfl rfl ?_
  refine z_aload_n (M := (M_law nm)) dL_law_1850 rfl ?_
  refine z_callV (M := (M_law nm)) (M' := M_X12_thrown) (as := []) (rest := []) rfl rfl dL_law_1851 m_X12_thrown t_2797 t_2798 t_2799 (c_X12_thrown hl  rfl) rfl rfl ly_277 rfl (Nat.le_of_ble_eq_true rfl) (Nat.le_of_ble_eq_true rfl) (by omega) (by omega) ?_
  refine z_st (st' := [vi (fR_thrown σ_17)]) rfl ?_
  refine z_iload (M := (M_law nm)) dL_law_1854 rfl ?_
  rcases if_e H with ⟨h_19, H⟩ | ⟨h_19, H⟩
  · refine z_icmp_eq_f (M := (M_law nm)) (tgt := 1861) dL_law_1856 (by decide) rfl rfl h_19 ?_
    refine z_zconst (M := (M_law nm)) (b := false) dL_law_1859 rfl ?_
    cases H
  · refine z_icmp_eq_t (M := (M_law nm)) (tgt := 1861) dL_law_1856 (by decide) rfl rfl (Decidable.not_not.mp h_19) ?_
    refine z_iload (M := (M_law nm)) dL_law_1861 rfl ?_
    rcases if_e H with ⟨h_27, H⟩ | ⟨h_27, H⟩
    · refine z_if_ne_f (M := (M_law nm)) (tgt := 1878) dL_law_1863 (by decide) rfl h_27 ?_
      refine z_aload_n (M := (M_law nm)) dL_law_1866 rfl ?_
      refine z_iconst (M := (M_law nm)) dL_law_1867 ?_
      obtain ⟨x_28, x_28_e, hi_29, H⟩ := rd_e H
      refine z_lald (M := (M_law nm)) dL_law_1868 ly_359 rfl (by decide +kernel) rfl hi_29 x_28_e ?_
      refine z_iload (M := (M_law nm)) dL_law_1869 rfl ?_
      refine z_i2l (M := (M_law nm)) dL_law_1871 ?_
      refine z_lcmp (M := (M_law nm)) dL_law_1872 ?_
      rcases if_e H with ⟨h_30, H⟩ | ⟨h_30, H⟩
      · refine z_lif_eq_f (M := (M_law nm)) (tgt := 1878) dL_law_1873 (by decide) rfl rfl h_30 ?_
        refine z_zconst (M := (M_law nm)) (b := false) dL_law_1876 rfl ?_
        cases H
      · refine z_lif_eq_t (M := (M_law nm)) (tgt := 1878) dL_law_1873 (by decide) rfl rfl (Decidable.not_not.mp h_30) ?_
        refine z_goto (M := (M_law nm)) (tgt := 2449) dL_law_1878 (by decide) ?_
        refine z_le (lv' := [some (vr 0), some (vr 32), some (vr 277), some (vr 359), some (vi i_0), none, none, none]) ⟨Or.inr rfl, Or.inr rfl, Or.inr rfl, Or.inr rfl, Or.inr rfl, Or.inl rfl, Or.inl rfl, Or.inl rfl, trivial⟩ ?_
        cases H
        exact z_wide (by omega) (by omega) J
    · refine z_if_ne_t (M := (M_law nm)) (tgt := 1878) dL_law_1863 (by decide) rfl h_27 ?_
      refine z_goto (M := (M_law nm)) (tgt := 2449) dL_law_1878 (by decide) ?_
      refine z_le (lv' := [some (vr 0), some (vr 32), some (vr 277), some (vr 359), some (vi i_0), none, none, none]) ⟨Or.inr rfl, Or.inr rfl, Or.inr rfl, Or.inr rfl, Or.inr rfl, Or.inl rfl, Or.inl rfl, Or.inl rfl, trivial⟩ ?_
      cases H
      exact z_wide (by omega) (by omega) J
theorem s_case25 (hl : l.stackTraces = false) {nm : String} {post : Outc → SG → Prop} {σ σ' : SG} {xs : Nat → Int32} {L : Nat} (hx : E.2.2.2.2 0 = some (L, xs)) {i_0 : Int} {cu su : Nat} (hcu : cu + 16 ≤ 601024) (hsu : su + 96 ≤ 7293000) (H : fS_25 σ xs L i_0 = some (true, σ')) (J : YY l E (M_law nm) 1312 601024 7293000 post 2449 [some (vr 0), some (vr 32), some (vr 277), some (vr 359), some (vi i_0), none, none, none] [] σ' (cu + 16) (su + 96)) : YY l E (M_law nm) 1312 601024 7293000 post 1881 [some (vr 0), some (vr 32), some (vr 277), some (vr 359), some (vi i_0), none, none, none] [] σ cu su := by
  unfold fS_25 at H
  refine z_aload_n (M := (M_law nm)) dL_law_1881 rfl ?_
  refine z_aload_n (M := (M_law nm)) dL_law_1882 rfl ?_
  refine z_iload (M := (M_law nm)) dL_law_1883 rfl ?_
  refine z_iconst (M := (M_law nm)) dL_law_1885 ?_
  refine z_iadd (M := (M_law nm)) dL_law_1886 ?_
  obtain ⟨hi_2, H⟩ := ck_e H
  obtain ⟨a_1, a_1_e, H⟩ := lt_e H
  refine z_sald (M := (M_law nm)) hx dL_law_1887 rfl rfl hi_2 a_1_e.symm ?_
  refine z_aload_n (M := (M_law nm)) dL_law_1888 rfl ?_
  obtain ⟨⟨x_5, σ_4⟩, hc_3, H⟩ := bd_e H
  refine z_callSW (M := (M_law nm)) (M' := M_L_found) (as := [vr 32, vi a_1, vr 359]) (rest := []) rfl rfl dL_law_1889 m_L_found t_2270 t_2271 (c_L_found hl hc_3) rfl rfl (Nat.le_of_ble_eq_true rfl) (Nat.le_of_ble_eq_true rfl) (by omega) (by omega) ?_
  refine z_st (st' := [vi x_5]) rfl ?_
  refine z_istore (M := (M_law nm)) (lv' := [some (vr 0), some (vr 32), some (vr 277), some (vr 359), some (vi i_0), some (vi x_5), none, none]) dL_law_1892 (Nat.le_of_ble_eq_true rfl) rfl rfl ?_
  refine z_aload_n (M := (M_law nm)) dL_law_1894 rfl ?_
  refine z_aload_n (M := (M_law nm)) dL_law_1895 rfl ?_
  refine z_iload (M := (M_law nm)) dL_law_1896 rfl ?_
  refine z_iconst (M := (M_law nm)) dL_law_1898 ?_
  refine z_iadd (M := (M_law nm)) dL_law_1899 ?_
  obtain ⟨hi_7, H⟩ := ck_e H
  obtain ⟨a_6, a_6_e, H⟩ := lt_e H
  refine z_sald (M := (M_law nm)) hx dL_law_1900 rfl rfl hi_7 a_6_e.symm ?_
  obtain ⟨⟨x_10, σ_9⟩, hc_8, H⟩ := bd_e H
  refine z_callV (M := (M_law nm)) (M' := M_X12_found) (as := [vi a_6]) (rest := []) rfl rfl dL_law_1901 m_X12_found t_3146 t_3147 t_3148 (c_X12_found hl  hc_8) rfl rfl ly_277 rfl (Nat.le_of_ble_eq_true rfl) (Nat.le_of_ble_eq_true rfl) (by omega) (by omega) ?_
  refine z_st (st' := [vi x_10]) rfl ?_
  refine z_istore (M := (M_law nm)) (lv' := [some (vr 0), some (vr 32), some (vr 277), some (vr 359), some (vi i_0), some (vi x_5), some (vi x_10), none]) dL_law_1904 (Nat.le_of_ble_eq_true rfl) rfl rfl ?_
  refine z_aload_n (M := (M_law nm)) dL_law_1906 rfl ?_
  refine z_callV (M := (M_law nm)) (M' := M_X12_thrown) (as := []) (rest := []) rfl rfl dL_law_1907 m_X12_thrown t_2797 t_2798 t_2799 (c_X12_thrown hl  rfl) rfl rfl ly_277 rfl (Nat.le_of_ble_eq_true rfl) (Nat.le_of_ble_eq_true rfl) (by omega) (by omega) ?_
  refine z_st (st' := [vi (fR_thrown σ_9)]) rfl ?_
  refine z_iload (M := (M_law nm)) dL_law_1910 rfl ?_
  rcases if_e H with ⟨h_11, H⟩ | ⟨h_11, H⟩
  · refine z_icmp_eq_f (M := (M_law nm)) (tgt := 1917) dL_law_1912 (by decide) rfl rfl h_11 ?_
    refine z_zconst (M := (M_law nm)) (b := false) dL_law_1915 rfl ?_
    cases H
  · refine z_icmp_eq_t (M := (M_law nm)) (tgt := 1917) dL_law_1912 (by decide) rfl rfl (Decidable.not_not.mp h_11) ?_
    refine z_iload (M := (M_law nm)) dL_law_1917 rfl ?_
    rcases if_e H with ⟨h_19, H⟩ | ⟨h_19, H⟩
    · refine z_if_ne_f (M := (M_law nm)) (tgt := 1934) dL_law_1919 (by decide) rfl h_19 ?_
      refine z_aload_n (M := (M_law nm)) dL_law_1922 rfl ?_
      refine z_iconst (M := (M_law nm)) dL_law_1923 ?_
      obtain ⟨x_20, x_20_e, hi_21, H⟩ := rd_e H
      refine z_lald (M := (M_law nm)) dL_law_1924 ly_359 rfl (by decide +kernel) rfl hi_21 x_20_e ?_
      refine z_iload (M := (M_law nm)) dL_law_1925 rfl ?_
      refine z_i2l (M := (M_law nm)) dL_law_1927 ?_
      refine z_lcmp (M := (M_law nm)) dL_law_1928 ?_
      rcases if_e H with ⟨h_22, H⟩ | ⟨h_22, H⟩
      · refine z_lif_eq_f (M := (M_law nm)) (tgt := 1934) dL_law_1929 (by decide) rfl rfl h_22 ?_
        refine z_zconst (M := (M_law nm)) (b := false) dL_law_1932 rfl ?_
        cases H
      · refine z_lif_eq_t (M := (M_law nm)) (tgt := 1934) dL_law_1929 (by decide) rfl rfl (Decidable.not_not.mp h_22) ?_
        refine z_goto (M := (M_law nm)) (tgt := 2449) dL_law_1934 (by decide) ?_
        refine z_le (lv' := [some (vr 0), some (vr 32), some (vr 277), some (vr 359), some (vi i_0), none, none, none]) ⟨Or.inr rfl, Or.inr rfl, Or.inr rfl, Or.inr rfl, Or.inr rfl, Or.inl rfl, Or.inl rfl, Or.inl rfl, trivial⟩ ?_
        cases H
        exact z_wide (by omega) (by omega) J
    · refine z_if_ne_t (M := (M_law nm)) (tgt := 1934) dL_law_1919 (by decide) rfl h_19 ?_
      refine z_goto (M := (M_law nm)) (tgt := 2449) dL_law_1934 (by decide) ?_
      refine z_le (lv' := [some (vr 0), some (vr 32), some (vr 277), some (vr 359), some (vi i_0), none, none, none]) ⟨Or.inr rfl, Or.inr rfl, Or.inr rfl, Or.inr rfl, Or.inr rfl, Or.inl rfl, Or.inl rfl, Or.inl rfl, trivial⟩ ?_
      cases H
      exact z_wide (by omega) (by omega) J
theorem s_case26 (hl : l.stackTraces = false) {nm : String} {post : Outc → SG → Prop} {σ σ' : SG} {xs : Nat → Int32} {L : Nat} (hx : E.2.2.2.2 0 = some (L, xs)) {i_0 : Int} {cu su : Nat} (hcu : cu + 16 ≤ 601024) (hsu : su + 96 ≤ 7293000) (H : fS_26 σ xs L i_0 = some (true, σ')) (J : YY l E (M_law nm) 1312 601024 7293000 post 2449 [some (vr 0), some (vr 32), some (vr 277), some (vr 359), some (vi i_0), none, none, none] [] σ' (cu + 16) (su + 96)) : YY l E (M_law nm) 1312 601024 7293000 post 1937 [some (vr 0), some (vr 32), some (vr 277), some (vr 359), some (vi i_0), none, none, none] [] σ cu su := by
  unfold fS_26 at H
  refine z_aload_n (M := (M_law nm)) dL_law_1937 rfl ?_
  refine z_aload_n (M := (M_law nm)) dL_law_1938 rfl ?_
  refine z_iload (M := (M_law nm)) dL_law_1939 rfl ?_
  refine z_iconst (M := (M_law nm)) dL_law_1941 ?_
  refine z_iadd (M := (M_law nm)) dL_law_1942 ?_
  obtain ⟨hi_2, H⟩ := ck_e H
  obtain ⟨a_1, a_1_e, H⟩ := lt_e H
  refine z_sald (M := (M_law nm)) hx dL_law_1943 rfl rfl hi_2 a_1_e.symm ?_
  refine z_aload_n (M := (M_law nm)) dL_law_1944 rfl ?_
  refine z_iload (M := (M_law nm)) dL_law_1945 rfl ?_
  refine z_iconst (M := (M_law nm)) dL_law_1947 ?_
  refine z_iadd (M := (M_law nm)) dL_law_1948 ?_
  obtain ⟨hi_4, H⟩ := ck_e H
  obtain ⟨a_3, a_3_e, H⟩ := lt_e H
  refine z_sald (M := (M_law nm)) hx dL_law_1949 rfl rfl hi_4 a_3_e.symm ?_
  refine z_aload_n (M := (M_law nm)) dL_law_1950 rfl ?_
  obtain ⟨⟨x_7, σ_6⟩, hc_5, H⟩ := bd_e H
  refine z_callSW (M := (M_law nm)) (M' := M_L_plan) (as := [vr 32, vi a_1, vi a_3, vr 359]) (rest := []) rfl rfl dL_law_1951 m_L_plan t_2277 t_2278 (c_L_plan hl hc_5) rfl rfl (Nat.le_of_ble_eq_true rfl) (Nat.le_of_ble_eq_true rfl) (by omega) (by omega) ?_
  refine z_st (st' := [vi x_7]) rfl ?_
  refine z_istore (M := (M_law nm)) (lv' := [some (vr 0), some (vr 32), some (vr 277), some (vr 359), some (vi i_0), some (vi x_7), none, none]) dL_law_1954 (Nat.le_of_ble_eq_true rfl) rfl rfl ?_
  refine z_aload_n (M := (M_law nm)) dL_law_1956 rfl ?_
  refine z_aload_n (M := (M_law nm)) dL_law_1957 rfl ?_
  refine z_iload (M := (M_law nm)) dL_law_1958 rfl ?_
  refine z_iconst (M := (M_law nm)) dL_law_1960 ?_
  refine z_iadd (M := (M_law nm)) dL_law_1961 ?_
  obtain ⟨hi_9, H⟩ := ck_e H
  obtain ⟨a_8, a_8_e, H⟩ := lt_e H
  refine z_sald (M := (M_law nm)) hx dL_law_1962 rfl rfl hi_9 a_8_e.symm ?_
  refine z_aload_n (M := (M_law nm)) dL_law_1963 rfl ?_
  refine z_iload (M := (M_law nm)) dL_law_1964 rfl ?_
  refine z_iconst (M := (M_law nm)) dL_law_1966 ?_
  refine z_iadd (M := (M_law nm)) dL_law_1967 ?_
  obtain ⟨hi_11, H⟩ := ck_e H
  obtain ⟨a_10, a_10_e, H⟩ := lt_e H
  refine z_sald (M := (M_law nm)) hx dL_law_1968 rfl rfl hi_11 a_10_e.symm ?_
  obtain ⟨⟨x_14, σ_13⟩, hc_12, H⟩ := bd_e H
  refine z_callV (M := (M_law nm)) (M' := M_X12_plan) (as := [vi a_8, vi a_10]) (rest := []) rfl rfl dL_law_1969 m_X12_plan t_3106 t_3107 t_3108 (c_X12_plan hl  hc_12) rfl rfl ly_277 rfl (Nat.le_of_ble_eq_true rfl) (Nat.le_of_ble_eq_true rfl) (by omega) (by omega) ?_
  refine z_st (st' := [vi x_14]) rfl ?_
  refine z_istore (M := (M_law nm)) (lv' := [some (vr 0), some (vr 32), some (vr 277), some (vr 359), some (vi i_0), some (vi x_7), some (vi x_14), none]) dL_law_1972 (Nat.le_of_ble_eq_true rfl) rfl rfl ?_
  refine z_aload_n (M := (M_law nm)) dL_law_1974 rfl ?_
  refine z_callV (M := (M_law nm)) (M' := M_X12_thrown) (as := []) (rest := []) rfl rfl dL_law_1975 m_X12_thrown t_2797 t_2798 t_2799 (c_X12_thrown hl  rfl) rfl rfl ly_277 rfl (Nat.le_of_ble_eq_true rfl) (Nat.le_of_ble_eq_true rfl) (by omega) (by omega) ?_
  refine z_st (st' := [vi (fR_thrown σ_13)]) rfl ?_
  refine z_iload (M := (M_law nm)) dL_law_1978 rfl ?_
  rcases if_e H with ⟨h_15, H⟩ | ⟨h_15, H⟩
  · refine z_icmp_eq_f (M := (M_law nm)) (tgt := 1985) dL_law_1980 (by decide) rfl rfl h_15 ?_
    refine z_zconst (M := (M_law nm)) (b := false) dL_law_1983 rfl ?_
    cases H
  · refine z_icmp_eq_t (M := (M_law nm)) (tgt := 1985) dL_law_1980 (by decide) rfl rfl (Decidable.not_not.mp h_15) ?_
    refine z_iload (M := (M_law nm)) dL_law_1985 rfl ?_
    rcases if_e H with ⟨h_23, H⟩ | ⟨h_23, H⟩
    · refine z_if_ne_f (M := (M_law nm)) (tgt := 2002) dL_law_1987 (by decide) rfl h_23 ?_
      refine z_aload_n (M := (M_law nm)) dL_law_1990 rfl ?_
      refine z_iconst (M := (M_law nm)) dL_law_1991 ?_
      obtain ⟨x_24, x_24_e, hi_25, H⟩ := rd_e H
      refine z_lald (M := (M_law nm)) dL_law_1992 ly_359 rfl (by decide +kernel) rfl hi_25 x_24_e ?_
      refine z_iload (M := (M_law nm)) dL_law_1993 rfl ?_
      refine z_i2l (M := (M_law nm)) dL_law_1995 ?_
      refine z_lcmp (M := (M_law nm)) dL_law_1996 ?_
      rcases if_e H with ⟨h_26, H⟩ | ⟨h_26, H⟩
      · refine z_lif_eq_f (M := (M_law nm)) (tgt := 2002) dL_law_1997 (by decide) rfl rfl h_26 ?_
        refine z_zconst (M := (M_law nm)) (b := false) dL_law_2000 rfl ?_
        cases H
      · refine z_lif_eq_t (M := (M_law nm)) (tgt := 2002) dL_law_1997 (by decide) rfl rfl (Decidable.not_not.mp h_26) ?_
        refine z_goto (M := (M_law nm)) (tgt := 2449) dL_law_2002 (by decide) ?_
        refine z_le (lv' := [some (vr 0), some (vr 32), some (vr 277), some (vr 359), some (vi i_0), none, none, none]) ⟨Or.inr rfl, Or.inr rfl, Or.inr rfl, Or.inr rfl, Or.inr rfl, Or.inl rfl, Or.inl rfl, Or.inl rfl, trivial⟩ ?_
        cases H
        exact z_wide (by omega) (by omega) J
    · refine z_if_ne_t (M := (M_law nm)) (tgt := 2002) dL_law_1987 (by decide) rfl h_23 ?_
      refine z_goto (M := (M_law nm)) (tgt := 2449) dL_law_2002 (by decide) ?_
      refine z_le (lv' := [some (vr 0), some (vr 32), some (vr 277), some (vr 359), some (vi i_0), none, none, none]) ⟨Or.inr rfl, Or.inr rfl, Or.inr rfl, Or.inr rfl, Or.inr rfl, Or.inl rfl, Or.inl rfl, Or.inl rfl, trivial⟩ ?_
      cases H
      exact z_wide (by omega) (by omega) J
theorem s_case27 (hl : l.stackTraces = false) {nm : String} {post : Outc → SG → Prop} {σ σ' : SG} {xs : Nat → Int32} {L : Nat} (hx : E.2.2.2.2 0 = some (L, xs)) {i_0 : Int} {cu su : Nat} (hcu : cu + 16 ≤ 601024) (hsu : su + 96 ≤ 7293000) (H : fS_27 σ xs L i_0 = some (true, σ')) (J : YY l E (M_law nm) 1312 601024 7293000 post 2449 [some (vr 0), some (vr 32), some (vr 277), some (vr 359), some (vi i_0), none, none, none] [] σ' (cu + 16) (su + 96)) : YY l E (M_law nm) 1312 601024 7293000 post 2005 [some (vr 0), some (vr 32), some (vr 277), some (vr 359), some (vi i_0), none, none, none] [] σ cu su := by
  unfold fS_27 at H
  refine z_aload_n (M := (M_law nm)) dL_law_2005 rfl ?_
  refine z_aload_n (M := (M_law nm)) dL_law_2006 rfl ?_
  refine z_iload (M := (M_law nm)) dL_law_2007 rfl ?_
  refine z_iconst (M := (M_law nm)) dL_law_2009 ?_
  refine z_iadd (M := (M_law nm)) dL_law_2010 ?_
  obtain ⟨hi_2, H⟩ := ck_e H
  obtain ⟨a_1, a_1_e, H⟩ := lt_e H
  refine z_sald (M := (M_law nm)) hx dL_law_2011 rfl rfl hi_2 a_1_e.symm ?_
  refine z_aload_n (M := (M_law nm)) dL_law_2012 rfl ?_
  refine z_iload (M := (M_law nm)) dL_law_2013 rfl ?_
  refine z_iconst (M := (M_law nm)) dL_law_2015 ?_
  refine z_iadd (M := (M_law nm)) dL_law_2016 ?_
  obtain ⟨hi_4, H⟩ := ck_e H
  obtain ⟨a_3, a_3_e, H⟩ := lt_e H
  refine z_sald (M := (M_law nm)) hx dL_law_2017 rfl rfl hi_4 a_3_e.symm ?_
  refine z_aload_n (M := (M_law nm)) dL_law_2018 rfl ?_
  refine z_iload (M := (M_law nm)) dL_law_2019 rfl ?_
  refine z_iconst (M := (M_law nm)) dL_law_2021 ?_
  refine z_iadd (M := (M_law nm)) dL_law_2022 ?_
  obtain ⟨hi_6, H⟩ := ck_e H
  obtain ⟨a_5, a_5_e, H⟩ := lt_e H
  refine z_sald (M := (M_law nm)) hx dL_law_2023 rfl rfl hi_6 a_5_e.symm ?_
  refine z_aload_n (M := (M_law nm)) dL_law_2024 rfl ?_
  obtain ⟨⟨x_9, σ_8⟩, hc_7, H⟩ := bd_e H
  refine z_callSW (M := (M_law nm)) (M' := M_L_ordinate) (as := [vr 32, vi a_1, vi a_3, vi a_5, vr 359]) (rest := []) rfl rfl dL_law_2025 m_L_ordinate t_2284 t_2285 (c_L_ordinate hl hc_7) rfl rfl (Nat.le_of_ble_eq_true rfl) (Nat.le_of_ble_eq_true rfl) (by omega) (by omega) ?_
  refine z_st (st' := [vi x_9]) rfl ?_
  refine z_istore (M := (M_law nm)) (lv' := [some (vr 0), some (vr 32), some (vr 277), some (vr 359), some (vi i_0), some (vi x_9), none, none]) dL_law_2028 (Nat.le_of_ble_eq_true rfl) rfl rfl ?_
  refine z_aload_n (M := (M_law nm)) dL_law_2030 rfl ?_
  refine z_aload_n (M := (M_law nm)) dL_law_2031 rfl ?_
  refine z_iload (M := (M_law nm)) dL_law_2032 rfl ?_
  refine z_iconst (M := (M_law nm)) dL_law_2034 ?_
  refine z_iadd (M := (M_law nm)) dL_law_2035 ?_
  obtain ⟨hi_11, H⟩ := ck_e H
  obtain ⟨a_10, a_10_e, H⟩ := lt_e H
  refine z_sald (M := (M_law nm)) hx dL_law_2036 rfl rfl hi_11 a_10_e.symm ?_
  refine z_aload_n (M := (M_law nm)) dL_law_2037 rfl ?_
  refine z_iload (M := (M_law nm)) dL_law_2038 rfl ?_
  refine z_iconst (M := (M_law nm)) dL_law_2040 ?_
  refine z_iadd (M := (M_law nm)) dL_law_2041 ?_
  obtain ⟨hi_13, H⟩ := ck_e H
  obtain ⟨a_12, a_12_e, H⟩ := lt_e H
  refine z_sald (M := (M_law nm)) hx dL_law_2042 rfl rfl hi_13 a_12_e.symm ?_
  refine z_aload_n (M := (M_law nm)) dL_law_2043 rfl ?_
  refine z_iload (M := (M_law nm)) dL_law_2044 rfl ?_
  refine z_iconst (M := (M_law nm)) dL_law_2046 ?_
  refine z_iadd (M := (M_law nm)) dL_law_2047 ?_
  obtain ⟨hi_15, H⟩ := ck_e H
  obtain ⟨a_14, a_14_e, H⟩ := lt_e H
  refine z_sald (M := (M_law nm)) hx dL_law_2048 rfl rfl hi_15 a_14_e.symm ?_
  obtain ⟨⟨x_18, σ_17⟩, hc_16, H⟩ := bd_e H
  refine z_callV (M := (M_law nm)) (M' := M_X12_ordinate) (as := [vi a_10, vi a_12, vi a_14]) (rest := []) rfl rfl dL_law_2049 m_X12_ordinate t_3110 t_3111 t_3112 (c_X12_ordinate hl  hc_16) rfl rfl ly_277 rfl (Nat.le_of_ble_eq_true rfl) (Nat.le_of_ble_eq_true rfl) (by omega) (by omega) ?_
  refine z_st (st' := [vi x_18]) rfl ?_
  refine z_istore (M := (M_law nm)) (lv' := [some (vr 0), some (vr 32), some (vr 277), some (vr 359), some (vi i_0), some (vi x_9), some (vi x_18), none]) dL_law_2052 (Nat.le_of_ble_eq_true rfl) rfl rfl ?_
  refine z_aload_n (M := (M_law nm)) dL_law_2054 rfl ?_
  refine z_callV (M := (M_law nm)) (M' := M_X12_thrown) (as := []) (rest := []) rfl rfl dL_law_2055 m_X12_thrown t_2797 t_2798 t_2799 (c_X12_thrown hl  rfl) rfl rfl ly_277 rfl (Nat.le_of_ble_eq_true rfl) (Nat.le_of_ble_eq_true rfl) (by omega) (by omega) ?_
  refine z_st (st' := [vi (fR_thrown σ_17)]) rfl ?_
  refine z_iload (M := (M_law nm)) dL_law_2058 rfl ?_
  rcases if_e H with ⟨h_19, H⟩ | ⟨h_19, H⟩
  · refine z_icmp_eq_f (M := (M_law nm)) (tgt := 2065) dL_law_2060 (by decide) rfl rfl h_19 ?_
    refine z_zconst (M := (M_law nm)) (b := false) dL_law_2063 rfl ?_
    cases H
  · refine z_icmp_eq_t (M := (M_law nm)) (tgt := 2065) dL_law_2060 (by decide) rfl rfl (Decidable.not_not.mp h_19) ?_
    refine z_iload (M := (M_law nm)) dL_law_2065 rfl ?_
    rcases if_e H with ⟨h_27, H⟩ | ⟨h_27, H⟩
    · refine z_if_ne_f (M := (M_law nm)) (tgt := 2082) dL_law_2067 (by decide) rfl h_27 ?_
      refine z_aload_n (M := (M_law nm)) dL_law_2070 rfl ?_
      refine z_iconst (M := (M_law nm)) dL_law_2071 ?_
      obtain ⟨x_28, x_28_e, hi_29, H⟩ := rd_e H
      refine z_lald (M := (M_law nm)) dL_law_2072 ly_359 rfl (by decide +kernel) rfl hi_29 x_28_e ?_
      refine z_iload (M := (M_law nm)) dL_law_2073 rfl ?_
      refine z_i2l (M := (M_law nm)) dL_law_2075 ?_
      refine z_lcmp (M := (M_law nm)) dL_law_2076 ?_
      rcases if_e H with ⟨h_30, H⟩ | ⟨h_30, H⟩
      · refine z_lif_eq_f (M := (M_law nm)) (tgt := 2082) dL_law_2077 (by decide) rfl rfl h_30 ?_
        refine z_zconst (M := (M_law nm)) (b := false) dL_law_2080 rfl ?_
        cases H
      · refine z_lif_eq_t (M := (M_law nm)) (tgt := 2082) dL_law_2077 (by decide) rfl rfl (Decidable.not_not.mp h_30) ?_
        refine z_goto (M := (M_law nm)) (tgt := 2449) dL_law_2082 (by decide) ?_
        refine z_le (lv' := [some (vr 0), some (vr 32), some (vr 277), some (vr 359), some (vi i_0), none, none, none]) ⟨Or.inr rfl, Or.inr rfl, Or.inr rfl, Or.inr rfl, Or.inr rfl, Or.inl rfl, Or.inl rfl, Or.inl rfl, trivial⟩ ?_
        cases H
        exact z_wide (by omega) (by omega) J
    · refine z_if_ne_t (M := (M_law nm)) (tgt := 2082) dL_law_2067 (by decide) rfl h_27 ?_
      refine z_goto (M := (M_law nm)) (tgt := 2449) dL_law_2082 (by decide) ?_
      refine z_le (lv' := [some (vr 0), some (vr 32), some (vr 277), some (vr 359), some (vi i_0), none, none, none]) ⟨Or.inr rfl, Or.inr rfl, Or.inr rfl, Or.inr rfl, Or.inr rfl, Or.inl rfl, Or.inl rfl, Or.inl rfl, trivial⟩ ?_
      cases H
      exact z_wide (by omega) (by omega) J
theorem s_case28 (hl : l.stackTraces = false) {nm : String} {post : Outc → SG → Prop} {σ σ' : SG} {xs : Nat → Int32} {L : Nat} (hx : E.2.2.2.2 0 = some (L, xs)) {i_0 : Int} {cu su : Nat} (hcu : cu + 16 ≤ 601024) (hsu : su + 96 ≤ 7293000) (H : fS_28 σ xs L i_0 = some (true, σ')) (J : YY l E (M_law nm) 1312 601024 7293000 post 2449 [some (vr 0), some (vr 32), some (vr 277), some (vr 359), some (vi i_0), none, none, none] [] σ' (cu + 16) (su + 96)) : YY l E (M_law nm) 1312 601024 7293000 post 2085 [some (vr 0), some (vr 32), some (vr 277), some (vr 359), some (vi i_0), none, none, none] [] σ cu su := by
  unfold fS_28 at H
  refine z_aload_n (M := (M_law nm)) dL_law_2085 rfl ?_
  refine z_aload_n (M := (M_law nm)) dL_law_2086 rfl ?_
  refine z_iload (M := (M_law nm)) dL_law_2087 rfl ?_
  refine z_iconst (M := (M_law nm)) dL_law_2089 ?_
  refine z_iadd (M := (M_law nm)) dL_law_2090 ?_
  obtain ⟨hi_2, H⟩ := ck_e H
  obtain ⟨a_1, a_1_e, H⟩ := lt_e H
  refine z_sald (M := (M_law nm)) hx dL_law_2091 rfl rfl hi_2 a_1_e.symm ?_
  refine z_aload_n (M := (M_law nm)) dL_law_2092 rfl ?_
  refine z_iload (M := (M_law nm)) dL_law_2093 rfl ?_
  refine z_iconst (M := (M_law nm)) dL_law_2095 ?_
  refine z_iadd (M := (M_law nm)) dL_law_2096 ?_
  obtain ⟨hi_4, H⟩ := ck_e H
  obtain ⟨a_3, a_3_e, H⟩ := lt_e H
  refine z_sald (M := (M_law nm)) hx dL_law_2097 rfl rfl hi_4 a_3_e.symm ?_
  refine z_aload_n (M := (M_law nm)) dL_law_2098 rfl ?_
  obtain ⟨⟨x_7, σ_6⟩, hc_5, H⟩ := bd_e H
  refine z_callSW (M := (M_law nm)) (M' := M_L_count) (as := [vr 32, vi a_1, vi a_3, vr 359]) (rest := []) rfl rfl dL_law_2099 m_L_count t_2291 t_2292 (c_L_count hl hc_5) rfl rfl (Nat.le_of_ble_eq_true rfl) (Nat.le_of_ble_eq_true rfl) (by omega) (by omega) ?_
  refine z_st (st' := [vi x_7]) rfl ?_
  refine z_istore (M := (M_law nm)) (lv' := [some (vr 0), some (vr 32), some (vr 277), some (vr 359), some (vi i_0), some (vi x_7), none, none]) dL_law_2102 (Nat.le_of_ble_eq_true rfl) rfl rfl ?_
  refine z_aload_n (M := (M_law nm)) dL_law_2104 rfl ?_
  refine z_aload_n (M := (M_law nm)) dL_law_2105 rfl ?_
  refine z_iload (M := (M_law nm)) dL_law_2106 rfl ?_
  refine z_iconst (M := (M_law nm)) dL_law_2108 ?_
  refine z_iadd (M := (M_law nm)) dL_law_2109 ?_
  obtain ⟨hi_9, H⟩ := ck_e H
  obtain ⟨a_8, a_8_e, H⟩ := lt_e H
  refine z_sald (M := (M_law nm)) hx dL_law_2110 rfl rfl hi_9 a_8_e.symm ?_
  refine z_aload_n (M := (M_law nm)) dL_law_2111 rfl ?_
  refine z_iload (M := (M_law nm)) dL_law_2112 rfl ?_
  refine z_iconst (M := (M_law nm)) dL_law_2114 ?_
  refine z_iadd (M := (M_law nm)) dL_law_2115 ?_
  obtain ⟨hi_11, H⟩ := ck_e H
  obtain ⟨a_10, a_10_e, H⟩ := lt_e H
  refine z_sald (M := (M_law nm)) hx dL_law_2116 rfl rfl hi_11 a_10_e.symm ?_
  obtain ⟨⟨x_14, σ_13⟩, hc_12, H⟩ := bd_e H
  refine z_callV (M := (M_law nm)) (M' := M_X12_count) (as := [vi a_8, vi a_10]) (rest := []) rfl rfl dL_law_2117 m_X12_count t_3114 t_3115 t_3116 (c_X12_count hl  hc_12) rfl rfl ly_277 rfl (Nat.le_of_ble_eq_true rfl) (Nat.le_of_ble_eq_true rfl) (by omega) (by omega) ?_
  refine z_st (st' := [vi x_14]) rfl ?_
  refine z_istore (M := (M_law nm)) (lv' := [some (vr 0), some (vr 32), some (vr 277), some (vr 359), some (vi i_0), some (vi x_7), some (vi x_14), none]) dL_law_2120 (Nat.le_of_ble_eq_true rfl) rfl rfl ?_
  refine z_aload_n (M := (M_law nm)) dL_law_2122 rfl ?_
  refine z_callV (M := (M_law nm)) (M' := M_X12_thrown) (as := []) (rest := []) rfl rfl dL_law_2123 m_X12_thrown t_2797 t_2798 t_2799 (c_X12_thrown hl  rfl) rfl rfl ly_277 rfl (Nat.le_of_ble_eq_true rfl) (Nat.le_of_ble_eq_true rfl) (by omega) (by omega) ?_
  refine z_st (st' := [vi (fR_thrown σ_13)]) rfl ?_
  refine z_iload (M := (M_law nm)) dL_law_2126 rfl ?_
  rcases if_e H with ⟨h_15, H⟩ | ⟨h_15, H⟩
  · refine z_icmp_eq_f (M := (M_law nm)) (tgt := 2133) dL_law_2128 (by decide) rfl rfl h_15 ?_
    refine z_zconst (M := (M_law nm)) (b := false) dL_law_2131 rfl ?_
    cases H
  · refine z_icmp_eq_t (M := (M_law nm)) (tgt := 2133) dL_law_2128 (by decide) rfl rfl (Decidable.not_not.mp h_15) ?_
    refine z_iload (M := (M_law nm)) dL_law_2133 rfl ?_
    rcases if_e H with ⟨h_23, H⟩ | ⟨h_23, H⟩
    · refine z_if_ne_f (M := (M_law nm)) (tgt := 2150) dL_law_2135 (by decide) rfl h_23 ?_
      refine z_aload_n (M := (M_law nm)) dL_law_2138 rfl ?_
      refine z_iconst (M := (M_law nm)) dL_law_2139 ?_
      obtain ⟨x_24, x_24_e, hi_25, H⟩ := rd_e H
      refine z_lald (M := (M_law nm)) dL_law_2140 ly_359 rfl (by decide +kernel) rfl hi_25 x_24_e ?_
      refine z_iload (M := (M_law nm)) dL_law_2141 rfl ?_
      refine z_i2l (M := (M_law nm)) dL_law_2143 ?_
      refine z_lcmp (M := (M_law nm)) dL_law_2144 ?_
      rcases if_e H with ⟨h_26, H⟩ | ⟨h_26, H⟩
      · refine z_lif_eq_f (M := (M_law nm)) (tgt := 2150) dL_law_2145 (by decide) rfl rfl h_26 ?_
        refine z_zconst (M := (M_law nm)) (b := false) dL_law_2148 rfl ?_
        cases H
      · refine z_lif_eq_t (M := (M_law nm)) (tgt := 2150) dL_law_2145 (by decide) rfl rfl (Decidable.not_not.mp h_26) ?_
        refine z_goto (M := (M_law nm)) (tgt := 2449) dL_law_2150 (by decide) ?_
        refine z_le (lv' := [some (vr 0), some (vr 32), some (vr 277), some (vr 359), some (vi i_0), none, none, none]) ⟨Or.inr rfl, Or.inr rfl, Or.inr rfl, Or.inr rfl, Or.inr rfl, Or.inl rfl, Or.inl rfl, Or.inl rfl, trivial⟩ ?_
        cases H
        exact z_wide (by omega) (by omega) J
    · refine z_if_ne_t (M := (M_law nm)) (tgt := 2150) dL_law_2135 (by decide) rfl h_23 ?_
      refine z_goto (M := (M_law nm)) (tgt := 2449) dL_law_2150 (by decide) ?_
      refine z_le (lv' := [some (vr 0), some (vr 32), some (vr 277), some (vr 359), some (vi i_0), none, none, none]) ⟨Or.inr rfl, Or.inr rfl, Or.inr rfl, Or.inr rfl, Or.inr rfl, Or.inl rfl, Or.inl rfl, Or.inl rfl, trivial⟩ ?_
      cases H
      exact z_wide (by omega) (by omega) J
theorem s_case29 (hl : l.stackTraces = false) {nm : String} {post : Outc → SG → Prop} {σ σ' : SG} {xs : Nat → Int32} {L : Nat} (hx : E.2.2.2.2 0 = some (L, xs)) {i_0 : Int} {cu su : Nat} (hcu : cu + 16 ≤ 601024) (hsu : su + 96 ≤ 7293000) (H : fS_29 σ xs L i_0 = some (true, σ')) (J : YY l E (M_law nm) 1312 601024 7293000 post 2449 [some (vr 0), some (vr 32), some (vr 277), some (vr 359), some (vi i_0), none, none, none] [] σ' (cu + 16) (su + 96)) : YY l E (M_law nm) 1312 601024 7293000 post 2153 [some (vr 0), some (vr 32), some (vr 277), some (vr 359), some (vi i_0), none, none, none] [] σ cu su := by
  unfold fS_29 at H
  refine z_aload_n (M := (M_law nm)) dL_law_2153 rfl ?_
  refine z_aload_n (M := (M_law nm)) dL_law_2154 rfl ?_
  refine z_iload (M := (M_law nm)) dL_law_2155 rfl ?_
  refine z_iconst (M := (M_law nm)) dL_law_2157 ?_
  refine z_iadd (M := (M_law nm)) dL_law_2158 ?_
  obtain ⟨hi_2, H⟩ := ck_e H
  obtain ⟨a_1, a_1_e, H⟩ := lt_e H
  refine z_sald (M := (M_law nm)) hx dL_law_2159 rfl rfl hi_2 a_1_e.symm ?_
  refine z_aload_n (M := (M_law nm)) dL_law_2160 rfl ?_
  refine z_iload (M := (M_law nm)) dL_law_2161 rfl ?_
  refine z_iconst (M := (M_law nm)) dL_law_2163 ?_
  refine z_iadd (M := (M_law nm)) dL_law_2164 ?_
  obtain ⟨hi_4, H⟩ := ck_e H
  obtain ⟨a_3, a_3_e, H⟩ := lt_e H
  refine z_sald (M := (M_law nm)) hx dL_law_2165 rfl rfl hi_4 a_3_e.symm ?_
  refine z_i2l (M := (M_law nm)) dL_law_2166 ?_
  refine z_bipush (M := (M_law nm)) dL_law_2167 (by decide +kernel) ?_
  refine z_lshl (M := (M_law nm)) dL_law_2169 ?_
  refine z_aload_n (M := (M_law nm)) dL_law_2170 rfl ?_
  refine z_iload (M := (M_law nm)) dL_law_2171 rfl ?_
  refine z_iconst (M := (M_law nm)) dL_law_2173 ?_
  refine z_iadd (M := (M_law nm)) dL_law_2174 ?_
  obtain ⟨hi_6, H⟩ := ck_e H
  obtain ⟨a_5, a_5_e, H⟩ := lt_e H
  refine z_sald (M := (M_law nm)) hx dL_law_2175 rfl rfl hi_6 a_5_e.symm ?_
  refine z_i2l (M := (M_law nm)) dL_law_2176 ?_
  refine z_ldc2 (M := (M_law nm)) (n := 4294967295) dL_law_2177 t_3705 (by decide +kernel) ?_
  refine z_land (M := (M_law nm)) dL_law_2180 ?_
  refine z_lor (M := (M_law nm)) dL_law_2181 ?_
  refine z_aload_n (M := (M_law nm)) dL_law_2182 rfl ?_
  refine z_iload (M := (M_law nm)) dL_law_2183 rfl ?_
  refine z_iconst (M := (M_law nm)) dL_law_2185 ?_
  refine z_iadd (M := (M_law nm)) dL_law_2186 ?_
  obtain ⟨hi_8, H⟩ := ck_e H
  obtain ⟨a_7, a_7_e, H⟩ := lt_e H
  refine z_sald (M := (M_law nm)) hx dL_law_2187 rfl rfl hi_8 a_7_e.symm ?_
  refine z_i2l (M := (M_law nm)) dL_law_2188 ?_
  refine z_bipush (M := (M_law nm)) dL_law_2189 (by decide +kernel) ?_
  refine z_lshl (M := (M_law nm)) dL_law_2191 ?_
  refine z_aload_n (M := (M_law nm)) dL_law_2192 rfl ?_
  refine z_iload (M := (M_law nm)) dL_law_2193 rfl ?_
  refine z_iconst (M := (M_law nm)) dL_law_2195 ?_
  refine z_iadd (M := (M_law nm)) dL_law_2196 ?_
  obtain ⟨hi_10, H⟩ := ck_e H
  obtain ⟨a_9, a_9_e, H⟩ := lt_e H
  refine z_sald (M := (M_law nm)) hx dL_law_2197 rfl rfl hi_10 a_9_e.symm ?_
  refine z_i2l (M := (M_law nm)) dL_law_2198 ?_
  refine z_ldc2 (M := (M_law nm)) (n := 4294967295) dL_law_2199 t_3705 (by decide +kernel) ?_
  refine z_land (M := (M_law nm)) dL_law_2202 ?_
  refine z_lor (M := (M_law nm)) dL_law_2203 ?_
  obtain ⟨⟨x_13, σ_12⟩, hc_11, H⟩ := bd_e H
  refine z_callSW (M := (M_law nm)) (M' := M_L_point) (as := [vr 32, vi a_1, vl (q_lor (q_lsl (w32 a_3) 32) (q_lan (w32 a_5) 4294967295)), vl (q_lor (q_lsl (w32 a_7) 32) (q_lan (w32 a_9) 4294967295))]) (rest := []) rfl rfl dL_law_2204 m_L_point t_2302 t_2303 (c_L_point hl hc_11) rfl rfl (Nat.le_of_ble_eq_true rfl) (Nat.le_of_ble_eq_true rfl) (by omega) (by omega) ?_
  refine z_st (st' := [vi x_13]) rfl ?_
  refine z_istore (M := (M_law nm)) (lv' := [some (vr 0), some (vr 32), some (vr 277), some (vr 359), some (vi i_0), some (vi x_13), none, none]) dL_law_2207 (Nat.le_of_ble_eq_true rfl) rfl rfl ?_
  refine z_aload_n (M := (M_law nm)) dL_law_2209 rfl ?_
  refine z_aload_n (M := (M_law nm)) dL_law_2210 rfl ?_
  refine z_iload (M := (M_law nm)) dL_law_2211 rfl ?_
  refine z_iconst (M := (M_law nm)) dL_law_2213 ?_
  refine z_iadd (M := (M_law nm)) dL_law_2214 ?_
  obtain ⟨hi_15, H⟩ := ck_e H
  obtain ⟨a_14, a_14_e, H⟩ := lt_e H
  refine z_sald (M := (M_law nm)) hx dL_law_2215 rfl rfl hi_15 a_14_e.symm ?_
  refine z_aload_n (M := (M_law nm)) dL_law_2216 rfl ?_
  refine z_iload (M := (M_law nm)) dL_law_2217 rfl ?_
  refine z_iconst (M := (M_law nm)) dL_law_2219 ?_
  refine z_iadd (M := (M_law nm)) dL_law_2220 ?_
  obtain ⟨hi_17, H⟩ := ck_e H
  obtain ⟨a_16, a_16_e, H⟩ := lt_e H
  refine z_sald (M := (M_law nm)) hx dL_law_2221 rfl rfl hi_17 a_16_e.symm ?_
  refine z_i2l (M := (M_law nm)) dL_law_2222 ?_
  refine z_bipush (M := (M_law nm)) dL_law_2223 (by decide +kernel) ?_
  refine z_lshl (M := (M_law nm)) dL_law_2225 ?_
  refine z_aload_n (M := (M_law nm)) dL_law_2226 rfl ?_
  refine z_iload (M := (M_law nm)) dL_law_2227 rfl ?_
  refine z_iconst (M := (M_law nm)) dL_law_2229 ?_
  refine z_iadd (M := (M_law nm)) dL_law_2230 ?_
  obtain ⟨hi_19, H⟩ := ck_e H
  obtain ⟨a_18, a_18_e, H⟩ := lt_e H
  refine z_sald (M := (M_law nm)) hx dL_law_2231 rfl rfl hi_19 a_18_e.symm ?_
  refine z_i2l (M := (M_law nm)) dL_law_2232 ?_
  refine z_ldc2 (M := (M_law nm)) (n := 4294967295) dL_law_2233 t_3705 (by decide +kernel) ?_
  refine z_land (M := (M_law nm)) dL_law_2236 ?_
  refine z_lor (M := (M_law nm)) dL_law_2237 ?_
  refine z_aload_n (M := (M_law nm)) dL_law_2238 rfl ?_
  refine z_iload (M := (M_law nm)) dL_law_2239 rfl ?_
  refine z_iconst (M := (M_law nm)) dL_law_2241 ?_
  refine z_iadd (M := (M_law nm)) dL_law_2242 ?_
  obtain ⟨hi_21, H⟩ := ck_e H
  obtain ⟨a_20, a_20_e, H⟩ := lt_e H
  refine z_sald (M := (M_law nm)) hx dL_law_2243 rfl rfl hi_21 a_20_e.symm ?_
  refine z_i2l (M := (M_law nm)) dL_law_2244 ?_
  refine z_bipush (M := (M_law nm)) dL_law_2245 (by decide +kernel) ?_
  refine z_lshl (M := (M_law nm)) dL_law_2247 ?_
  refine z_aload_n (M := (M_law nm)) dL_law_2248 rfl ?_
  refine z_iload (M := (M_law nm)) dL_law_2249 rfl ?_
  refine z_iconst (M := (M_law nm)) dL_law_2251 ?_
  refine z_iadd (M := (M_law nm)) dL_law_2252 ?_
  obtain ⟨hi_23, H⟩ := ck_e H
  obtain ⟨a_22, a_22_e, H⟩ := lt_e H
  refine z_sald (M := (M_law nm)) hx dL_law_2253 rfl rfl hi_23 a_22_e.symm ?_
  refine z_i2l (M := (M_law nm)) dL_law_2254 ?_
  refine z_ldc2 (M := (M_law nm)) (n := 4294967295) dL_law_2255 t_3705 (by decide +kernel) ?_
  refine z_land (M := (M_law nm)) dL_law_2258 ?_
  refine z_lor (M := (M_law nm)) dL_law_2259 ?_
  obtain ⟨σ_25, hc_24, H⟩ := bd_e H
  refine z_callV (M := (M_law nm)) (M' := M_X12_point) (as := [vi a_14, vl (q_lor (q_lsl (w32 a_16) 32) (q_lan (w32 a_18) 4294967295)), vl (q_lor (q_lsl (w32 a_20) 32) (q_lan (w32 a_22) 4294967295))]) (rest := []) rfl rfl dL_law_2260 m_X12_point t_3150 t_3151 t_3152 (c_X12_point hl  hc_24) rfl rfl ly_277 rfl (Nat.le_of_ble_eq_true rfl) (Nat.le_of_ble_eq_true rfl) (by omega) (by omega) ?_
  refine z_st (st' := []) rfl ?_
  refine z_aload_n (M := (M_law nm)) dL_law_2263 rfl ?_
  refine z_callV (M := (M_law nm)) (M' := M_X12_thrown) (as := []) (rest := []) rfl rfl dL_law_2264 m_X12_thrown t_2797 t_2798 t_2799 (c_X12_thrown hl  rfl) rfl rfl ly_277 rfl (Nat.le_of_ble_eq_true rfl) (Nat.le_of_ble_eq_true rfl) (by omega) (by omega) ?_
  refine z_st (st' := [vi (fR_thrown σ_25)]) rfl ?_
  refine z_iload (M := (M_law nm)) dL_law_2267 rfl ?_
  rcases if_e H with ⟨h_26, H⟩ | ⟨h_26, H⟩
  · refine z_icmp_eq_f (M := (M_law nm)) (tgt := 2274) dL_law_2269 (by decide) rfl rfl h_26 ?_
    refine z_zconst (M := (M_law nm)) (b := false) dL_law_2272 rfl ?_
    cases H
  · refine z_icmp_eq_t (M := (M_law nm)) (tgt := 2274) dL_law_2269 (by decide) rfl rfl (Decidable.not_not.mp h_26) ?_
    refine z_goto (M := (M_law nm)) (tgt := 2449) dL_law_2274 (by decide) ?_
    refine z_le (lv' := [some (vr 0), some (vr 32), some (vr 277), some (vr 359), some (vi i_0), none, none, none]) ⟨Or.inr rfl, Or.inr rfl, Or.inr rfl, Or.inr rfl, Or.inr rfl, Or.inl rfl, Or.inl rfl, Or.inl rfl, trivial⟩ ?_
    cases H
    exact z_wide (by omega) (by omega) J
theorem s_case30 (hl : l.stackTraces = false) {nm : String} {post : Outc → SG → Prop} {σ σ' : SG} {xs : Nat → Int32} {L : Nat} (hx : E.2.2.2.2 0 = some (L, xs)) {i_0 : Int} {cu su : Nat} (hcu : cu + 16 ≤ 601024) (hsu : su + 96 ≤ 7293000) (H : fS_30 σ xs L i_0 = some (true, σ')) (J : YY l E (M_law nm) 1312 601024 7293000 post 2449 [some (vr 0), some (vr 32), some (vr 277), some (vr 359), some (vi i_0), none, none, none] [] σ' (cu + 16) (su + 96)) : YY l E (M_law nm) 1312 601024 7293000 post 2277 [some (vr 0), some (vr 32), some (vr 277), some (vr 359), some (vi i_0), none, none, none] [] σ cu su := by
  unfold fS_30 at H
  refine z_aload_n (M := (M_law nm)) dL_law_2277 rfl ?_
  refine z_aload_n (M := (M_law nm)) dL_law_2278 rfl ?_
  refine z_iload (M := (M_law nm)) dL_law_2279 rfl ?_
  refine z_iconst (M := (M_law nm)) dL_law_2281 ?_
  refine z_iadd (M := (M_law nm)) dL_law_2282 ?_
  obtain ⟨hi_2, H⟩ := ck_e H
  obtain ⟨a_1, a_1_e, H⟩ := lt_e H
  refine z_sald (M := (M_law nm)) hx dL_law_2283 rfl rfl hi_2 a_1_e.symm ?_
  refine z_aload_n (M := (M_law nm)) dL_law_2284 rfl ?_
  refine z_iload (M := (M_law nm)) dL_law_2285 rfl ?_
  refine z_iconst (M := (M_law nm)) dL_law_2287 ?_
  refine z_iadd (M := (M_law nm)) dL_law_2288 ?_
  obtain ⟨hi_4, H⟩ := ck_e H
  obtain ⟨a_3, a_3_e, H⟩ := lt_e H
  refine z_sald (M := (M_law nm)) hx dL_law_2289 rfl rfl hi_4 a_3_e.symm ?_
  refine z_aload_n (M := (M_law nm)) dL_law_2290 rfl ?_
  refine z_iload (M := (M_law nm)) dL_law_2291 rfl ?_
  refine z_iconst (M := (M_law nm)) dL_law_2293 ?_
  refine z_iadd (M := (M_law nm)) dL_law_2294 ?_
  obtain ⟨hi_6, H⟩ := ck_e H
  obtain ⟨a_5, a_5_e, H⟩ := lt_e H
  refine z_sald (M := (M_law nm)) hx dL_law_2295 rfl rfl hi_6 a_5_e.symm ?_
  refine z_aload_n (M := (M_law nm)) dL_law_2296 rfl ?_
  obtain ⟨⟨x_9, σ_8⟩, hc_7, H⟩ := bd_e H
  refine z_callSW (M := (M_law nm)) (M' := M_L_side) (as := [vr 32, vi a_1, vi a_3, vi a_5, vr 359]) (rest := []) rfl rfl dL_law_2297 m_L_side t_2316 t_2317 (c_L_side hl hc_7) rfl rfl (Nat.le_of_ble_eq_true rfl) (Nat.le_of_ble_eq_true rfl) (by omega) (by omega) ?_
  refine z_st (st' := [vi x_9]) rfl ?_
  refine z_istore (M := (M_law nm)) (lv' := [some (vr 0), some (vr 32), some (vr 277), some (vr 359), some (vi i_0), some (vi x_9), none, none]) dL_law_2300 (Nat.le_of_ble_eq_true rfl) rfl rfl ?_
  refine z_aload_n (M := (M_law nm)) dL_law_2302 rfl ?_
  refine z_aload_n (M := (M_law nm)) dL_law_2303 rfl ?_
  refine z_iload (M := (M_law nm)) dL_law_2304 rfl ?_
  refine z_iconst (M := (M_law nm)) dL_law_2306 ?_
  refine z_iadd (M := (M_law nm)) dL_law_2307 ?_
  obtain ⟨hi_11, H⟩ := ck_e H
  obtain ⟨a_10, a_10_e, H⟩ := lt_e H
  refine z_sald (M := (M_law nm)) hx dL_law_2308 rfl rfl hi_11 a_10_e.symm ?_
  refine z_aload_n (M := (M_law nm)) dL_law_2309 rfl ?_
  refine z_iload (M := (M_law nm)) dL_law_2310 rfl ?_
  refine z_iconst (M := (M_law nm)) dL_law_2312 ?_
  refine z_iadd (M := (M_law nm)) dL_law_2313 ?_
  obtain ⟨hi_13, H⟩ := ck_e H
  obtain ⟨a_12, a_12_e, H⟩ := lt_e H
  refine z_sald (M := (M_law nm)) hx dL_law_2314 rfl rfl hi_13 a_12_e.symm ?_
  refine z_aload_n (M := (M_law nm)) dL_law_2315 rfl ?_
  refine z_iload (M := (M_law nm)) dL_law_2316 rfl ?_
  refine z_iconst (M := (M_law nm)) dL_law_2318 ?_
  refine z_iadd (M := (M_law nm)) dL_law_2319 ?_
  obtain ⟨hi_15, H⟩ := ck_e H
  obtain ⟨a_14, a_14_e, H⟩ := lt_e H
  refine z_sald (M := (M_law nm)) hx dL_law_2320 rfl rfl hi_15 a_14_e.symm ?_
  obtain ⟨⟨x_18, σ_17⟩, hc_16, H⟩ := bd_e H
  refine z_callV (M := (M_law nm)) (M' := M_X12_side) (as := [vi a_10, vi a_12, vi a_14]) (rest := []) rfl rfl dL_law_2321 m_X12_side t_3157 t_3158 t_3159 (c_X12_side hl  hc_16) rfl rfl ly_277 rfl (Nat.le_of_ble_eq_true rfl) (Nat.le_of_ble_eq_true rfl) (by omega) (by omega) ?_
  refine z_st (st' := [vi x_18]) rfl ?_
  refine z_istore (M := (M_law nm)) (lv' := [some (vr 0), some (vr 32), some (vr 277), some (vr 359), some (vi i_0), some (vi x_9), some (vi x_18), none]) dL_law_2324 (Nat.le_of_ble_eq_true rfl) rfl rfl ?_
  refine z_aload_n (M := (M_law nm)) dL_law_2326 rfl ?_
  refine z_callV (M := (M_law nm)) (M' := M_X12_thrown) (as := []) (rest := []) rfl rfl dL_law_2327 m_X12_thrown t_2797 t_2798 t_2799 (c_X12_thrown hl  rfl) rfl rfl ly_277 rfl (Nat.le_of_ble_eq_true rfl) (Nat.le_of_ble_eq_true rfl) (by omega) (by omega) ?_
  refine z_st (st' := [vi (fR_thrown σ_17)]) rfl ?_
  refine z_iload (M := (M_law nm)) dL_law_2330 rfl ?_
  rcases if_e H with ⟨h_19, H⟩ | ⟨h_19, H⟩
  · refine z_icmp_eq_f (M := (M_law nm)) (tgt := 2337) dL_law_2332 (by decide) rfl rfl h_19 ?_
    refine z_zconst (M := (M_law nm)) (b := false) dL_law_2335 rfl ?_
    cases H
  · refine z_icmp_eq_t (M := (M_law nm)) (tgt := 2337) dL_law_2332 (by decide) rfl rfl (Decidable.not_not.mp h_19) ?_
    refine z_iload (M := (M_law nm)) dL_law_2337 rfl ?_
    rcases if_e H with ⟨h_27, H⟩ | ⟨h_27, H⟩
    · refine z_if_ne_f (M := (M_law nm)) (tgt := 2354) dL_law_2339 (by decide) rfl h_27 ?_
      refine z_aload_n (M := (M_law nm)) dL_law_2342 rfl ?_
      refine z_iconst (M := (M_law nm)) dL_law_2343 ?_
      obtain ⟨x_28, x_28_e, hi_29, H⟩ := rd_e H
      refine z_lald (M := (M_law nm)) dL_law_2344 ly_359 rfl (by decide +kernel) rfl hi_29 x_28_e ?_
      refine z_iload (M := (M_law nm)) dL_law_2345 rfl ?_
      refine z_i2l (M := (M_law nm)) dL_law_2347 ?_
      refine z_lcmp (M := (M_law nm)) dL_law_2348 ?_
      rcases if_e H with ⟨h_30, H⟩ | ⟨h_30, H⟩
      · refine z_lif_eq_f (M := (M_law nm)) (tgt := 2354) dL_law_2349 (by decide) rfl rfl h_30 ?_
        refine z_zconst (M := (M_law nm)) (b := false) dL_law_2352 rfl ?_
        cases H
      · refine z_lif_eq_t (M := (M_law nm)) (tgt := 2354) dL_law_2349 (by decide) rfl rfl (Decidable.not_not.mp h_30) ?_
        refine z_goto (M := (M_law nm)) (tgt := 2449) dL_law_2354 (by decide) ?_
        refine z_le (lv' := [some (vr 0), some (vr 32), some (vr 277), some (vr 359), some (vi i_0), none, none, none]) ⟨Or.inr rfl, Or.inr rfl, Or.inr rfl, Or.inr rfl, Or.inr rfl, Or.inl rfl, Or.inl rfl, Or.inl rfl, trivial⟩ ?_
        cases H
        exact z_wide (by omega) (by omega) J
    · refine z_if_ne_t (M := (M_law nm)) (tgt := 2354) dL_law_2339 (by decide) rfl h_27 ?_
      refine z_goto (M := (M_law nm)) (tgt := 2449) dL_law_2354 (by decide) ?_
      refine z_le (lv' := [some (vr 0), some (vr 32), some (vr 277), some (vr 359), some (vi i_0), none, none, none]) ⟨Or.inr rfl, Or.inr rfl, Or.inr rfl, Or.inr rfl, Or.inr rfl, Or.inl rfl, Or.inl rfl, Or.inl rfl, trivial⟩ ?_
      cases H
      exact z_wide (by omega) (by omega) J
end LCAB
