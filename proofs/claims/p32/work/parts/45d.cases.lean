section LCAB
variable {l : Launch} {E : EE}
theorem s_case27 (hl : l.stackTraces = false) {nm : String} {post : Outc → SG → Prop} {σ σ' : SG} {xs : Nat → Int32} {L : Nat} (hx : E.2.2.2.2 0 = some (L, xs)) {i_0 : Int} {cu su : Nat} (hcu : cu + 16 ≤ 601024) (hsu : su + 96 ≤ 7293000) (H : fS_27 σ xs L i_0 = some (true, σ')) (J : YY l E (M_law nm) 1312 601024 7293000 post 1606 [some (vr 0), some (vr 32), some (vr 277), some (vr 359), some (vi i_0), none, none, none] [] σ' (cu + 16) (su + 96)) : YY l E (M_law nm) 1312 601024 7293000 post 1257 [some (vr 0), some (vr 32), some (vr 277), some (vr 359), some (vi i_0), none, none, none] [] σ cu su := by
  unfold fS_27 at H
  refine z_aload_n (M := (M_law nm)) dL_law_1257 rfl ?_
  refine z_aload_n (M := (M_law nm)) dL_law_1258 rfl ?_
  refine z_iload (M := (M_law nm)) dL_law_1259 rfl ?_
  refine z_iconst (M := (M_law nm)) dL_law_1261 ?_
  refine z_iadd (M := (M_law nm)) dL_law_1262 ?_
  obtain ⟨hi_2, H⟩ := ck_e H
  obtain ⟨a_1, a_1_e, H⟩ := lt_e H
  refine z_sald (M := (M_law nm)) hx dL_law_1263 rfl rfl hi_2 a_1_e.symm ?_
  refine z_aload_n (M := (M_law nm)) dL_law_1264 rfl ?_
  refine z_iload (M := (M_law nm)) dL_law_1265 rfl ?_
  refine z_iconst (M := (M_law nm)) dL_law_1267 ?_
  refine z_iadd (M := (M_law nm)) dL_law_1268 ?_
  obtain ⟨hi_4, H⟩ := ck_e H
  obtain ⟨a_3, a_3_e, H⟩ := lt_e H
  refine z_sald (M := (M_law nm)) hx dL_law_1269 rfl rfl hi_4 a_3_e.symm ?_
  refine z_aload_n (M := (M_law nm)) dL_law_1270 rfl ?_
  refine z_iload (M := (M_law nm)) dL_law_1271 rfl ?_
  refine z_iconst (M := (M_law nm)) dL_law_1273 ?_
  refine z_iadd (M := (M_law nm)) dL_law_1274 ?_
  obtain ⟨hi_6, H⟩ := ck_e H
  obtain ⟨a_5, a_5_e, H⟩ := lt_e H
  refine z_sald (M := (M_law nm)) hx dL_law_1275 rfl rfl hi_6 a_5_e.symm ?_
  refine z_aload_n (M := (M_law nm)) dL_law_1276 rfl ?_
  obtain ⟨⟨x_9, σ_8⟩, hc_7, H⟩ := bd_e H
  refine z_callSW (M := (M_law nm)) (M' := M_L_ordinate) (as := [vr 32, vi a_1, vi a_3, vi a_5, vr 359]) (rest := []) rfl rfl dL_law_1277 m_L_ordinate t_2284 t_2285 (c_L_ordinate hl hc_7) rfl rfl (Nat.le_of_ble_eq_true rfl) (Nat.le_of_ble_eq_true rfl) (by omega) (by omega) ?_
  refine z_st (st' := [vi x_9]) rfl ?_
  refine z_istore (M := (M_law nm)) (lv' := [some (vr 0), some (vr 32), some (vr 277), some (vr 359), some (vi i_0), some (vi x_9), none, none]) dL_law_1280 (Nat.le_of_ble_eq_true rfl) rfl rfl ?_
  refine z_aload_n (M := (M_law nm)) dL_law_1282 rfl ?_
  refine z_aload_n (M := (M_law nm)) dL_law_1283 rfl ?_
  refine z_iload (M := (M_law nm)) dL_law_1284 rfl ?_
  refine z_iconst (M := (M_law nm)) dL_law_1286 ?_
  refine z_iadd (M := (M_law nm)) dL_law_1287 ?_
  obtain ⟨hi_11, H⟩ := ck_e H
  obtain ⟨a_10, a_10_e, H⟩ := lt_e H
  refine z_sald (M := (M_law nm)) hx dL_law_1288 rfl rfl hi_11 a_10_e.symm ?_
  refine z_aload_n (M := (M_law nm)) dL_law_1289 rfl ?_
  refine z_iload (M := (M_law nm)) dL_law_1290 rfl ?_
  refine z_iconst (M := (M_law nm)) dL_law_1292 ?_
  refine z_iadd (M := (M_law nm)) dL_law_1293 ?_
  obtain ⟨hi_13, H⟩ := ck_e H
  obtain ⟨a_12, a_12_e, H⟩ := lt_e H
  refine z_sald (M := (M_law nm)) hx dL_law_1294 rfl rfl hi_13 a_12_e.symm ?_
  refine z_aload_n (M := (M_law nm)) dL_law_1295 rfl ?_
  refine z_iload (M := (M_law nm)) dL_law_1296 rfl ?_
  refine z_iconst (M := (M_law nm)) dL_law_1298 ?_
  refine z_iadd (M := (M_law nm)) dL_law_1299 ?_
  obtain ⟨hi_15, H⟩ := ck_e H
  obtain ⟨a_14, a_14_e, H⟩ := lt_e H
  refine z_sald (M := (M_law nm)) hx dL_law_1300 rfl rfl hi_15 a_14_e.symm ?_
  obtain ⟨⟨x_18, σ_17⟩, hc_16, H⟩ := bd_e H
  refine z_callV (M := (M_law nm)) (M' := M_X12_ordinate) (as := [vi a_10, vi a_12, vi a_14]) (rest := []) rfl rfl dL_law_1301 m_X12_ordinate t_3110 t_3111 t_3112 (c_X12_ordinate hl  hc_16) rfl rfl ly_277 rfl (Nat.le_of_ble_eq_true rfl) (Nat.le_of_ble_eq_true rfl) (by omega) (by omega) ?_
  refine z_st (st' := [vi x_18]) rfl ?_
  refine z_istore (M := (M_law nm)) (lv' := [some (vr 0), some (vr 32), some (vr 277), some (vr 359), some (vi i_0), some (vi x_9), some (vi x_18), none]) dL_law_1304 (Nat.le_of_ble_eq_true rfl) rfl rfl ?_
  refine z_goto (M := (M_law nm)) (tgt := 1606) dL_law_1306 (by decide) ?_
  refine z_le (lv' := [some (vr 0), some (vr 32), some (vr 277), some (vr 359), some (vi i_0), none, none, none]) ⟨Or.inr rfl, Or.inr rfl, Or.inr rfl, Or.inr rfl, Or.inr rfl, Or.inl rfl, Or.inl rfl, Or.inl rfl, trivial⟩ ?_
  cases H
  exact z_wide (by omega) (by omega) J
theorem s_case28 (hl : l.stackTraces = false) {nm : String} {post : Outc → SG → Prop} {σ σ' : SG} {xs : Nat → Int32} {L : Nat} (hx : E.2.2.2.2 0 = some (L, xs)) {i_0 : Int} {cu su : Nat} (hcu : cu + 16 ≤ 601024) (hsu : su + 96 ≤ 7293000) (H : fS_28 σ xs L i_0 = some (true, σ')) (J : YY l E (M_law nm) 1312 601024 7293000 post 1606 [some (vr 0), some (vr 32), some (vr 277), some (vr 359), some (vi i_0), none, none, none] [] σ' (cu + 16) (su + 96)) : YY l E (M_law nm) 1312 601024 7293000 post 1309 [some (vr 0), some (vr 32), some (vr 277), some (vr 359), some (vi i_0), none, none, none] [] σ cu su := by
  unfold fS_28 at H
  refine z_aload_n (M := (M_law nm)) dL_law_1309 rfl ?_
  refine z_aload_n (M := (M_law nm)) dL_law_1310 rfl ?_
  refine z_iload (M := (M_law nm)) dL_law_1311 rfl ?_
  refine z_iconst (M := (M_law nm)) dL_law_1313 ?_
  refine z_iadd (M := (M_law nm)) dL_law_1314 ?_
  obtain ⟨hi_2, H⟩ := ck_e H
  obtain ⟨a_1, a_1_e, H⟩ := lt_e H
  refine z_sald (M := (M_law nm)) hx dL_law_1315 rfl rfl hi_2 a_1_e.symm ?_
  refine z_aload_n (M := (M_law nm)) dL_law_1316 rfl ?_
  refine z_iload (M := (M_law nm)) dL_law_1317 rfl ?_
  refine z_iconst (M := (M_law nm)) dL_law_1319 ?_
  refine z_iadd (M := (M_law nm)) dL_law_1320 ?_
  obtain ⟨hi_4, H⟩ := ck_e H
  obtain ⟨a_3, a_3_e, H⟩ := lt_e H
  refine z_sald (M := (M_law nm)) hx dL_law_1321 rfl rfl hi_4 a_3_e.symm ?_
  refine z_aload_n (M := (M_law nm)) dL_law_1322 rfl ?_
  obtain ⟨⟨x_7, σ_6⟩, hc_5, H⟩ := bd_e H
  refine z_callSW (M := (M_law nm)) (M' := M_L_count) (as := [vr 32, vi a_1, vi a_3, vr 359]) (rest := []) rfl rfl dL_law_1323 m_L_count t_2291 t_2292 (c_L_count hl hc_5) rfl rfl (Nat.le_of_ble_eq_true rfl) (Nat.le_of_ble_eq_true rfl) (by omega) (by omega) ?_
  refine z_st (st' := [vi x_7]) rfl ?_
  refine z_istore (M := (M_law nm)) (lv' := [some (vr 0), some (vr 32), some (vr 277), some (vr 359), some (vi i_0), some (vi x_7), none, none]) dL_law_1326 (Nat.le_of_ble_eq_true rfl) rfl rfl ?_
  refine z_aload_n (M := (M_law nm)) dL_law_1328 rfl ?_
  refine z_aload_n (M := (M_law nm)) dL_law_1329 rfl ?_
  refine z_iload (M := (M_law nm)) dL_law_1330 rfl ?_
  refine z_iconst (M := (M_law nm)) dL_law_1332 ?_
  refine z_iadd (M := (M_law nm)) dL_law_1333 ?_
  obtain ⟨hi_9, H⟩ := ck_e H
  obtain ⟨a_8, a_8_e, H⟩ := lt_e H
  refine z_sald (M := (M_law nm)) hx dL_law_1334 rfl rfl hi_9 a_8_e.symm ?_
  refine z_aload_n (M := (M_law nm)) dL_law_1335 rfl ?_
  refine z_iload (M := (M_law nm)) dL_law_1336 rfl ?_
  refine z_iconst (M := (M_law nm)) dL_law_1338 ?_
  refine z_iadd (M := (M_law nm)) dL_law_1339 ?_
  obtain ⟨hi_11, H⟩ := ck_e H
  obtain ⟨a_10, a_10_e, H⟩ := lt_e H
  refine z_sald (M := (M_law nm)) hx dL_law_1340 rfl rfl hi_11 a_10_e.symm ?_
  obtain ⟨⟨x_14, σ_13⟩, hc_12, H⟩ := bd_e H
  refine z_callV (M := (M_law nm)) (M' := M_X12_count) (as := [vi a_8, vi a_10]) (rest := []) rfl rfl dL_law_1341 m_X12_count t_3114 t_3115 t_3116 (c_X12_count hl  hc_12) rfl rfl ly_277 rfl (Nat.le_of_ble_eq_true rfl) (Nat.le_of_ble_eq_true rfl) (by omega) (by omega) ?_
  refine z_st (st' := [vi x_14]) rfl ?_
  refine z_istore (M := (M_law nm)) (lv' := [some (vr 0), some (vr 32), some (vr 277), some (vr 359), some (vi i_0), some (vi x_7), some (vi x_14), none]) dL_law_1344 (Nat.le_of_ble_eq_true rfl) rfl rfl ?_
  refine z_goto (M := (M_law nm)) (tgt := 1606) dL_law_1346 (by decide) ?_
  refine z_le (lv' := [some (vr 0), some (vr 32), some (vr 277), some (vr 359), some (vi i_0), none, none, none]) ⟨Or.inr rfl, Or.inr rfl, Or.inr rfl, Or.inr rfl, Or.inr rfl, Or.inl rfl, Or.inl rfl, Or.inl rfl, trivial⟩ ?_
  cases H
  exact z_wide (by omega) (by omega) J
theorem s_case29 (hl : l.stackTraces = false) {nm : String} {post : Outc → SG → Prop} {σ σ' : SG} {xs : Nat → Int32} {L : Nat} (hx : E.2.2.2.2 0 = some (L, xs)) {i_0 : Int} {cu su : Nat} (hcu : cu + 16 ≤ 601024) (hsu : su + 96 ≤ 7293000) (H : fS_29 σ xs L i_0 = some (true, σ')) (J : YY l E (M_law nm) 1312 601024 7293000 post 1606 [some (vr 0), some (vr 32), some (vr 277), some (vr 359), some (vi i_0), none, none, none] [] σ' (cu + 16) (su + 96)) : YY l E (M_law nm) 1312 601024 7293000 post 1349 [some (vr 0), some (vr 32), some (vr 277), some (vr 359), some (vi i_0), none, none, none] [] σ cu su := by
  unfold fS_29 at H
  refine z_aload_n (M := (M_law nm)) dL_law_1349 rfl ?_
  refine z_aload_n (M := (M_law nm)) dL_law_1350 rfl ?_
  refine z_iload (M := (M_law nm)) dL_law_1351 rfl ?_
  refine z_iconst (M := (M_law nm)) dL_law_1353 ?_
  refine z_iadd (M := (M_law nm)) dL_law_1354 ?_
  obtain ⟨hi_2, H⟩ := ck_e H
  obtain ⟨a_1, a_1_e, H⟩ := lt_e H
  refine z_sald (M := (M_law nm)) hx dL_law_1355 rfl rfl hi_2 a_1_e.symm ?_
  refine z_aload_n (M := (M_law nm)) dL_law_1356 rfl ?_
  refine z_iload (M := (M_law nm)) dL_law_1357 rfl ?_
  refine z_iconst (M := (M_law nm)) dL_law_1359 ?_
  refine z_iadd (M := (M_law nm)) dL_law_1360 ?_
  obtain ⟨hi_4, H⟩ := ck_e H
  obtain ⟨a_3, a_3_e, H⟩ := lt_e H
  refine z_sald (M := (M_law nm)) hx dL_law_1361 rfl rfl hi_4 a_3_e.symm ?_
  refine z_i2l (M := (M_law nm)) dL_law_1362 ?_
  refine z_bipush (M := (M_law nm)) dL_law_1363 (by decide +kernel) ?_
  refine z_lshl (M := (M_law nm)) dL_law_1365 ?_
  refine z_aload_n (M := (M_law nm)) dL_law_1366 rfl ?_
  refine z_iload (M := (M_law nm)) dL_law_1367 rfl ?_
  refine z_iconst (M := (M_law nm)) dL_law_1369 ?_
  refine z_iadd (M := (M_law nm)) dL_law_1370 ?_
  obtain ⟨hi_6, H⟩ := ck_e H
  obtain ⟨a_5, a_5_e, H⟩ := lt_e H
  refine z_sald (M := (M_law nm)) hx dL_law_1371 rfl rfl hi_6 a_5_e.symm ?_
  refine z_i2l (M := (M_law nm)) dL_law_1372 ?_
  refine z_ldc2 (M := (M_law nm)) (n := 4294967295) dL_law_1373 t_3705 (by decide +kernel) ?_
  refine z_land (M := (M_law nm)) dL_law_1376 ?_
  refine z_lor (M := (M_law nm)) dL_law_1377 ?_
  refine z_aload_n (M := (M_law nm)) dL_law_1378 rfl ?_
  refine z_iload (M := (M_law nm)) dL_law_1379 rfl ?_
  refine z_iconst (M := (M_law nm)) dL_law_1381 ?_
  refine z_iadd (M := (M_law nm)) dL_law_1382 ?_
  obtain ⟨hi_8, H⟩ := ck_e H
  obtain ⟨a_7, a_7_e, H⟩ := lt_e H
  refine z_sald (M := (M_law nm)) hx dL_law_1383 rfl rfl hi_8 a_7_e.symm ?_
  refine z_i2l (M := (M_law nm)) dL_law_1384 ?_
  refine z_bipush (M := (M_law nm)) dL_law_1385 (by decide +kernel) ?_
  refine z_lshl (M := (M_law nm)) dL_law_1387 ?_
  refine z_aload_n (M := (M_law nm)) dL_law_1388 rfl ?_
  refine z_iload (M := (M_law nm)) dL_law_1389 rfl ?_
  refine z_iconst (M := (M_law nm)) dL_law_1391 ?_
  refine z_iadd (M := (M_law nm)) dL_law_1392 ?_
  obtain ⟨hi_10, H⟩ := ck_e H
  obtain ⟨a_9, a_9_e, H⟩ := lt_e H
  refine z_sald (M := (M_law nm)) hx dL_law_1393 rfl rfl hi_10 a_9_e.symm ?_
  refine z_i2l (M := (M_law nm)) dL_law_1394 ?_
  refine z_ldc2 (M := (M_law nm)) (n := 4294967295) dL_law_1395 t_3705 (by decide +kernel) ?_
  refine z_land (M := (M_law nm)) dL_law_1398 ?_
  refine z_lor (M := (M_law nm)) dL_law_1399 ?_
  obtain ⟨⟨x_13, σ_12⟩, hc_11, H⟩ := bd_e H
  refine z_callSW (M := (M_law nm)) (M' := M_L_point) (as := [vr 32, vi a_1, vl (q_lor (q_lsl (w32 a_3) 32) (q_lan (w32 a_5) 4294967295)), vl (q_lor (q_lsl (w32 a_7) 32) (q_lan (w32 a_9) 4294967295))]) (rest := []) rfl rfl dL_law_1400 m_L_point t_2302 t_2303 (c_L_point hl hc_11) rfl rfl (Nat.le_of_ble_eq_true rfl) (Nat.le_of_ble_eq_true rfl) (by omega) (by omega) ?_
  refine z_st (st' := [vi x_13]) rfl ?_
  refine z_istore (M := (M_law nm)) (lv' := [some (vr 0), some (vr 32), some (vr 277), some (vr 359), some (vi i_0), some (vi x_13), none, none]) dL_law_1403 (Nat.le_of_ble_eq_true rfl) rfl rfl ?_
  refine z_aload_n (M := (M_law nm)) dL_law_1405 rfl ?_
  refine z_aload_n (M := (M_law nm)) dL_law_1406 rfl ?_
  refine z_iload (M := (M_law nm)) dL_law_1407 rfl ?_
  refine z_iconst (M := (M_law nm)) dL_law_1409 ?_
  refine z_iadd (M := (M_law nm)) dL_law_1410 ?_
  obtain ⟨hi_15, H⟩ := ck_e H
  obtain ⟨a_14, a_14_e, H⟩ := lt_e H
  refine z_sald (M := (M_law nm)) hx dL_law_1411 rfl rfl hi_15 a_14_e.symm ?_
  refine z_aload_n (M := (M_law nm)) dL_law_1412 rfl ?_
  refine z_iload (M := (M_law nm)) dL_law_1413 rfl ?_
  refine z_iconst (M := (M_law nm)) dL_law_1415 ?_
  refine z_iadd (M := (M_law nm)) dL_law_1416 ?_
  obtain ⟨hi_17, H⟩ := ck_e H
  obtain ⟨a_16, a_16_e, H⟩ := lt_e H
  refine z_sald (M := (M_law nm)) hx dL_law_1417 rfl rfl hi_17 a_16_e.symm ?_
  refine z_i2l (M := (M_law nm)) dL_law_1418 ?_
  refine z_bipush (M := (M_law nm)) dL_law_1419 (by decide +kernel) ?_
  refine z_lshl (M := (M_law nm)) dL_law_1421 ?_
  refine z_aload_n (M := (M_law nm)) dL_law_1422 rfl ?_
  refine z_iload (M := (M_law nm)) dL_law_1423 rfl ?_
  refine z_iconst (M := (M_law nm)) dL_law_1425 ?_
  refine z_iadd (M := (M_law nm)) dL_law_1426 ?_
  obtain ⟨hi_19, H⟩ := ck_e H
  obtain ⟨a_18, a_18_e, H⟩ := lt_e H
  refine z_sald (M := (M_law nm)) hx dL_law_1427 rfl rfl hi_19 a_18_e.symm ?_
  refine z_i2l (M := (M_law nm)) dL_law_1428 ?_
  refine z_ldc2 (M := (M_law nm)) (n := 4294967295) dL_law_1429 t_3705 (by decide +kernel) ?_
  refine z_land (M := (M_law nm)) dL_law_1432 ?_
  refine z_lor (M := (M_law nm)) dL_law_1433 ?_
  refine z_aload_n (M := (M_law nm)) dL_law_1434 rfl ?_
  refine z_iload (M := (M_law nm)) dL_law_1435 rfl ?_
  refine z_iconst (M := (M_law nm)) dL_law_1437 ?_
  refine z_iadd (M := (M_law nm)) dL_law_1438 ?_
  obtain ⟨hi_21, H⟩ := ck_e H
  obtain ⟨a_20, a_20_e, H⟩ := lt_e H
  refine z_sald (M := (M_law nm)) hx dL_law_1439 rfl rfl hi_21 a_20_e.symm ?_
  refine z_i2l (M := (M_law nm)) dL_law_1440 ?_
  refine z_bipush (M := (M_law nm)) dL_law_1441 (by decide +kernel) ?_
  refine z_lshl (M := (M_law nm)) dL_law_1443 ?_
  refine z_aload_n (M := (M_law nm)) dL_law_1444 rfl ?_
  refine z_iload (M := (M_law nm)) dL_law_1445 rfl ?_
  refine z_iconst (M := (M_law nm)) dL_law_1447 ?_
  refine z_iadd (M := (M_law nm)) dL_law_1448 ?_
  obtain ⟨hi_23, H⟩ := ck_e H
  obtain ⟨a_22, a_22_e, H⟩ := lt_e H
  refine z_sald (M := (M_law nm)) hx dL_law_1449 rfl rfl hi_23 a_22_e.symm ?_
  refine z_i2l (M := (M_law nm)) dL_law_1450 ?_
  refine z_ldc2 (M := (M_law nm)) (n := 4294967295) dL_law_1451 t_3705 (by decide +kernel) ?_
  refine z_land (M := (M_law nm)) dL_law_1454 ?_
  refine z_lor (M := (M_law nm)) dL_law_1455 ?_
  obtain ⟨σ_25, hc_24, H⟩ := bd_e H
  refine z_callV (M := (M_law nm)) (M' := M_X12_point) (as := [vi a_14, vl (q_lor (q_lsl (w32 a_16) 32) (q_lan (w32 a_18) 4294967295)), vl (q_lor (q_lsl (w32 a_20) 32) (q_lan (w32 a_22) 4294967295))]) (rest := []) rfl rfl dL_law_1456 m_X12_point t_3150 t_3151 t_3152 (c_X12_point hl  hc_24) rfl rfl ly_277 rfl (Nat.le_of_ble_eq_true rfl) (Nat.le_of_ble_eq_true rfl) (by omega) (by omega) ?_
  refine z_st (st' := []) rfl ?_
  refine z_goto (M := (M_law nm)) (tgt := 1606) dL_law_1459 (by decide) ?_
  refine z_le (lv' := [some (vr 0), some (vr 32), some (vr 277), some (vr 359), some (vi i_0), none, none, none]) ⟨Or.inr rfl, Or.inr rfl, Or.inr rfl, Or.inr rfl, Or.inr rfl, Or.inl rfl, Or.inl rfl, Or.inl rfl, trivial⟩ ?_
  cases H
  exact z_wide (by omega) (by omega) J
theorem s_case30 (hl : l.stackTraces = false) {nm : String} {post : Outc → SG → Prop} {σ σ' : SG} {xs : Nat → Int32} {L : Nat} (hx : E.2.2.2.2 0 = some (L, xs)) {i_0 : Int} {cu su : Nat} (hcu : cu + 16 ≤ 601024) (hsu : su + 96 ≤ 7293000) (H : fS_30 σ xs L i_0 = some (true, σ')) (J : YY l E (M_law nm) 1312 601024 7293000 post 1606 [some (vr 0), some (vr 32), some (vr 277), some (vr 359), some (vi i_0), none, none, none] [] σ' (cu + 16) (su + 96)) : YY l E (M_law nm) 1312 601024 7293000 post 1462 [some (vr 0), some (vr 32), some (vr 277), some (vr 359), some (vi i_0), none, none, none] [] σ cu su := by
  unfold fS_30 at H
  refine z_aload_n (M := (M_law nm)) dL_law_1462 rfl ?_
  refine z_aload_n (M := (M_law nm)) dL_law_1463 rfl ?_
  refine z_iload (M := (M_law nm)) dL_law_1464 rfl ?_
  refine z_iconst (M := (M_law nm)) dL_law_1466 ?_
  refine z_iadd (M := (M_law nm)) dL_law_1467 ?_
  obtain ⟨hi_2, H⟩ := ck_e H
  obtain ⟨a_1, a_1_e, H⟩ := lt_e H
  refine z_sald (M := (M_law nm)) hx dL_law_1468 rfl rfl hi_2 a_1_e.symm ?_
  refine z_aload_n (M := (M_law nm)) dL_law_1469 rfl ?_
  refine z_iload (M := (M_law nm)) dL_law_1470 rfl ?_
  refine z_iconst (M := (M_law nm)) dL_law_1472 ?_
  refine z_iadd (M := (M_law nm)) dL_law_1473 ?_
  obtain ⟨hi_4, H⟩ := ck_e H
  obtain ⟨a_3, a_3_e, H⟩ := lt_e H
  refine z_sald (M := (M_law nm)) hx dL_law_1474 rfl rfl hi_4 a_3_e.symm ?_
  refine z_aload_n (M := (M_law nm)) dL_law_1475 rfl ?_
  refine z_iload (M := (M_law nm)) dL_law_1476 rfl ?_
  refine z_iconst (M := (M_law nm)) dL_law_1478 ?_
  refine z_iadd (M := (M_law nm)) dL_law_1479 ?_
  obtain ⟨hi_6, H⟩ := ck_e H
  obtain ⟨a_5, a_5_e, H⟩ := lt_e H
  refine z_sald (M := (M_law nm)) hx dL_law_1480 rfl rfl hi_6 a_5_e.symm ?_
  refine z_aload_n (M := (M_law nm)) dL_law_1481 rfl ?_
  obtain ⟨⟨x_9, σ_8⟩, hc_7, H⟩ := bd_e H
  refine z_callSW (M := (M_law nm)) (M' := M_L_side) (as := [vr 32, vi a_1, vi a_3, vi a_5, vr 359]) (rest := []) rfl rfl dL_law_1482 m_L_side t_2316 t_2317 (c_L_side hl hc_7) rfl rfl (Nat.le_of_ble_eq_true rfl) (Nat.le_of_ble_eq_true rfl) (by omega) (by omega) ?_
  refine z_st (st' := [vi x_9]) rfl ?_
  refine z_istore (M := (M_law nm)) (lv' := [some (vr 0), some (vr 32), some (vr 277), some (vr 359), some (vi i_0), some (vi x_9), none, none]) dL_law_1485 (Nat.le_of_ble_eq_true rfl) rfl rfl ?_
  refine z_aload_n (M := (M_law nm)) dL_law_1487 rfl ?_
  refine z_aload_n (M := (M_law nm)) dL_law_1488 rfl ?_
  refine z_iload (M := (M_law nm)) dL_law_1489 rfl ?_
  refine z_iconst (M := (M_law nm)) dL_law_1491 ?_
  refine z_iadd (M := (M_law nm)) dL_law_1492 ?_
  obtain ⟨hi_11, H⟩ := ck_e H
  obtain ⟨a_10, a_10_e, H⟩ := lt_e H
  refine z_sald (M := (M_law nm)) hx dL_law_1493 rfl rfl hi_11 a_10_e.symm ?_
  refine z_aload_n (M := (M_law nm)) dL_law_1494 rfl ?_
  refine z_iload (M := (M_law nm)) dL_law_1495 rfl ?_
  refine z_iconst (M := (M_law nm)) dL_law_1497 ?_
  refine z_iadd (M := (M_law nm)) dL_law_1498 ?_
  obtain ⟨hi_13, H⟩ := ck_e H
  obtain ⟨a_12, a_12_e, H⟩ := lt_e H
  refine z_sald (M := (M_law nm)) hx dL_law_1499 rfl rfl hi_13 a_12_e.symm ?_
  refine z_aload_n (M := (M_law nm)) dL_law_1500 rfl ?_
  refine z_iload (M := (M_law nm)) dL_law_1501 rfl ?_
  refine z_iconst (M := (M_law nm)) dL_law_1503 ?_
  refine z_iadd (M := (M_law nm)) dL_law_1504 ?_
  obtain ⟨hi_15, H⟩ := ck_e H
  obtain ⟨a_14, a_14_e, H⟩ := lt_e H
  refine z_sald (M := (M_law nm)) hx dL_law_1505 rfl rfl hi_15 a_14_e.symm ?_
  obtain ⟨⟨x_18, σ_17⟩, hc_16, H⟩ := bd_e H
  refine z_callV (M := (M_law nm)) (M' := M_X12_side) (as := [vi a_10, vi a_12, vi a_14]) (rest := []) rfl rfl dL_law_1506 m_X12_side t_3157 t_3158 t_3159 (c_X12_side hl  hc_16) rfl rfl ly_277 rfl (Nat.le_of_ble_eq_true rfl) (Nat.le_of_ble_eq_true rfl) (by omega) (by omega) ?_
  refine z_st (st' := [vi x_18]) rfl ?_
  refine z_istore (M := (M_law nm)) (lv' := [some (vr 0), some (vr 32), some (vr 277), some (vr 359), some (vi i_0), some (vi x_9), some (vi x_18), none]) dL_law_1509 (Nat.le_of_ble_eq_true rfl) rfl rfl ?_
  refine z_aload_n (M := (M_law nm)) dL_law_1511 rfl ?_
  refine z_callV (M := (M_law nm)) (M' := M_X12_thrown) (as := []) (rest := []) rfl rfl dL_law_1512 m_X12_thrown t_2797 t_2798 t_2799 (c_X12_thrown hl  rfl) rfl rfl ly_277 rfl (Nat.le_of_ble_eq_true rfl) (Nat.le_of_ble_eq_true rfl) (by omega) (by omega) ?_
  refine z_st (st' := [vi (fR_thrown σ_17)]) rfl ?_
  refine z_iload (M := (M_law nm)) dL_law_1515 rfl ?_
  rcases if_e H with ⟨h_19, H⟩ | ⟨h_19, H⟩
  · refine z_icmp_eq_f (M := (M_law nm)) (tgt := 1522) dL_law_1517 (by decide) rfl rfl h_19 ?_
    refine z_zconst (M := (M_law nm)) (b := false) dL_law_1520 rfl ?_
    cases H
  · refine z_icmp_eq_t (M := (M_law nm)) (tgt := 1522) dL_law_1517 (by decide) rfl rfl (Decidable.not_not.mp h_19) ?_
    refine z_iload (M := (M_law nm)) dL_law_1522 rfl ?_
    rcases if_e H with ⟨h_27, H⟩ | ⟨h_27, H⟩
    · refine z_if_ne_f (M := (M_law nm)) (tgt := 1539) dL_law_1524 (by decide) rfl h_27 ?_
      refine z_aload_n (M := (M_law nm)) dL_law_1527 rfl ?_
      refine z_iconst (M := (M_law nm)) dL_law_1528 ?_
      obtain ⟨x_28, x_28_e, hi_29, H⟩ := rd_e H
      refine z_lald (M := (M_law nm)) dL_law_1529 ly_359 rfl (by decide +kernel) rfl hi_29 x_28_e ?_
      refine z_iload (M := (M_law nm)) dL_law_1530 rfl ?_
      refine z_i2l (M := (M_law nm)) dL_law_1532 ?_
      refine z_lcmp (M := (M_law nm)) dL_law_1533 ?_
      rcases if_e H with ⟨h_30, H⟩ | ⟨h_30, H⟩
      · refine z_lif_eq_f (M := (M_law nm)) (tgt := 1539) dL_law_1534 (by decide) rfl rfl h_30 ?_
        refine z_zconst (M := (M_law nm)) (b := false) dL_law_1537 rfl ?_
        cases H
      · refine z_lif_eq_t (M := (M_law nm)) (tgt := 1539) dL_law_1534 (by decide) rfl rfl (Decidable.not_not.mp h_30) ?_
        refine z_goto (M := (M_law nm)) (tgt := 1606) dL_law_1539 (by decide) ?_
        refine z_le (lv' := [some (vr 0), some (vr 32), some (vr 277), some (vr 359), some (vi i_0), none, none, none]) ⟨Or.inr rfl, Or.inr rfl, Or.inr rfl, Or.inr rfl, Or.inr rfl, Or.inl rfl, Or.inl rfl, Or.inl rfl, trivial⟩ ?_
        cases H
        exact z_wide (by omega) (by omega) J
    · refine z_if_ne_t (M := (M_law nm)) (tgt := 1539) dL_law_1524 (by decide) rfl h_27 ?_
      refine z_goto (M := (M_law nm)) (tgt := 1606) dL_law_1539 (by decide) ?_
      refine z_le (lv' := [some (vr 0), some (vr 32), some (vr 277), some (vr 359), some (vi i_0), none, none, none]) ⟨Or.inr rfl, Or.inr rfl, Or.inr rfl, Or.inr rfl, Or.inr rfl, Or.inl rfl, Or.inl rfl, Or.inl rfl, trivial⟩ ?_
      cases H
      exact z_wide (by omega) (by omega) J
theorem s_case31 (hl : l.stackTraces = false) {nm : String} {post : Outc → SG → Prop} {σ σ' : SG} {xs : Nat → Int32} {L : Nat} (hx : E.2.2.2.2 0 = some (L, xs)) {i_0 : Int} {cu su : Nat} (hcu : cu + 16 ≤ 601024) (hsu : su + 96 ≤ 7293000) (H : fS_31 σ xs L i_0 = some (true, σ')) (J : YY l E (M_law nm) 1312 601024 7293000 post 1606 [some (vr 0), some (vr 32), some (vr 277), some (vr 359), some (vi i_0), none, none, none] [] σ' (cu + 16) (su + 96)) : YY l E (M_law nm) 1312 601024 7293000 post 1542 [some (vr 0), some (vr 32), some (vr 277), some (vr 359), some (vi i_0), none, none, none] [] σ cu su := by
  unfold fS_31 at H
  refine z_aload_n (M := (M_law nm)) dL_law_1542 rfl ?_
  refine z_aload_n (M := (M_law nm)) dL_law_1543 rfl ?_
  refine z_iload (M := (M_law nm)) dL_law_1544 rfl ?_
  refine z_iconst (M := (M_law nm)) dL_law_1546 ?_
  refine z_iadd (M := (M_law nm)) dL_law_1547 ?_
  obtain ⟨hi_2, H⟩ := ck_e H
  obtain ⟨a_1, a_1_e, H⟩ := lt_e H
  refine z_sald (M := (M_law nm)) hx dL_law_1548 rfl rfl hi_2 a_1_e.symm ?_
  refine z_aload_n (M := (M_law nm)) dL_law_1549 rfl ?_
  refine z_iload (M := (M_law nm)) dL_law_1550 rfl ?_
  refine z_iconst (M := (M_law nm)) dL_law_1552 ?_
  refine z_iadd (M := (M_law nm)) dL_law_1553 ?_
  obtain ⟨hi_4, H⟩ := ck_e H
  obtain ⟨a_3, a_3_e, H⟩ := lt_e H
  refine z_sald (M := (M_law nm)) hx dL_law_1554 rfl rfl hi_4 a_3_e.symm ?_
  refine z_aload_n (M := (M_law nm)) dL_law_1555 rfl ?_
  refine z_iload (M := (M_law nm)) dL_law_1556 rfl ?_
  refine z_iconst (M := (M_law nm)) dL_law_1558 ?_
  refine z_iadd (M := (M_law nm)) dL_law_1559 ?_
  obtain ⟨hi_6, H⟩ := ck_e H
  obtain ⟨a_5, a_5_e, H⟩ := lt_e H
  refine z_sald (M := (M_law nm)) hx dL_law_1560 rfl rfl hi_6 a_5_e.symm ?_
  refine z_aload_n (M := (M_law nm)) dL_law_1561 rfl ?_
  refine z_iload (M := (M_law nm)) dL_law_1562 rfl ?_
  refine z_iconst (M := (M_law nm)) dL_law_1564 ?_
  refine z_iadd (M := (M_law nm)) dL_law_1565 ?_
  obtain ⟨hi_8, H⟩ := ck_e H
  obtain ⟨a_7, a_7_e, H⟩ := lt_e H
  refine z_sald (M := (M_law nm)) hx dL_law_1566 rfl rfl hi_8 a_7_e.symm ?_
  refine z_aload_n (M := (M_law nm)) dL_law_1567 rfl ?_
  obtain ⟨⟨x_11, σ_10⟩, hc_9, H⟩ := bd_e H
  refine z_callSW (M := (M_law nm)) (M' := M_L_circle) (as := [vr 32, vi a_1, vi a_3, vi a_5, vi a_7, vr 359]) (rest := []) rfl rfl dL_law_1568 m_L_circle t_2364 t_2365 (c_L_circle hl hc_9) rfl rfl (Nat.le_of_ble_eq_true rfl) (Nat.le_of_ble_eq_true rfl) (by omega) (by omega) ?_
  refine z_st (st' := [vi x_11]) rfl ?_
  refine z_istore (M := (M_law nm)) (lv' := [some (vr 0), some (vr 32), some (vr 277), some (vr 359), some (vi i_0), some (vi x_11), none, none]) dL_law_1571 (Nat.le_of_ble_eq_true rfl) rfl rfl ?_
  refine z_aload_n (M := (M_law nm)) dL_law_1573 rfl ?_
  refine z_aload_n (M := (M_law nm)) dL_law_1574 rfl ?_
  refine z_iload (M := (M_law nm)) dL_law_1575 rfl ?_
  refine z_iconst (M := (M_law nm)) dL_law_1577 ?_
  refine z_iadd (M := (M_law nm)) dL_law_1578 ?_
  obtain ⟨hi_13, H⟩ := ck_e H
  obtain ⟨a_12, a_12_e, H⟩ := lt_e H
  refine z_sald (M := (M_law nm)) hx dL_law_1579 rfl rfl hi_13 a_12_e.symm ?_
  refine z_aload_n (M := (M_law nm)) dL_law_1580 rfl ?_
  refine z_iload (M := (M_law nm)) dL_law_1581 rfl ?_
  refine z_iconst (M := (M_law nm)) dL_law_1583 ?_
  refine z_iadd (M := (M_law nm)) dL_law_1584 ?_
  obtain ⟨hi_15, H⟩ := ck_e H
  obtain ⟨a_14, a_14_e, H⟩ := lt_e H
  refine z_sald (M := (M_law nm)) hx dL_law_1585 rfl rfl hi_15 a_14_e.symm ?_
  refine z_aload_n (M := (M_law nm)) dL_law_1586 rfl ?_
  refine z_iload (M := (M_law nm)) dL_law_1587 rfl ?_
  refine z_iconst (M := (M_law nm)) dL_law_1589 ?_
  refine z_iadd (M := (M_law nm)) dL_law_1590 ?_
  obtain ⟨hi_17, H⟩ := ck_e H
  obtain ⟨a_16, a_16_e, H⟩ := lt_e H
  refine z_sald (M := (M_law nm)) hx dL_law_1591 rfl rfl hi_17 a_16_e.symm ?_
  refine z_aload_n (M := (M_law nm)) dL_law_1592 rfl ?_
  refine z_iload (M := (M_law nm)) dL_law_1593 rfl ?_
  refine z_iconst (M := (M_law nm)) dL_law_1595 ?_
  refine z_iadd (M := (M_law nm)) dL_law_1596 ?_
  obtain ⟨hi_19, H⟩ := ck_e H
  obtain ⟨a_18, a_18_e, H⟩ := lt_e H
  refine z_sald (M := (M_law nm)) hx dL_law_1597 rfl rfl hi_19 a_18_e.symm ?_
  obtain ⟨⟨x_22, σ_21⟩, hc_20, H⟩ := bd_e H
  refine z_callV (M := (M_law nm)) (M' := M_X12_circle) (as := [vi a_12, vi a_14, vi a_16, vi a_18]) (rest := []) rfl rfl dL_law_1598 m_X12_circle t_3198 t_3199 t_3200 (c_X12_circle hl  hc_20) rfl rfl ly_277 rfl (Nat.le_of_ble_eq_true rfl) (Nat.le_of_ble_eq_true rfl) (by omega) (by omega) ?_
  refine z_st (st' := [vi x_22]) rfl ?_
  refine z_istore (M := (M_law nm)) (lv' := [some (vr 0), some (vr 32), some (vr 277), some (vr 359), some (vi i_0), some (vi x_11), some (vi x_22), none]) dL_law_1601 (Nat.le_of_ble_eq_true rfl) rfl rfl ?_
  refine z_goto (M := (M_law nm)) (tgt := 1606) dL_law_1603 (by decide) ?_
  refine z_le (lv' := [some (vr 0), some (vr 32), some (vr 277), some (vr 359), some (vi i_0), none, none, none]) ⟨Or.inr rfl, Or.inr rfl, Or.inr rfl, Or.inr rfl, Or.inr rfl, Or.inl rfl, Or.inl rfl, Or.inl rfl, trivial⟩ ?_
  cases H
  exact z_wide (by omega) (by omega) J
end LCAB
