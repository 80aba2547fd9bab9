section LCAC
variable {l : Launch} {E : EE}
theorem s_case31 (hl : l.stackTraces = false) {nm : String} {post : Outc → SG → Prop} {σ σ' : SG} {xs : Nat → Int32} {L : Nat} (hx : E.2.2.2.2 0 = some (L, xs)) {i_0 : Int} {cu su : Nat} (hcu : cu + 16 ≤ 601024) (hsu : su + 96 ≤ 7293000) (H : fS_31 σ xs L i_0 = some (true, σ')) (J : YY l E (M_law nm) 1312 601024 7293000 post 2449 [some (vr 0), some (vr 32), some (vr 277), some (vr 359), some (vi i_0), none, none, none] [] σ' (cu + 16) (su + 96)) : YY l E (M_law nm) 1312 601024 7293000 post 2357 [some (vr 0), some (vr 32), some (vr 277), some (vr 359), some (vi i_0), none, none, none] [] σ cu su := by
  unfold fS_31 at H
  refine z_aload_n (M := (M_law nm)) dL_law_2357 rfl ?_
  refine z_aload_n (M := (M_law nm)) dL_law_2358 rfl ?_
  refine z_iload (M := (M_law nm)) dL_law_2359 rfl ?_
  refine z_iconst (M := (M_law nm)) dL_law_2361 ?_
  refine z_iadd (M := (M_law nm)) dL_law_2362 ?_
  obtain ⟨hi_2, H⟩ := ck_e H
  obtain ⟨a_1, a_1_e, H⟩ := lt_e H
  refine z_sald (M := (M_law nm)) hx dL_law_2363 rfl rfl hi_2 a_1_e.symm ?_
  refine z_aload_n (M := (M_law nm)) dL_law_2364 rfl ?_
  refine z_iload (M := (M_law nm)) dL_law_2365 rfl ?_
  refine z_iconst (M := (M_law nm)) dL_law_2367 ?_
  refine z_iadd (M := (M_law nm)) dL_law_2368 ?_
  obtain ⟨hi_4, H⟩ := ck_e H
  obtain ⟨a_3, a_3_e, H⟩ := lt_e H
  refine z_sald (M := (M_law nm)) hx dL_law_2369 rfl rfl hi_4 a_3_e.symm ?_
  refine z_aload_n (M := (M_law nm)) dL_law_2370 rfl ?_
  refine z_iload (M := (M_law nm)) dL_law_2371 rfl ?_
  refine z_iconst (M := (M_law nm)) dL_law_2373 ?_
  refine z_iadd (M := (M_law nm)) dL_law_2374 ?_
  obtain ⟨hi_6, H⟩ := ck_e H
  obtain ⟨a_5, a_5_e, H⟩ := lt_e H
  refine z_sald (M := (M_law nm)) hx dL_law_2375 rfl rfl hi_6 a_5_e.symm ?_
  refine z_aload_n (M := (M_law nm)) dL_law_2376 rfl ?_
  refine z_iload (M := (M_law nm)) dL_law_2377 rfl ?_
  refine z_iconst (M := (M_law nm)) dL_law_2379 ?_
  refine z_iadd (M := (M_law nm)) dL_law_2380 ?_
  obtain ⟨hi_8, H⟩ := ck_e H
  obtain ⟨a_7, a_7_e, H⟩ := lt_e H
  refine z_sald (M := (M_law nm)) hx dL_law_2381 rfl rfl hi_8 a_7_e.symm ?_
  refine z_aload_n (M := (M_law nm)) dL_law_2382 rfl ?_
  obtain ⟨⟨x_11, σ_10⟩, hc_9, H⟩ := bd_e H
  refine z_callSW (M := (M_law nm)) (M' := M_L_circle) (as := [vr 32, vi a_1, vi a_3, vi a_5, vi a_7, vr 359]) (rest := []) rfl rfl dL_law_2383 m_L_circle t_2364 t_2365 (c_L_circle hl hc_9) rfl rfl (Nat.le_of_ble_eq_true rfl) (Nat.le_of_ble_eq_true rfl) (by omega) (by omega) ?_
  refine z_st (st' := [vi x_11]) rfl ?_
  refine z_istore (M := (M_law nm)) (lv' := [some (vr 0), some (vr 32), some (vr 277), some (vr 359), some (vi i_0), some (vi x_11), none, none]) dL_law_2386 (Nat.le_of_ble_eq_true rfl) rfl rfl ?_
  refine z_aload_n (M := (M_law nm)) dL_law_2388 rfl ?_
  refine z_aload_n (M := (M_law nm)) dL_law_2389 rfl ?_
  refine z_iload (M := (M_law nm)) dL_law_2390 rfl ?_
  refine z_iconst (M := (M_law nm)) dL_law_2392 ?_
  refine z_iadd (M := (M_law nm)) dL_law_2393 ?_
  obtain ⟨hi_13, H⟩ := ck_e H
  obtain ⟨a_12, a_12_e, H⟩ := lt_e H
  refine z_sald (M := (M_law nm)) hx dL_law_2394 rfl rfl hi_13 a_12_e.symm ?_
  refine z_aload_n (M := (M_law nm)) dL_law_2395 rfl ?_
  refine z_iload (M := (M_law nm)) dL_law_2396 rfl ?_
  refine z_iconst (M := (M_law nm)) dL_law_2398 ?_
  refine z_iadd (M := (M_law nm)) dL_law_2399 ?_
  obtain ⟨hi_15, H⟩ := ck_e H
  obtain ⟨a_14, a_14_e, H⟩ := lt_e H
  refine z_sald (M := (M_law nm)) hx dL_law_2400 rfl rfl hi_15 a_14_e.symm ?_
  refine z_aload_n (M := (M_law nm)) dL_law_2401 rfl ?_
  refine z_iload (M := (M_law nm)) dL_law_2402 rfl ?_
  refine z_iconst (M := (M_law nm)) dL_law_2404 ?_
  refine z_iadd (M := (M_law nm)) dL_law_2405 ?_
  obtain ⟨hi_17, H⟩ := ck_e H
  obtain ⟨a_16, a_16_e, H⟩ := lt_e H
  refine z_sald (M := (M_law nm)) hx dL_law_2406 rfl rfl hi_17 a_16_e.symm ?_
  refine z_aload_n (M := (M_law nm)) dL_law_2407 rfl ?_
  refine z_iload (M := (M_law nm)) dL_law_2408 rfl ?_
  refine z_iconst (M := (M_law nm)) dL_law_2410 ?_
  refine z_iadd (M := (M_law nm)) dL_law_2411 ?_
  obtain ⟨hi_19, H⟩ := ck_e H
  obtain ⟨a_18, a_18_e, H⟩ := lt_e H
  refine z_sald (M := (M_law nm)) hx dL_law_2412 rfl rfl hi_19 a_18_e.symm ?_
  obtain ⟨⟨x_22, σ_21⟩, hc_20, H⟩ := bd_e H
  refine z_callV (M := (M_law nm)) (M' := M_X12_circle) (as := [vi a_12, vi a_14, vi a_16, vi a_18]) (rest := []) rfl rfl dL_law_2413 m_X12_circle t_3198 t_3199 t_3200 (c_X12_circle hl  hc_20) rfl rfl ly_277 rfl (Nat.le_of_ble_eq_true rfl) (Nat.le_of_ble_eq_true rfl) (by omega) (by omega) ?_
  refine z_st (st' := [vi x_22]) rfl ?_
  refine z_istore (M := (M_law nm)) (lv' := [some (vr 0), some (vr 32), some (vr 277), some (vr 359), some (vi i_0), some (vi x_11), some (vi x_22), none]) dL_law_2416 (Nat.le_of_ble_eq_true rfl) rfl rfl ?_
  refine z_aload_n (M := (M_law nm)) dL_law_2418 rfl ?_
  refine z_callV (M := (M_law nm)) (M' := M_X12_thrown) (as := []) (rest := []) rfl rfl dL_law_2419 m_X12_thrown t_2797 t_2798 t_2799 (c_X12_thrown hl  rfl) rfl rfl ly_277 rfl (Nat.le_of_ble_eq_true rfl) (Nat.le_of_ble_eq_true rfl) (by omega) (by omega) ?_
  refine z_st (st' := [vi (fR_thrown σ_21)]) rfl ?_
  refine z_iload (M := (M_law nm)) dL_law_2422 rfl ?_
  rcases if_e H with ⟨h_23, H⟩ | ⟨h_23, H⟩
  · refine z_icmp_eq_f (M := (M_law nm)) (tgt := 2429) dL_law_2424 (by decide) rfl rfl h_23 ?_
    refine z_zconst (M := (M_law nm)) (b := false) dL_law_2427 rfl ?_
    cases H
  · refine z_icmp_eq_t (M := (M_law nm)) (tgt := 2429) dL_law_2424 (by decide) rfl rfl (Decidable.not_not.mp h_23) ?_
    refine z_iload (M := (M_law nm)) dL_law_2429 rfl ?_
    rcases if_e H with ⟨h_31, H⟩ | ⟨h_31, H⟩
    · refine z_if_ne_f (M := (M_law nm)) (tgt := 2446) dL_law_2431 (by decide) rfl h_31 ?_
      refine z_aload_n (M := (M_law nm)) dL_law_2434 rfl ?_
      refine z_iconst (M := (M_law nm)) dL_law_2435 ?_
      obtain ⟨x_32, x_32_e, hi_33, H⟩ := rd_e H
      refine z_lald (M := (M_law nm)) dL_law_2436 ly_359 rfl (by decide +kernel) rfl hi_33 x_32_e ?_
      refine z_iload (M := (M_law nm)) dL_law_2437 rfl ?_
      refine z_i2l (M := (M_law nm)) dL_law_2439 ?_
      refine z_lcmp (M := (M_law nm)) dL_law_2440 ?_
      rcases if_e H with ⟨h_34, H⟩ | ⟨h_34, H⟩
      · refine z_lif_eq_f (M := (M_law nm)) (tgt := 2446) dL_law_2441 (by decide) rfl rfl h_34 ?_
        refine z_zconst (M := (M_law nm)) (b := false) dL_law_2444 rfl ?_
        cases H
      · refine z_lif_eq_t (M := (M_law nm)) (tgt := 2446) dL_law_2441 (by decide) rfl rfl (Decidable.not_not.mp h_34) ?_
        refine z_goto (M := (M_law nm)) (tgt := 2449) dL_law_2446 (by decide) ?_
        refine z_le (lv' := [some (vr 0), some (vr 32), some (vr 277), some (vr 359), some (vi i_0), none, none, none]) ⟨Or.inr rfl, Or.inr rfl, Or.inr rfl, Or.inr rfl, Or.inr rfl, Or.inl rfl, Or.inl rfl, Or.inl rfl, trivial⟩ ?_
        cases H
        exact z_wide (by omega) (by omega) J
    · refine z_if_ne_t (M := (M_law nm)) (tgt := 2446) dL_law_2431 (by decide) rfl h_31 ?_
      refine z_goto (M := (M_law nm)) (tgt := 2449) dL_law_2446 (by decide) ?_
      refine z_le (lv' := [some (vr 0), some (vr 32), some (vr 277), some (vr 359), some (vi i_0), none, none, none]) ⟨Or.inr rfl, Or.inr rfl, Or.inr rfl, Or.inr rfl, Or.inr rfl, Or.inl rfl, Or.inl rfl, Or.inl rfl, trivial⟩ ?_
      cases H
      exact z_wide (by omega) (by omega) J
end LCAC
