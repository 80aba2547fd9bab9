set_option maxRecDepth 100000 in
set_option maxHeartbeats 1000000 in
theorem c_X12_h3 {l : Launch} {E : EE} (hl : l.stackTraces = false) {h : HP} {a : Nat} {dg : Int32} (ha : ob h a = some (.inr (15, mD))) : XX l E M_X12_init 1 81 1811608 (pR none (modH h a dg)) 564 [some (.ref a), some (.int dg), none] [] (stt h a (.inr (15, mF h.length 66)) ++ mT 66) 66 720084 := by
  refine x_aload_n (M := M_X12_init) dX12_init_564 rfl ?_
  refine x_sipush (M := M_X12_init) dX12_init_565 ?_
  refine x_newJ (M := M_X12_init) (n := 5000) dX12_init_568 t_193 (by decide +kernel) (by decide +kernel) (by decide +kernel) (by decide +kernel) (by decide +kernel) ?_
  refine x_heap (h' := stt h a (.inr (15, mF h.length 66)) ++ mT 67) (by rw [List.append_assoc, mT_add rfl]) ?_
  refine x_put (M := M_X12_init) (ci := 15) (C := RX12) (T := TX12) (N := 135) (ty := tyX12) cl15 dX12_init_570 (ob_app _ (ob_self ha)) 114 (by decide) t_2505 (Or.inr ⟨rfl, rfl⟩) (by rw [mF_len]; decide) rfl ?_
  refine x_norm (h' := (stt h a (.inr (15, mF h.length 67)) ++ mT 67)) (cu' := 67) (su' := 725084) rfl rfl (by rw [stt_mid ha, len_mid, mT_len (by decide), mF_set (by decide) (by decide +kernel) (by decide +kernel)]) rfl rfl ?_
  refine x_aload_n (M := M_X12_init) dX12_init_573 rfl ?_
  refine x_sipush (M := M_X12_init) dX12_init_574 ?_
  refine x_newJ (M := M_X12_init) (n := 5000) dX12_init_577 t_193 (by decide +kernel) (by decide +kernel) (by decide +kernel) (by decide +kernel) (by decide +kernel) ?_
  refine x_heap (h' := stt h a (.inr (15, mF h.length 67)) ++ mT 68) (by rw [List.append_assoc, mT_add rfl]) ?_
  refine x_put (M := M_X12_init) (ci := 15) (C := RX12) (T := TX12) (N := 135) (ty := tyX12) cl15 dX12_init_579 (ob_app _ (ob_self ha)) 115 (by decide) t_2506 (Or.inr ⟨rfl, rfl⟩) (by rw [mF_len]; decide) rfl ?_
  refine x_norm (h' := (stt h a (.inr (15, mF h.length 68)) ++ mT 68)) (cu' := 68) (su' := 730084) rfl rfl (by rw [stt_mid ha, len_mid, mT_len (by decide), mF_set (by decide) (by decide +kernel) (by decide +kernel)]) rfl rfl ?_
  refine x_aload_n (M := M_X12_init) dX12_init_582 rfl ?_
  refine x_sipush (M := M_X12_init) dX12_init_583 ?_
  refine x_newJ (M := M_X12_init) (n := 1025) dX12_init_586 t_193 (by decide +kernel) (by decide +kernel) (by decide +kernel) (by decide +kernel) (by decide +kernel) ?_
  refine x_heap (h' := stt h a (.inr (15, mF h.length 68)) ++ mT 69) (by rw [List.append_assoc, mT_add rfl]) ?_
  refine x_put (M := M_X12_init) (ci := 15) (C := RX12) (T := TX12) (N := 135) (ty := tyX12) cl15 dX12_init_588 (ob_app _ (ob_self ha)) 117 (by decide) t_2508 (Or.inr ⟨rfl, rfl⟩) (by rw [mF_len]; decide) rfl ?_
  refine x_norm (h' := (stt h a (.inr (15, mF h.length 69)) ++ mT 69)) (cu' := 69) (su' := 731109) rfl rfl (by rw [stt_mid ha, len_mid, mT_len (by decide), mF_set (by decide) (by decide +kernel) (by decide +kernel)]) rfl rfl ?_
  refine x_aload_n (M := M_X12_init) dX12_init_591 rfl ?_
  refine x_sipush (M := M_X12_init) dX12_init_592 ?_
  refine x_newJ (M := M_X12_init) (n := 1025) dX12_init_595 t_193 (by decide +kernel) (by decide +kernel) (by decide +kernel) (by decide +kernel) (by decide +kernel) ?_
  refine x_heap (h' := stt h a (.inr (15, mF h.length 69)) ++ mT 70) (by rw [List.append_assoc, mT_add rfl]) ?_
  refine x_put (M := M_X12_init) (ci := 15) (C := RX12) (T := TX12) (N := 135) (ty := tyX12) cl15 dX12_init_597 (ob_app _ (ob_self ha)) 118 (by decide) t_2509 (Or.inr ⟨rfl, rfl⟩) (by rw [mF_len]; decide) rfl ?_
  refine x_norm (h' := (stt h a (.inr (15, mF h.length 70)) ++ mT 70)) (cu' := 70) (su' := 732134) rfl rfl (by rw [stt_mid ha, len_mid, mT_len (by decide), mF_set (by decide) (by decide +kernel) (by decide +kernel)]) rfl rfl ?_
  refine x_aload_n (M := M_X12_init) dX12_init_600 rfl ?_
  refine x_sipush (M := M_X12_init) dX12_init_601 ?_
  refine x_newI (M := M_X12_init) (n := 1025) dX12_init_604 t_97 (by decide +kernel) (by decide +kernel) (by decide +kernel) (by decide +kernel) (by decide +kernel) ?_
  refine x_heap (h' := stt h a (.inr (15, mF h.length 70)) ++ mT 71) (by rw [List.append_assoc, mT_add rfl]) ?_
  refine x_put (M := M_X12_init) (ci := 15) (C := RX12) (T := TX12) (N := 135) (ty := tyX12) cl15 dX12_init_606 (ob_app _ (ob_self ha)) 120 (by decide) t_2511 (Or.inr ⟨rfl, rfl⟩) (by rw [mF_len]; decide) rfl ?_
  refine x_norm (h' := (stt h a (.inr (15, mF h.length 71)) ++ mT 71)) (cu' := 71) (su' := 733159) rfl rfl (by rw [stt_mid ha, len_mid, mT_len (by decide), mF_set (by decide) (by decide +kernel) (by decide +kernel)]) rfl rfl ?_
  refine x_aload_n (M := M_X12_init) dX12_init_609 rfl ?_
  refine x_ldc (M := M_X12_init) dX12_init_610 t_2389 ?_
  refine x_newZ (M := M_X12_init) (n := 1048576) dX12_init_612 t_433 (by decide +kernel) (by decide +kernel) (by decide +kernel) (by decide +kernel) (by decide +kernel) ?_
  refine x_heap (h' := stt h a (.inr (15, mF h.length 71)) ++ mT 72) (by rw [List.append_assoc, mT_add rfl]) ?_
  refine x_put (M := M_X12_init) (ci := 15) (C := RX12) (T := TX12) (N := 135) (ty := tyX12) cl15 dX12_init_614 (ob_app _ (ob_self ha)) 122 (by decide) t_2513 (Or.inr ⟨rfl, rfl⟩) (by rw [mF_len]; decide) rfl ?_
  refine x_norm (h' := (stt h a (.inr (15, mF h.length 72)) ++ mT 72)) (cu' := 72) (su' := 1781735) rfl rfl (by rw [stt_mid ha, len_mid, mT_len (by decide), mF_set (by decide) (by decide +kernel) (by decide +kernel)]) rfl rfl ?_
  refine x_aload_n (M := M_X12_init) dX12_init_617 rfl ?_
  refine x_sipush (M := M_X12_init) dX12_init_618 ?_
  refine x_newI (M := M_X12_init) (n := 8200) dX12_init_621 t_97 (by decide +kernel) (by decide +kernel) (by decide +kernel) (by decide +kernel) (by decide +kernel) ?_
  refine x_heap (h' := stt h a (.inr (15, mF h.length 72)) ++ mT 73) (by rw [List.append_assoc, mT_add rfl]) ?_
  refine x_put (M := M_X12_init) (ci := 15) (C := RX12) (T := TX12) (N := 135) (ty := tyX12) cl15 dX12_init_623 (ob_app _ (ob_self ha)) 123 (by decide) t_2514 (Or.inr ⟨rfl, rfl⟩) (by rw [mF_len]; decide) rfl ?_
  refine x_norm (h' := (stt h a (.inr (15, mF h.length 73)) ++ mT 73)) (cu' := 73) (su' := 1789935) rfl rfl (by rw [stt_mid ha, len_mid, mT_len (by decide), mF_set (by decide) (by decide +kernel) (by decide +kernel)]) rfl rfl ?_
  refine x_aload_n (M := M_X12_init) dX12_init_626 rfl ?_
  refine x_sipush (M := M_X12_init) dX12_init_627 ?_
  refine x_newI (M := M_X12_init) (n := 8200) dX12_init_630 t_97 (by decide +kernel) (by decide +kernel) (by decide +kernel) (by decide +kernel) (by decide +kernel) ?_
  refine x_heap (h' := stt h a (.inr (15, mF h.length 73)) ++ mT 74) (by rw [List.append_assoc, mT_add rfl]) ?_
  refine x_put (M := M_X12_init) (ci := 15) (C := RX12) (T := TX12) (N := 135) (ty := tyX12) cl15 dX12_init_632 (ob_app _ (ob_self ha)) 124 (by decide) t_2515 (Or.inr ⟨rfl, rfl⟩) (by rw [mF_len]; decide) rfl ?_
  refine x_norm (h' := (stt h a (.inr (15, mF h.length 74)) ++ mT 74)) (cu' := 74) (su' := 1798135) rfl rfl (by rw [stt_mid ha, len_mid, mT_len (by decide), mF_set (by decide) (by decide +kernel) (by decide +kernel)]) rfl rfl ?_
  refine x_aload_n (M := M_X12_init) dX12_init_635 rfl ?_
  refine x_sipush (M := M_X12_init) dX12_init_636 ?_
  refine x_newI (M := M_X12_init) (n := 1025) dX12_init_639 t_97 (by decide +kernel) (by decide +kernel) (by decide +kernel) (by decide +kernel) (by decide +kernel) ?_
  refine x_heap (h' := stt h a (.inr (15, mF h.length 74)) ++ mT 75) (by rw [List.append_assoc, mT_add rfl]) ?_
  refine x_put (M := M_X12_init) (ci := 15) (C := RX12) (T := TX12) (N := 135) (ty := tyX12) cl15 dX12_init_641 (ob_app _ (ob_self ha)) 126 (by decide) t_2517 (Or.inr ⟨rfl, rfl⟩) (by rw [mF_len]; decide) rfl ?_
  refine x_norm (h' := (stt h a (.inr (15, mF h.length 75)) ++ mT 75)) (cu' := 75) (su' := 1799160) rfl rfl (by rw [stt_mid ha, len_mid, mT_len (by decide), mF_set (by decide) (by decide +kernel) (by decide +kernel)]) rfl rfl ?_
  refine x_aload_n (M := M_X12_init) dX12_init_644 rfl ?_
  refine x_sipush (M := M_X12_init) dX12_init_645 ?_
  refine x_newI (M := M_X12_init) (n := 2100) dX12_init_648 t_97 (by decide +kernel) (by decide +kernel) (by decide +kernel) (by decide +kernel) (by decide +kernel) ?_
  refine x_heap (h' := stt h a (.inr (15, mF h.length 75)) ++ mT 76) (by rw [List.append_assoc, mT_add rfl]) ?_
  refine x_put (M := M_X12_init) (ci := 15) (C := RX12) (T := TX12) (N := 135) (ty := tyX12) cl15 dX12_init_650 (ob_app _ (ob_self ha)) 128 (by decide) t_2519 (Or.inr ⟨rfl, rfl⟩) (by rw [mF_len]; decide) rfl ?_
  refine x_norm (h' := (stt h a (.inr (15, mF h.length 76)) ++ mT 76)) (cu' := 76) (su' := 1801260) rfl rfl (by rw [stt_mid ha, len_mid, mT_len (by decide), mF_set (by decide) (by decide +kernel) (by decide +kernel)]) rfl rfl ?_
  refine x_aload_n (M := M_X12_init) dX12_init_653 rfl ?_
  refine x_sipush (M := M_X12_init) dX12_init_654 ?_
  refine x_newI (M := M_X12_init) (n := 2100) dX12_init_657 t_97 (by decide +kernel) (by decide +kernel) (by decide +kernel) (by decide +kernel) (by decide +kernel) ?_
  refine x_heap (h' := stt h a (.inr (15, mF h.length 76)) ++ mT 77) (by rw [List.append_assoc, mT_add rfl]) ?_
  refine x_put (M := M_X12_init) (ci := 15) (C := RX12) (T := TX12) (N := 135) (ty := tyX12) cl15 dX12_init_659 (ob_app _ (ob_self ha)) 129 (by decide) t_2520 (Or.inr ⟨rfl, rfl⟩) (by rw [mF_len]; decide) rfl ?_
  refine x_norm (h' := (stt h a (.inr (15, mF h.length 77)) ++ mT 77)) (cu' := 77) (su' := 1803360) rfl rfl (by rw [stt_mid ha, len_mid, mT_len (by decide), mF_set (by decide) (by decide +kernel) (by decide +kernel)]) rfl rfl ?_
  refine x_aload_n (M := M_X12_init) dX12_init_662 rfl ?_
  refine x_sipush (M := M_X12_init) dX12_init_663 ?_
  refine x_newI (M := M_X12_init) (n := 2100) dX12_init_666 t_97 (by decide +kernel) (by decide +kernel) (by decide +kernel) (by decide +kernel) (by decide +kernel) ?_
  refine x_heap (h' := stt h a (.inr (15, mF h.length 77)) ++ mT 78) (by rw [List.append_assoc, mT_add rfl]) ?_
  refine x_put (M := M_X12_init) (ci := 15) (C := RX12) (T := TX12) (N := 135) (ty := tyX12) cl15 dX12_init_668 (ob_app _ (ob_self ha)) 130 (by decide) t_2521 (Or.inr ⟨rfl, rfl⟩) (by rw [mF_len]; decide) rfl ?_
  refine x_norm (h' := (stt h a (.inr (15, mF h.length 78)) ++ mT 78)) (cu' := 78) (su' := 1805460) rfl rfl (by rw [stt_mid ha, len_mid, mT_len (by decide), mF_set (by decide) (by decide +kernel) (by decide +kernel)]) rfl rfl ?_
  refine x_aload_n (M := M_X12_init) dX12_init_671 rfl ?_
  refine x_sipush (M := M_X12_init) dX12_init_672 ?_
  refine x_newZ (M := M_X12_init) (n := 2048) dX12_init_675 t_433 (by decide +kernel) (by decide +kernel) (by decide +kernel) (by decide +kernel) (by decide +kernel) ?_
  refine x_heap (h' := stt h a (.inr (15, mF h.length 78)) ++ mT 79) (by rw [List.append_assoc, mT_add rfl]) ?_
  refine x_put (M := M_X12_init) (ci := 15) (C := RX12) (T := TX12) (N := 135) (ty := tyX12) cl15 dX12_init_677 (ob_app _ (ob_self ha)) 132 (by decide) t_2523 (Or.inr ⟨rfl, rfl⟩) (by rw [mF_len]; decide) rfl ?_
  refine x_norm (h' := (stt h a (.inr (15, mF h.length 79)) ++ mT 79)) (cu' := 79) (su' := 1807508) rfl rfl (by rw [stt_mid ha, len_mid, mT_len (by decide), mF_set (by decide) (by decide +kernel) (by decide +kernel)]) rfl rfl ?_
  refine x_aload_n (M := M_X12_init) dX12_init_680 rfl ?_
  refine x_sipush (M := M_X12_init) dX12_init_681 ?_
  refine x_newI (M := M_X12_init) (n := 2050) dX12_init_684 t_97 (by decide +kernel) (by decide +kernel) (by decide +kernel) (by decide +kernel) (by decide +kernel) ?_
  refine x_heap (h' := stt h a (.inr (15, mF h.length 79)) ++ mT 80) (by rw [List.append_assoc, mT_add rfl]) ?_
  refine x_put (M := M_X12_init) (ci := 15) (C := RX12) (T := TX12) (N := 135) (ty := tyX12) cl15 dX12_init_686 (ob_app _ (ob_self ha)) 133 (by decide) t_2524 (Or.inr ⟨rfl, rfl⟩) (by rw [mF_len]; decide) rfl ?_
  refine x_norm (h' := (stt h a (.inr (15, mF h.length 80)) ++ mT 80)) (cu' := 80) (su' := 1809558) rfl rfl (by rw [stt_mid ha, len_mid, mT_len (by decide), mF_set (by decide) (by decide +kernel) (by decide +kernel)]) rfl rfl ?_
  refine x_aload_n (M := M_X12_init) dX12_init_689 rfl ?_
  refine x_sipush (M := M_X12_init) dX12_init_690 ?_
  refine x_newI (M := M_X12_init) (n := 2050) dX12_init_693 t_97 (by decide +kernel) (by decide +kernel) (by decide +kernel) (by decide +kernel) (by decide +kernel) ?_
  refine x_heap (h' := stt h a (.inr (15, mF h.length 80)) ++ mT 81) (by rw [List.append_assoc, mT_add rfl]) ?_
  refine x_put (M := M_X12_init) (ci := 15) (C := RX12) (T := TX12) (N := 135) (ty := tyX12) cl15 dX12_init_695 (ob_app _ (ob_self ha)) 134 (by decide) t_2525 (Or.inr ⟨rfl, rfl⟩) (by rw [mF_len]; decide) rfl ?_
  refine x_norm (h' := (stt h a (.inr (15, mF h.length 81)) ++ mT 81)) (cu' := 81) (su' := 1811608) rfl rfl (by rw [stt_mid ha, len_mid, mT_len (by decide), mF_set (by decide) (by decide +kernel) (by decide +kernel)]) rfl rfl ?_
  refine x_aload_n (M := M_X12_init) dX12_init_698 rfl ?_
  refine x_iload_n (M := M_X12_init) dX12_init_699 rfl ?_
  refine x_iconst (M := M_X12_init) dX12_init_700 ?_
  refine x_iand (M := M_X12_init) dX12_init_701 ?_
  refine x_heap (h' := stt h a (.inr (15, mL h.length)) ++ mR) (by rw [mL_ok, mT_ok]) ?_
  refine x_put (M := M_X12_init) (ci := 15) (C := RX12) (T := TX12) (N := 135) (ty := tyX12) cl15 dX12_init_702 (ob_app _ (ob_self ha)) 1 (by decide) t_2392 (Or.inl rfl) (Nat.le_of_ble_eq_true rfl) rfl ?_
  refine x_heap (h' := stt h a (.inr (15, (mL h.length).set 1 (.int (dg &&& Int32.ofInt 3)))) ++ mR) (stt_mid ha) ?_
  refine x_aload_n (M := M_X12_init) dX12_init_705 rfl ?_
  refine x_lconst (M := M_X12_init) dX12_init_706 ?_
  refine x_put (M := M_X12_init) (ci := 15) (C := RX12) (T := TX12) (N := 135) (ty := tyX12) cl15 dX12_init_707 (ob_app _ (ob_self ha)) 2 (by decide) t_2393 (Or.inl rfl) (Nat.le_of_ble_eq_true rfl) rfl ?_
  refine x_iconst (M := M_X12_init) dX12_init_710 ?_
  refine x_istore_n (M := M_X12_init) dX12_init_711 (by decide) rfl ?_
  exact x_norm rfl rfl (stt_mid ha) rfl rfl (c_X12_tail hl ha)
set_option maxRecDepth 100000 in
set_option maxHeartbeats 1000000 in
theorem c_X12_h2 {l : Launch} {E : EE} (hl : l.stackTraces = false) {h : HP} {a : Nat} {dg : Int32} (ha : ob h a = some (.inr (15, mD))) : XX l E M_X12_init 1 81 1811608 (pR none (modH h a dg)) 380 [some (.ref a), some (.int dg), none] [] (stt h a (.inr (15, mF h.length 44)) ++ mT 44) 44 519009 := by
  refine x_aload_n (M := M_X12_init) dX12_init_380 rfl ?_
  refine x_sipush (M := M_X12_init) dX12_init_381 ?_
  refine x_newZ (M := M_X12_init) (n := 8193) dX12_init_384 t_433 (by decide +kernel) (by decide +kernel) (by decide +kernel) (by decide +kernel) (by decide +kernel) ?_
  refine x_heap (h' := stt h a (.inr (15, mF h.length 44)) ++ mT 45) (by rw [List.append_assoc, mT_add rfl]) ?_
  refine x_put (M := M_X12_init) (ci := 15) (C := RX12) (T := TX12) (N := 135) (ty := tyX12) cl15 dX12_init_386 (ob_app _ (ob_self ha)) 74 (by decide) t_2465 (Or.inr ⟨rfl, rfl⟩) (by rw [mF_len]; decide) rfl ?_
  refine x_norm (h' := (stt h a (.inr (15, mF h.length 45)) ++ mT 45)) (cu' := 45) (su' := 527202) rfl rfl (by rw [stt_mid ha, len_mid, mT_len (by decide), mF_set (by decide) (by decide +kernel) (by decide +kernel)]) rfl rfl ?_
  refine x_aload_n (M := M_X12_init) dX12_init_389 rfl ?_
  refine x_sipush (M := M_X12_init) dX12_init_390 ?_
  refine x_newI (M := M_X12_init) (n := 16385) dX12_init_393 t_97 (by decide +kernel) (by decide +kernel) (by decide +kernel) (by decide +kernel) (by decide +kernel) ?_
  refine x_heap (h' := stt h a (.inr (15, mF h.length 45)) ++ mT 46) (by rw [List.append_assoc, mT_add rfl]) ?_
  refine x_put (M := M_X12_init) (ci := 15) (C := RX12) (T := TX12) (N := 135) (ty := tyX12) cl15 dX12_init_395 (ob_app _ (ob_self ha)) 82 (by decide) t_2473 (Or.inr ⟨rfl, rfl⟩) (by rw [mF_len]; decide) rfl ?_
  refine x_norm (h' := (stt h a (.inr (15, mF h.length 46)) ++ mT 46)) (cu' := 46) (su' := 543587) rfl rfl (by rw [stt_mid ha, len_mid, mT_len (by decide), mF_set (by decide) (by decide +kernel) (by decide +kernel)]) rfl rfl ?_
  refine x_aload_n (M := M_X12_init) dX12_init_398 rfl ?_
  refine x_sipush (M := M_X12_init) dX12_init_399 ?_
  refine x_newI (M := M_X12_init) (n := 16385) dX12_init_402 t_97 (by decide +kernel) (by decide +kernel) (by decide +kernel) (by decide +kernel) (by decide +kernel) ?_
  refine x_heap (h' := stt h a (.inr (15, mF h.length 46)) ++ mT 47) (by rw [List.append_assoc, mT_add rfl]) ?_
  refine x_put (M := M_X12_init) (ci := 15) (C := RX12) (T := TX12) (N := 135) (ty := tyX12) cl15 dX12_init_404 (ob_app _ (ob_self ha)) 83 (by decide) t_2474 (Or.inr ⟨rfl, rfl⟩) (by rw [mF_len]; decide) rfl ?_
  refine x_norm (h' := (stt h a (.inr (15, mF h.length 47)) ++ mT 47)) (cu' := 47) (su' := 559972) rfl rfl (by rw [stt_mid ha, len_mid, mT_len (by decide), mF_set (by decide) (by decide +kernel) (by decide +kernel)]) rfl rfl ?_
  refine x_aload_n (M := M_X12_init) dX12_init_407 rfl ?_
  refine x_sipush (M := M_X12_init) dX12_init_408 ?_
  refine x_newI (M := M_X12_init) (n := 16385) dX12_init_411 t_97 (by decide +kernel) (by decide +kernel) (by decide +kernel) (by decide +kernel) (by decide +kernel) ?_
  refine x_heap (h' := stt h a (.inr (15, mF h.length 47)) ++ mT 48) (by rw [List.append_assoc, mT_add rfl]) ?_
  refine x_put (M := M_X12_init) (ci := 15) (C := RX12) (T := TX12) (N := 135) (ty := tyX12) cl15 dX12_init_413 (ob_app _ (ob_self ha)) 84 (by decide) t_2475 (Or.inr ⟨rfl, rfl⟩) (by rw [mF_len]; decide) rfl ?_
  refine x_norm (h' := (stt h a (.inr (15, mF h.length 48)) ++ mT 48)) (cu' := 48) (su' := 576357) rfl rfl (by rw [stt_mid ha, len_mid, mT_len (by decide), mF_set (by decide) (by decide +kernel) (by decide +kernel)]) rfl rfl ?_
  refine x_aload_n (M := M_X12_init) dX12_init_416 rfl ?_
  refine x_sipush (M := M_X12_init) dX12_init_417 ?_
  refine x_newI (M := M_X12_init) (n := 16385) dX12_init_420 t_97 (by decide +kernel) (by decide +kernel) (by decide +kernel) (by decide +kernel) (by decide +kernel) ?_
  refine x_heap (h' := stt h a (.inr (15, mF h.length 48)) ++ mT 49) (by rw [List.append_assoc, mT_add rfl]) ?_
  refine x_put (M := M_X12_init) (ci := 15) (C := RX12) (T := TX12) (N := 135) (ty := tyX12) cl15 dX12_init_422 (ob_app _ (ob_self ha)) 86 (by decide) t_2477 (Or.inr ⟨rfl, rfl⟩) (by rw [mF_len]; decide) rfl ?_
  refine x_norm (h' := (stt h a (.inr (15, mF h.length 49)) ++ mT 49)) (cu' := 49) (su' := 592742) rfl rfl (by rw [stt_mid ha, len_mid, mT_len (by decide), mF_set (by decide) (by decide +kernel) (by decide +kernel)]) rfl rfl ?_
  refine x_aload_n (M := M_X12_init) dX12_init_425 rfl ?_
  refine x_sipush (M := M_X12_init) dX12_init_426 ?_
  refine x_newI (M := M_X12_init) (n := 16385) dX12_init_429 t_97 (by decide +kernel) (by decide +kernel) (by decide +kernel) (by decide +kernel) (by decide +kernel) ?_
  refine x_heap (h' := stt h a (.inr (15, mF h.length 49)) ++ mT 50) (by rw [List.append_assoc, mT_add rfl]) ?_
  refine x_put (M := M_X12_init) (ci := 15) (C := RX12) (T := TX12) (N := 135) (ty := tyX12) cl15 dX12_init_431 (ob_app _ (ob_self ha)) 87 (by decide) t_2478 (Or.inr ⟨rfl, rfl⟩) (by rw [mF_len]; decide) rfl ?_
  refine x_norm (h' := (stt h a (.inr (15, mF h.length 50)) ++ mT 50)) (cu' := 50) (su' := 609127) rfl rfl (by rw [stt_mid ha, len_mid, mT_len (by decide), mF_set (by decide) (by decide +kernel) (by decide +kernel)]) rfl rfl ?_
  refine x_aload_n (M := M_X12_init) dX12_init_434 rfl ?_
  refine x_sipush (M := M_X12_init) dX12_init_435 ?_
  refine x_newZ (M := M_X12_init) (n := 16385) dX12_init_438 t_433 (by decide +kernel) (by decide +kernel) (by decide +kernel) (by decide +kernel) (by decide +kernel) ?_
  refine x_heap (h' := stt h a (.inr (15, mF h.length 50)) ++ mT 51) (by rw [List.append_assoc, mT_add rfl]) ?_
  refine x_put (M := M_X12_init) (ci := 15) (C := RX12) (T := TX12) (N := 135) (ty := tyX12) cl15 dX12_init_440 (ob_app _ (ob_self ha)) 88 (by decide) t_2479 (Or.inr ⟨rfl, rfl⟩) (by rw [mF_len]; decide) rfl ?_
  refine x_norm (h' := (stt h a (.inr (15, mF h.length 51)) ++ mT 51)) (cu' := 51) (su' := 625512) rfl rfl (by rw [stt_mid ha, len_mid, mT_len (by decide), mF_set (by decide) (by decide +kernel) (by decide +kernel)]) rfl rfl ?_
  refine x_aload_n (M := M_X12_init) dX12_init_443 rfl ?_
  refine x_sipush (M := M_X12_init) dX12_init_444 ?_
  refine x_newI (M := M_X12_init) (n := 16386) dX12_init_447 t_97 (by decide +kernel) (by decide +kernel) (by decide +kernel) (by decide +kernel) (by decide +kernel) ?_
  refine x_heap (h' := stt h a (.inr (15, mF h.length 51)) ++ mT 52) (by rw [List.append_assoc, mT_add rfl]) ?_
  refine x_put (M := M_X12_init) (ci := 15) (C := RX12) (T := TX12) (N := 135) (ty := tyX12) cl15 dX12_init_449 (ob_app _ (ob_self ha)) 90 (by decide) t_2481 (Or.inr ⟨rfl, rfl⟩) (by rw [mF_len]; decide) rfl ?_
  refine x_norm (h' := (stt h a (.inr (15, mF h.length 52)) ++ mT 52)) (cu' := 52) (su' := 641898) rfl rfl (by rw [stt_mid ha, len_mid, mT_len (by decide), mF_set (by decide) (by decide +kernel) (by decide +kernel)]) rfl rfl ?_
  refine x_aload_n (M := M_X12_init) dX12_init_452 rfl ?_
  refine x_sipush (M := M_X12_init) dX12_init_453 ?_
  refine x_newI (M := M_X12_init) (n := 8193) dX12_init_456 t_97 (by decide +kernel) (by decide +kernel) (by decide +kernel) (by decide +kernel) (by decide +kernel) ?_
  refine x_heap (h' := stt h a (.inr (15, mF h.length 52)) ++ mT 53) (by rw [List.append_assoc, mT_add rfl]) ?_
  refine x_put (M := M_X12_init) (ci := 15) (C := RX12) (T := TX12) (N := 135) (ty := tyX12) cl15 dX12_init_458 (ob_app _ (ob_self ha)) 92 (by decide) t_2483 (Or.inr ⟨rfl, rfl⟩) (by rw [mF_len]; decide) rfl ?_
  refine x_norm (h' := (stt h a (.inr (15, mF h.length 53)) ++ mT 53)) (cu' := 53) (su' := 650091) rfl rfl (by rw [stt_mid ha, len_mid, mT_len (by decide), mF_set (by decide) (by decide +kernel) (by decide +kernel)]) rfl rfl ?_
  refine x_aload_n (M := M_X12_init) dX12_init_461 rfl ?_
  refine x_ldc (M := M_X12_init) dX12_init_462 t_2388 ?_
  refine x_newI (M := M_X12_init) (n := 33000) dX12_init_464 t_97 (by decide +kernel) (by decide +kernel) (by decide +kernel) (by decide +kernel) (by decide +kernel) ?_
  refine x_heap (h' := stt h a (.inr (15, mF h.length 53)) ++ mT 54) (by rw [List.append_assoc, mT_add rfl]) ?_
  refine x_put (M := M_X12_init) (ci := 15) (C := RX12) (T := TX12) (N := 135) (ty := tyX12) cl15 dX12_init_466 (ob_app _ (ob_self ha)) 93 (by decide) t_2484 (Or.inr ⟨rfl, rfl⟩) (by rw [mF_len]; decide) rfl ?_
  refine x_norm (h' := (stt h a (.inr (15, mF h.length 54)) ++ mT 54)) (cu' := 54) (su' := 683091) rfl rfl (by rw [stt_mid ha, len_mid, mT_len (by decide), mF_set (by decide) (by decide +kernel) (by decide +kernel)]) rfl rfl ?_
  refine x_aload_n (M := M_X12_init) dX12_init_469 rfl ?_
  refine x_sipush (M := M_X12_init) dX12_init_470 ?_
  refine x_newI (M := M_X12_init) (n := 8193) dX12_init_473 t_97 (by decide +kernel) (by decide +kernel) (by decide +kernel) (by decide +kernel) (by decide +kernel) ?_
  refine x_heap (h' := stt h a (.inr (15, mF h.length 54)) ++ mT 55) (by rw [List.append_assoc, mT_add rfl]) ?_
  refine x_put (M := M_X12_init) (ci := 15) (C := RX12) (T := TX12) (N := 135) (ty := tyX12) cl15 dX12_init_475 (ob_app _ (ob_self ha)) 95 (by decide) t_2486 (Or.inr ⟨rfl, rfl⟩) (by rw [mF_len]; decide) rfl ?_
  refine x_norm (h' := (stt h a (.inr (15, mF h.length 55)) ++ mT 55)) (cu' := 55) (su' := 691284) rfl rfl (by rw [stt_mid ha, len_mid, mT_len (by decide), mF_set (by decide) (by decide +kernel) (by decide +kernel)]) rfl rfl ?_
  refine x_aload_n (M := M_X12_init) dX12_init_478 rfl ?_
  refine x_sipush (M := M_X12_init) dX12_init_479 ?_
  refine x_newI (M := M_X12_init) (n := 8193) dX12_init_482 t_97 (by decide +kernel) (by decide +kernel) (by decide +kernel) (by decide +kernel) (by decide +kernel) ?_
  refine x_heap (h' := stt h a (.inr (15, mF h.length 55)) ++ mT 56) (by rw [List.append_assoc, mT_add rfl]) ?_
  refine x_put (M := M_X12_init) (ci := 15) (C := RX12) (T := TX12) (N := 135) (ty := tyX12) cl15 dX12_init_484 (ob_app _ (ob_self ha)) 96 (by decide) t_2487 (Or.inr ⟨rfl, rfl⟩) (by rw [mF_len]; decide) rfl ?_
  refine x_norm (h' := (stt h a (.inr (15, mF h.length 56)) ++ mT 56)) (cu' := 56) (su' := 699477) rfl rfl (by rw [stt_mid ha, len_mid, mT_len (by decide), mF_set (by decide) (by decide +kernel) (by decide +kernel)]) rfl rfl ?_
  refine x_aload_n (M := M_X12_init) dX12_init_487 rfl ?_
  refine x_sipush (M := M_X12_init) dX12_init_488 ?_
  refine x_newJ (M := M_X12_init) (n := 8193) dX12_init_491 t_193 (by decide +kernel) (by decide +kernel) (by decide +kernel) (by decide +kernel) (by decide +kernel) ?_
  refine x_heap (h' := stt h a (.inr (15, mF h.length 56)) ++ mT 57) (by rw [List.append_assoc, mT_add rfl]) ?_
  refine x_put (M := M_X12_init) (ci := 15) (C := RX12) (T := TX12) (N := 135) (ty := tyX12) cl15 dX12_init_493 (ob_app _ (ob_self ha)) 97 (by decide) t_2488 (Or.inr ⟨rfl, rfl⟩) (by rw [mF_len]; decide) rfl ?_
  refine x_norm (h' := (stt h a (.inr (15, mF h.length 57)) ++ mT 57)) (cu' := 57) (su' := 707670) rfl rfl (by rw [stt_mid ha, len_mid, mT_len (by decide), mF_set (by decide) (by decide +kernel) (by decide +kernel)]) rfl rfl ?_
  refine x_aload_n (M := M_X12_init) dX12_init_496 rfl ?_
  refine x_sipush (M := M_X12_init) dX12_init_497 ?_
  refine x_newI (M := M_X12_init) (n := 8193) dX12_init_500 t_97 (by decide +kernel) (by decide +kernel) (by decide +kernel) (by decide +kernel) (by decide +kernel) ?_
  refine x_heap (h' := stt h a (.inr (15, mF h.length 57)) ++ mT 58) (by rw [List.append_assoc, mT_add rfl]) ?_
  refine x_put (M := M_X12_init) (ci := 15) (C := RX12) (T := TX12) (N := 135) (ty := tyX12) cl15 dX12_init_502 (ob_app _ (ob_self ha)) 98 (by decide) t_2489 (Or.inr ⟨rfl, rfl⟩) (by rw [mF_len]; decide) rfl ?_
  refine x_norm (h' := (stt h a (.inr (15, mF h.length 58)) ++ mT 58)) (cu' := 58) (su' := 715863) rfl rfl (by rw [stt_mid ha, len_mid, mT_len (by decide), mF_set (by decide) (by decide +kernel) (by decide +kernel)]) rfl rfl ?_
  refine x_aload_n (M := M_X12_init) dX12_init_505 rfl ?_
  refine x_iconst (M := M_X12_init) dX12_init_506 ?_
  refine x_newI (M := M_X12_init) (n := 2) dX12_init_507 t_97 (by decide +kernel) (by decide +kernel) (by decide +kernel) (by decide +kernel) (by decide +kernel) ?_
  refine x_heap (h' := stt h a (.inr (15, mF h.length 58)) ++ mT 59) (by rw [List.append_assoc, mT_add rfl]) ?_
  refine x_put (M := M_X12_init) (ci := 15) (C := RX12) (T := TX12) (N := 135) (ty := tyX12) cl15 dX12_init_509 (ob_app _ (ob_self ha)) 100 (by decide) t_2491 (Or.inr ⟨rfl, rfl⟩) (by rw [mF_len]; decide) rfl ?_
  refine x_norm (h' := (stt h a (.inr (15, mF h.length 59)) ++ mT 59)) (cu' := 59) (su' := 715865) rfl rfl (by rw [stt_mid ha, len_mid, mT_len (by decide), mF_set (by decide) (by decide +kernel) (by decide +kernel)]) rfl rfl ?_
  refine x_aload_n (M := M_X12_init) dX12_init_512 rfl ?_
  refine x_iconst (M := M_X12_init) dX12_init_513 ?_
  refine x_newI (M := M_X12_init) (n := 2) dX12_init_514 t_97 (by decide +kernel) (by decide +kernel) (by decide +kernel) (by decide +kernel) (by decide +kernel) ?_
  refine x_heap (h' := stt h a (.inr (15, mF h.length 59)) ++ mT 60) (by rw [List.append_assoc, mT_add rfl]) ?_
  refine x_put (M := M_X12_init) (ci := 15) (C := RX12) (T := TX12) (N := 135) (ty := tyX12) cl15 dX12_init_516 (ob_app _ (ob_self ha)) 101 (by decide) t_2492 (Or.inr ⟨rfl, rfl⟩) (by rw [mF_len]; decide) rfl ?_
  refine x_norm (h' := (stt h a (.inr (15, mF h.length 60)) ++ mT 60)) (cu' := 60) (su' := 715867) rfl rfl (by rw [stt_mid ha, len_mid, mT_len (by decide), mF_set (by decide) (by decide +kernel) (by decide +kernel)]) rfl rfl ?_
  refine x_aload_n (M := M_X12_init) dX12_init_519 rfl ?_
  refine x_iconst (M := M_X12_init) dX12_init_520 ?_
  refine x_newI (M := M_X12_init) (n := 2) dX12_init_521 t_97 (by decide +kernel) (by decide +kernel) (by decide +kernel) (by decide +kernel) (by decide +kernel) ?_
  refine x_heap (h' := stt h a (.inr (15, mF h.length 60)) ++ mT 61) (by rw [List.append_assoc, mT_add rfl]) ?_
  refine x_put (M := M_X12_init) (ci := 15) (C := RX12) (T := TX12) (N := 135) (ty := tyX12) cl15 dX12_init_523 (ob_app _ (ob_self ha)) 102 (by decide) t_2493 (Or.inr ⟨rfl, rfl⟩) (by rw [mF_len]; decide) rfl ?_
  refine x_norm (h' := (stt h a (.inr (15, mF h.length 61)) ++ mT 61)) (cu' := 61) (su' := 715869) rfl rfl (by rw [stt_mid ha, len_mid, mT_len (by decide), mF_set (by decide) (by decide +kernel) (by decide +kernel)]) rfl rfl ?_
  refine x_aload_n (M := M_X12_init) dX12_init_526 rfl ?_
  refine x_iconst (M := M_X12_init) dX12_init_527 ?_
  refine x_newI (M := M_X12_init) (n := 2) dX12_init_528 t_97 (by decide +kernel) (by decide +kernel) (by decide +kernel) (by decide +kernel) (by decide +kernel) ?_
  refine x_heap (h' := stt h a (.inr (15, mF h.length 61)) ++ mT 62) (by rw [List.append_assoc, mT_add rfl]) ?_
  refine x_put (M := M_X12_init) (ci := 15) (C := RX12) (T := TX12) (N := 135) (ty := tyX12) cl15 dX12_init_530 (ob_app _ (ob_self ha)) 103 (by decide) t_2494 (Or.inr ⟨rfl, rfl⟩) (by rw [mF_len]; decide) rfl ?_
  refine x_norm (h' := (stt h a (.inr (15, mF h.length 62)) ++ mT 62)) (cu' := 62) (su' := 715871) rfl rfl (by rw [stt_mid ha, len_mid, mT_len (by decide), mF_set (by decide) (by decide +kernel) (by decide +kernel)]) rfl rfl ?_
  refine x_aload_n (M := M_X12_init) dX12_init_533 rfl ?_
  refine x_iconst (M := M_X12_init) dX12_init_534 ?_
  refine x_newZ (M := M_X12_init) (n := 2) dX12_init_535 t_433 (by decide +kernel) (by decide +kernel) (by decide +kernel) (by decide +kernel) (by decide +kernel) ?_
  refine x_heap (h' := stt h a (.inr (15, mF h.length 62)) ++ mT 63) (by rw [List.append_assoc, mT_add rfl]) ?_
  refine x_put (M := M_X12_init) (ci := 15) (C := RX12) (T := TX12) (N := 135) (ty := tyX12) cl15 dX12_init_537 (ob_app _ (ob_self ha)) 104 (by decide) t_2495 (Or.inr ⟨rfl, rfl⟩) (by rw [mF_len]; decide) rfl ?_
  refine x_norm (h' := (stt h a (.inr (15, mF h.length 63)) ++ mT 63)) (cu' := 63) (su' := 715873) rfl rfl (by rw [stt_mid ha, len_mid, mT_len (by decide), mF_set (by decide) (by decide +kernel) (by decide +kernel)]) rfl rfl ?_
  refine x_aload_n (M := M_X12_init) dX12_init_540 rfl ?_
  refine x_sipush (M := M_X12_init) dX12_init_541 ?_
  refine x_newI (M := M_X12_init) (n := 4200) dX12_init_544 t_97 (by decide +kernel) (by decide +kernel) (by decide +kernel) (by decide +kernel) (by decide +kernel) ?_
  refine x_heap (h' := stt h a (.inr (15, mF h.length 63)) ++ mT 64) (by rw [List.append_assoc, mT_add rfl]) ?_
  refine x_put (M := M_X12_init) (ci := 15) (C := RX12) (T := TX12) (N := 135) (ty := tyX12) cl15 dX12_init_546 (ob_app _ (ob_self ha)) 105 (by decide) t_2496 (Or.inr ⟨rfl, rfl⟩) (by rw [mF_len]; decide) rfl ?_
  refine x_norm (h' := (stt h a (.inr (15, mF h.length 64)) ++ mT 64)) (cu' := 64) (su' := 720073) rfl rfl (by rw [stt_mid ha, len_mid, mT_len (by decide), mF_set (by decide) (by decide +kernel) (by decide +kernel)]) rfl rfl ?_
  refine x_aload_n (M := M_X12_init) dX12_init_549 rfl ?_
  refine x_iconst (M := M_X12_init) dX12_init_550 ?_
  refine x_newI (M := M_X12_init) (n := 2) dX12_init_551 t_97 (by decide +kernel) (by decide +kernel) (by decide +kernel) (by decide +kernel) (by decide +kernel) ?_
  refine x_heap (h' := stt h a (.inr (15, mF h.length 64)) ++ mT 65) (by rw [List.append_assoc, mT_add rfl]) ?_
  refine x_put (M := M_X12_init) (ci := 15) (C := RX12) (T := TX12) (N := 135) (ty := tyX12) cl15 dX12_init_553 (ob_app _ (ob_self ha)) 106 (by decide) t_2497 (Or.inr ⟨rfl, rfl⟩) (by rw [mF_len]; decide) rfl ?_
  refine x_norm (h' := (stt h a (.inr (15, mF h.length 65)) ++ mT 65)) (cu' := 65) (su' := 720075) rfl rfl (by rw [stt_mid ha, len_mid, mT_len (by decide), mF_set (by decide) (by decide +kernel) (by decide +kernel)]) rfl rfl ?_
  refine x_aload_n (M := M_X12_init) dX12_init_556 rfl ?_
  refine x_bipush (M := M_X12_init) dX12_init_557 ?_
  refine x_newI (M := M_X12_init) (n := 9) dX12_init_559 t_97 (by decide +kernel) (by decide +kernel) (by decide +kernel) (by decide +kernel) (by decide +kernel) ?_
  refine x_heap (h' := stt h a (.inr (15, mF h.length 65)) ++ mT 66) (by rw [List.append_assoc, mT_add rfl]) ?_
  refine x_put (M := M_X12_init) (ci := 15) (C := RX12) (T := TX12) (N := 135) (ty := tyX12) cl15 dX12_init_561 (ob_app _ (ob_self ha)) 107 (by decide) t_2498 (Or.inr ⟨rfl, rfl⟩) (by rw [mF_len]; decide) rfl ?_
  refine x_norm (h' := (stt h a (.inr (15, mF h.length 66)) ++ mT 66)) (cu' := 66) (su' := 720084) rfl rfl (by rw [stt_mid ha, len_mid, mT_len (by decide), mF_set (by decide) (by decide +kernel) (by decide +kernel)]) rfl rfl ?_
  exact c_X12_h3 hl ha
set_option maxRecDepth 100000 in
set_option maxHeartbeats 1000000 in
theorem c_X12_h1 {l : Launch} {E : EE} (hl : l.stackTraces = false) {h : HP} {a : Nat} {dg : Int32} (ha : ob h a = some (.inr (15, mD))) : XX l E M_X12_init 1 81 1811608 (pR none (modH h a dg)) 182 [some (.ref a), some (.int dg), none] [] (stt h a (.inr (15, mF h.length 22)) ++ mT 22) 22 410077 := by
  refine x_aload_n (M := M_X12_init) dX12_init_182 rfl ?_
  refine x_sipush (M := M_X12_init) dX12_init_183 ?_
  refine x_newJ (M := M_X12_init) (n := 4200) dX12_init_186 t_193 (by decide +kernel) (by decide +kernel) (by decide +kernel) (by decide +kernel) (by decide +kernel) ?_
  refine x_heap (h' := stt h a (.inr (15, mF h.length 22)) ++ mT 23) (by rw [List.append_assoc, mT_add rfl]) ?_
  refine x_put (M := M_X12_init) (ci := 15) (C := RX12) (T := TX12) (N := 135) (ty := tyX12) cl15 dX12_init_188 (ob_app _ (ob_self ha)) 42 (by decide) t_2433 (Or.inr ⟨rfl, rfl⟩) (by rw [mF_len]; decide) rfl ?_
  refine x_norm (h' := (stt h a (.inr (15, mF h.length 23)) ++ mT 23)) (cu' := 23) (su' := 414277) rfl rfl (by rw [stt_mid ha, len_mid, mT_len (by decide), mF_set (by decide) (by decide +kernel) (by decide +kernel)]) rfl rfl ?_
  refine x_aload_n (M := M_X12_init) dX12_init_191 rfl ?_
  refine x_sipush (M := M_X12_init) dX12_init_192 ?_
  refine x_newJ (M := M_X12_init) (n := 4200) dX12_init_195 t_193 (by decide +kernel) (by decide +kernel) (by decide +kernel) (by decide +kernel) (by decide +kernel) ?_
  refine x_heap (h' := stt h a (.inr (15, mF h.length 23)) ++ mT 24) (by rw [List.append_assoc, mT_add rfl]) ?_
  refine x_put (M := M_X12_init) (ci := 15) (C := RX12) (T := TX12) (N := 135) (ty := tyX12) cl15 dX12_init_197 (ob_app _ (ob_self ha)) 43 (by decide) t_2434 (Or.inr ⟨rfl, rfl⟩) (by rw [mF_len]; decide) rfl ?_
  refine x_norm (h' := (stt h a (.inr (15, mF h.length 24)) ++ mT 24)) (cu' := 24) (su' := 418477) rfl rfl (by rw [stt_mid ha, len_mid, mT_len (by decide), mF_set (by decide) (by decide +kernel) (by decide +kernel)]) rfl rfl ?_
  refine x_aload_n (M := M_X12_init) dX12_init_200 rfl ?_
  refine x_sipush (M := M_X12_init) dX12_init_201 ?_
  refine x_newJ (M := M_X12_init) (n := 4200) dX12_init_204 t_193 (by decide +kernel) (by decide +kernel) (by decide +kernel) (by decide +kernel) (by decide +kernel) ?_
  refine x_heap (h' := stt h a (.inr (15, mF h.length 24)) ++ mT 25) (by rw [List.append_assoc, mT_add rfl]) ?_
  refine x_put (M := M_X12_init) (ci := 15) (C := RX12) (T := TX12) (N := 135) (ty := tyX12) cl15 dX12_init_206 (ob_app _ (ob_self ha)) 44 (by decide) t_2435 (Or.inr ⟨rfl, rfl⟩) (by rw [mF_len]; decide) rfl ?_
  refine x_norm (h' := (stt h a (.inr (15, mF h.length 25)) ++ mT 25)) (cu' := 25) (su' := 422677) rfl rfl (by rw [stt_mid ha, len_mid, mT_len (by decide), mF_set (by decide) (by decide +kernel) (by decide +kernel)]) rfl rfl ?_
  refine x_aload_n (M := M_X12_init) dX12_init_209 rfl ?_
  refine x_sipush (M := M_X12_init) dX12_init_210 ?_
  refine x_newI (M := M_X12_init) (n := 4200) dX12_init_213 t_97 (by decide +kernel) (by decide +kernel) (by decide +kernel) (by decide +kernel) (by decide +kernel) ?_
  refine x_heap (h' := stt h a (.inr (15, mF h.length 25)) ++ mT 26) (by rw [List.append_assoc, mT_add rfl]) ?_
  refine x_put (M := M_X12_init) (ci := 15) (C := RX12) (T := TX12) (N := 135) (ty := tyX12) cl15 dX12_init_215 (ob_app _ (ob_self ha)) 45 (by decide) t_2436 (Or.inr ⟨rfl, rfl⟩) (by rw [mF_len]; decide) rfl ?_
  refine x_norm (h' := (stt h a (.inr (15, mF h.length 26)) ++ mT 26)) (cu' := 26) (su' := 426877) rfl rfl (by rw [stt_mid ha, len_mid, mT_len (by decide), mF_set (by decide) (by decide +kernel) (by decide +kernel)]) rfl rfl ?_
  refine x_aload_n (M := M_X12_init) dX12_init_218 rfl ?_
  refine x_sipush (M := M_X12_init) dX12_init_219 ?_
  refine x_newI (M := M_X12_init) (n := 4200) dX12_init_222 t_97 (by decide +kernel) (by decide +kernel) (by decide +kernel) (by decide +kernel) (by decide +kernel) ?_
  refine x_heap (h' := stt h a (.inr (15, mF h.length 26)) ++ mT 27) (by rw [List.append_assoc, mT_add rfl]) ?_
  refine x_put (M := M_X12_init) (ci := 15) (C := RX12) (T := TX12) (N := 135) (ty := tyX12) cl15 dX12_init_224 (ob_app _ (ob_self ha)) 46 (by decide) t_2437 (Or.inr ⟨rfl, rfl⟩) (by rw [mF_len]; decide) rfl ?_
  refine x_norm (h' := (stt h a (.inr (15, mF h.length 27)) ++ mT 27)) (cu' := 27) (su' := 431077) rfl rfl (by rw [stt_mid ha, len_mid, mT_len (by decide), mF_set (by decide) (by decide +kernel) (by decide +kernel)]) rfl rfl ?_
  refine x_aload_n (M := M_X12_init) dX12_init_227 rfl ?_
  refine x_sipush (M := M_X12_init) dX12_init_228 ?_
  refine x_newI (M := M_X12_init) (n := 4200) dX12_init_231 t_97 (by decide +kernel) (by decide +kernel) (by decide +kernel) (by decide +kernel) (by decide +kernel) ?_
  refine x_heap (h' := stt h a (.inr (15, mF h.length 27)) ++ mT 28) (by rw [List.append_assoc, mT_add rfl]) ?_
  refine x_put (M := M_X12_init) (ci := 15) (C := RX12) (T := TX12) (N := 135) (ty := tyX12) cl15 dX12_init_233 (ob_app _ (ob_self ha)) 47 (by decide) t_2438 (Or.inr ⟨rfl, rfl⟩) (by rw [mF_len]; decide) rfl ?_
  refine x_norm (h' := (stt h a (.inr (15, mF h.length 28)) ++ mT 28)) (cu' := 28) (su' := 435277) rfl rfl (by rw [stt_mid ha, len_mid, mT_len (by decide), mF_set (by decide) (by decide +kernel) (by decide +kernel)]) rfl rfl ?_
  refine x_aload_n (M := M_X12_init) dX12_init_236 rfl ?_
  refine x_sipush (M := M_X12_init) dX12_init_237 ?_
  refine x_newI (M := M_X12_init) (n := 2048) dX12_init_240 t_97 (by decide +kernel) (by decide +kernel) (by decide +kernel) (by decide +kernel) (by decide +kernel) ?_
  refine x_heap (h' := stt h a (.inr (15, mF h.length 28)) ++ mT 29) (by rw [List.append_assoc, mT_add rfl]) ?_
  refine x_put (M := M_X12_init) (ci := 15) (C := RX12) (T := TX12) (N := 135) (ty := tyX12) cl15 dX12_init_242 (ob_app _ (ob_self ha)) 52 (by decide) t_2443 (Or.inr ⟨rfl, rfl⟩) (by rw [mF_len]; decide) rfl ?_
  refine x_norm (h' := (stt h a (.inr (15, mF h.length 29)) ++ mT 29)) (cu' := 29) (su' := 437325) rfl rfl (by rw [stt_mid ha, len_mid, mT_len (by decide), mF_set (by decide) (by decide +kernel) (by decide +kernel)]) rfl rfl ?_
  refine x_aload_n (M := M_X12_init) dX12_init_245 rfl ?_
  refine x_sipush (M := M_X12_init) dX12_init_246 ?_
  refine x_newI (M := M_X12_init) (n := 2048) dX12_init_249 t_97 (by decide +kernel) (by decide +kernel) (by decide +kernel) (by decide +kernel) (by decide +kernel) ?_
  refine x_heap (h' := stt h a (.inr (15, mF h.length 29)) ++ mT 30) (by rw [List.append_assoc, mT_add rfl]) ?_
  refine x_put (M := M_X12_init) (ci := 15) (C := RX12) (T := TX12) (N := 135) (ty := tyX12) cl15 dX12_init_251 (ob_app _ (ob_self ha)) 53 (by decide) t_2444 (Or.inr ⟨rfl, rfl⟩) (by rw [mF_len]; decide) rfl ?_
  refine x_norm (h' := (stt h a (.inr (15, mF h.length 30)) ++ mT 30)) (cu' := 30) (su' := 439373) rfl rfl (by rw [stt_mid ha, len_mid, mT_len (by decide), mF_set (by decide) (by decide +kernel) (by decide +kernel)]) rfl rfl ?_
  refine x_aload_n (M := M_X12_init) dX12_init_254 rfl ?_
  refine x_sipush (M := M_X12_init) dX12_init_255 ?_
  refine x_newI (M := M_X12_init) (n := 2048) dX12_init_258 t_97 (by decide +kernel) (by decide +kernel) (by decide +kernel) (by decide +kernel) (by decide +kernel) ?_
  refine x_heap (h' := stt h a (.inr (15, mF h.length 30)) ++ mT 31) (by rw [List.append_assoc, mT_add rfl]) ?_
  refine x_put (M := M_X12_init) (ci := 15) (C := RX12) (T := TX12) (N := 135) (ty := tyX12) cl15 dX12_init_260 (ob_app _ (ob_self ha)) 54 (by decide) t_2445 (Or.inr ⟨rfl, rfl⟩) (by rw [mF_len]; decide) rfl ?_
  refine x_norm (h' := (stt h a (.inr (15, mF h.length 31)) ++ mT 31)) (cu' := 31) (su' := 441421) rfl rfl (by rw [stt_mid ha, len_mid, mT_len (by decide), mF_set (by decide) (by decide +kernel) (by decide +kernel)]) rfl rfl ?_
  refine x_aload_n (M := M_X12_init) dX12_init_263 rfl ?_
  refine x_sipush (M := M_X12_init) dX12_init_264 ?_
  refine x_newI (M := M_X12_init) (n := 2048) dX12_init_267 t_97 (by decide +kernel) (by decide +kernel) (by decide +kernel) (by decide +kernel) (by decide +kernel) ?_
  refine x_heap (h' := stt h a (.inr (15, mF h.length 31)) ++ mT 32) (by rw [List.append_assoc, mT_add rfl]) ?_
  refine x_put (M := M_X12_init) (ci := 15) (C := RX12) (T := TX12) (N := 135) (ty := tyX12) cl15 dX12_init_269 (ob_app _ (ob_self ha)) 55 (by decide) t_2446 (Or.inr ⟨rfl, rfl⟩) (by rw [mF_len]; decide) rfl ?_
  refine x_norm (h' := (stt h a (.inr (15, mF h.length 32)) ++ mT 32)) (cu' := 32) (su' := 443469) rfl rfl (by rw [stt_mid ha, len_mid, mT_len (by decide), mF_set (by decide) (by decide +kernel) (by decide +kernel)]) rfl rfl ?_
  refine x_aload_n (M := M_X12_init) dX12_init_272 rfl ?_
  refine x_sipush (M := M_X12_init) dX12_init_273 ?_
  refine x_newI (M := M_X12_init) (n := 2049) dX12_init_276 t_97 (by decide +kernel) (by decide +kernel) (by decide +kernel) (by decide +kernel) (by decide +kernel) ?_
  refine x_heap (h' := stt h a (.inr (15, mF h.length 32)) ++ mT 33) (by rw [List.append_assoc, mT_add rfl]) ?_
  refine x_put (M := M_X12_init) (ci := 15) (C := RX12) (T := TX12) (N := 135) (ty := tyX12) cl15 dX12_init_278 (ob_app _ (ob_self ha)) 56 (by decide) t_2447 (Or.inr ⟨rfl, rfl⟩) (by rw [mF_len]; decide) rfl ?_
  refine x_norm (h' := (stt h a (.inr (15, mF h.length 33)) ++ mT 33)) (cu' := 33) (su' := 445518) rfl rfl (by rw [stt_mid ha, len_mid, mT_len (by decide), mF_set (by decide) (by decide +kernel) (by decide +kernel)]) rfl rfl ?_
  refine x_aload_n (M := M_X12_init) dX12_init_281 rfl ?_
  refine x_sipush (M := M_X12_init) dX12_init_282 ?_
  refine x_newI (M := M_X12_init) (n := 1026) dX12_init_285 t_97 (by decide +kernel) (by decide +kernel) (by decide +kernel) (by decide +kernel) (by decide +kernel) ?_
  refine x_heap (h' := stt h a (.inr (15, mF h.length 33)) ++ mT 34) (by rw [List.append_assoc, mT_add rfl]) ?_
  refine x_put (M := M_X12_init) (ci := 15) (C := RX12) (T := TX12) (N := 135) (ty := tyX12) cl15 dX12_init_287 (ob_app _ (ob_self ha)) 58 (by decide) t_2449 (Or.inr ⟨rfl, rfl⟩) (by rw [mF_len]; decide) rfl ?_
  refine x_norm (h' := (stt h a (.inr (15, mF h.length 34)) ++ mT 34)) (cu' := 34) (su' := 446544) rfl rfl (by rw [stt_mid ha, len_mid, mT_len (by decide), mF_set (by decide) (by decide +kernel) (by decide +kernel)]) rfl rfl ?_
  refine x_aload_n (M := M_X12_init) dX12_init_290 rfl ?_
  refine x_sipush (M := M_X12_init) dX12_init_291 ?_
  refine x_newJ (M := M_X12_init) (n := 4200) dX12_init_294 t_193 (by decide +kernel) (by decide +kernel) (by decide +kernel) (by decide +kernel) (by decide +kernel) ?_
  refine x_heap (h' := stt h a (.inr (15, mF h.length 34)) ++ mT 35) (by rw [List.append_assoc, mT_add rfl]) ?_
  refine x_put (M := M_X12_init) (ci := 15) (C := RX12) (T := TX12) (N := 135) (ty := tyX12) cl15 dX12_init_296 (ob_app _ (ob_self ha)) 60 (by decide) t_2451 (Or.inr ⟨rfl, rfl⟩) (by rw [mF_len]; decide) rfl ?_
  refine x_norm (h' := (stt h a (.inr (15, mF h.length 35)) ++ mT 35)) (cu' := 35) (su' := 450744) rfl rfl (by rw [stt_mid ha, len_mid, mT_len (by decide), mF_set (by decide) (by decide +kernel) (by decide +kernel)]) rfl rfl ?_
  refine x_aload_n (M := M_X12_init) dX12_init_299 rfl ?_
  refine x_sipush (M := M_X12_init) dX12_init_300 ?_
  refine x_newJ (M := M_X12_init) (n := 4200) dX12_init_303 t_193 (by decide +kernel) (by decide +kernel) (by decide +kernel) (by decide +kernel) (by decide +kernel) ?_
  refine x_heap (h' := stt h a (.inr (15, mF h.length 35)) ++ mT 36) (by rw [List.append_assoc, mT_add rfl]) ?_
  refine x_put (M := M_X12_init) (ci := 15) (C := RX12) (T := TX12) (N := 135) (ty := tyX12) cl15 dX12_init_305 (ob_app _ (ob_self ha)) 61 (by decide) t_2452 (Or.inr ⟨rfl, rfl⟩) (by rw [mF_len]; decide) rfl ?_
  refine x_norm (h' := (stt h a (.inr (15, mF h.length 36)) ++ mT 36)) (cu' := 36) (su' := 454944) rfl rfl (by rw [stt_mid ha, len_mid, mT_len (by decide), mF_set (by decide) (by decide +kernel) (by decide +kernel)]) rfl rfl ?_
  refine x_aload_n (M := M_X12_init) dX12_init_308 rfl ?_
  refine x_sipush (M := M_X12_init) dX12_init_309 ?_
  refine x_newI (M := M_X12_init) (n := 8400) dX12_init_312 t_97 (by decide +kernel) (by decide +kernel) (by decide +kernel) (by decide +kernel) (by decide +kernel) ?_
  refine x_heap (h' := stt h a (.inr (15, mF h.length 36)) ++ mT 37) (by rw [List.append_assoc, mT_add rfl]) ?_
  refine x_put (M := M_X12_init) (ci := 15) (C := RX12) (T := TX12) (N := 135) (ty := tyX12) cl15 dX12_init_314 (ob_app _ (ob_self ha)) 63 (by decide) t_2454 (Or.inr ⟨rfl, rfl⟩) (by rw [mF_len]; decide) rfl ?_
  refine x_norm (h' := (stt h a (.inr (15, mF h.length 37)) ++ mT 37)) (cu' := 37) (su' := 463344) rfl rfl (by rw [stt_mid ha, len_mid, mT_len (by decide), mF_set (by decide) (by decide +kernel) (by decide +kernel)]) rfl rfl ?_
  refine x_aload_n (M := M_X12_init) dX12_init_317 rfl ?_
  refine x_sipush (M := M_X12_init) dX12_init_318 ?_
  refine x_newI (M := M_X12_init) (n := 8400) dX12_init_321 t_97 (by decide +kernel) (by decide +kernel) (by decide +kernel) (by decide +kernel) (by decide +kernel) ?_
  refine x_heap (h' := stt h a (.inr (15, mF h.length 37)) ++ mT 38) (by rw [List.append_assoc, mT_add rfl]) ?_
  refine x_put (M := M_X12_init) (ci := 15) (C := RX12) (T := TX12) (N := 135) (ty := tyX12) cl15 dX12_init_323 (ob_app _ (ob_self ha)) 64 (by decide) t_2455 (Or.inr ⟨rfl, rfl⟩) (by rw [mF_len]; decide) rfl ?_
  refine x_norm (h' := (stt h a (.inr (15, mF h.length 38)) ++ mT 38)) (cu' := 38) (su' := 471744) rfl rfl (by rw [stt_mid ha, len_mid, mT_len (by decide), mF_set (by decide) (by decide +kernel) (by decide +kernel)]) rfl rfl ?_
  refine x_aload_n (M := M_X12_init) dX12_init_326 rfl ?_
  refine x_sipush (M := M_X12_init) dX12_init_327 ?_
  refine x_newI (M := M_X12_init) (n := 6300) dX12_init_330 t_97 (by decide +kernel) (by decide +kernel) (by decide +kernel) (by decide +kernel) (by decide +kernel) ?_
  refine x_heap (h' := stt h a (.inr (15, mF h.length 38)) ++ mT 39) (by rw [List.append_assoc, mT_add rfl]) ?_
  refine x_put (M := M_X12_init) (ci := 15) (C := RX12) (T := TX12) (N := 135) (ty := tyX12) cl15 dX12_init_332 (ob_app _ (ob_self ha)) 66 (by decide) t_2457 (Or.inr ⟨rfl, rfl⟩) (by rw [mF_len]; decide) rfl ?_
  refine x_norm (h' := (stt h a (.inr (15, mF h.length 39)) ++ mT 39)) (cu' := 39) (su' := 478044) rfl rfl (by rw [stt_mid ha, len_mid, mT_len (by decide), mF_set (by decide) (by decide +kernel) (by decide +kernel)]) rfl rfl ?_
  refine x_aload_n (M := M_X12_init) dX12_init_335 rfl ?_
  refine x_sipush (M := M_X12_init) dX12_init_336 ?_
  refine x_newJ (M := M_X12_init) (n := 8193) dX12_init_339 t_193 (by decide +kernel) (by decide +kernel) (by decide +kernel) (by decide +kernel) (by decide +kernel) ?_
  refine x_heap (h' := stt h a (.inr (15, mF h.length 39)) ++ mT 40) (by rw [List.append_assoc, mT_add rfl]) ?_
  refine x_put (M := M_X12_init) (ci := 15) (C := RX12) (T := TX12) (N := 135) (ty := tyX12) cl15 dX12_init_341 (ob_app _ (ob_self ha)) 67 (by decide) t_2458 (Or.inr ⟨rfl, rfl⟩) (by rw [mF_len]; decide) rfl ?_
  refine x_norm (h' := (stt h a (.inr (15, mF h.length 40)) ++ mT 40)) (cu' := 40) (su' := 486237) rfl rfl (by rw [stt_mid ha, len_mid, mT_len (by decide), mF_set (by decide) (by decide +kernel) (by decide +kernel)]) rfl rfl ?_
  refine x_aload_n (M := M_X12_init) dX12_init_344 rfl ?_
  refine x_sipush (M := M_X12_init) dX12_init_345 ?_
  refine x_newJ (M := M_X12_init) (n := 8193) dX12_init_348 t_193 (by decide +kernel) (by decide +kernel) (by decide +kernel) (by decide +kernel) (by decide +kernel) ?_
  refine x_heap (h' := stt h a (.inr (15, mF h.length 40)) ++ mT 41) (by rw [List.append_assoc, mT_add rfl]) ?_
  refine x_put (M := M_X12_init) (ci := 15) (C := RX12) (T := TX12) (N := 135) (ty := tyX12) cl15 dX12_init_350 (ob_app _ (ob_self ha)) 68 (by decide) t_2459 (Or.inr ⟨rfl, rfl⟩) (by rw [mF_len]; decide) rfl ?_
  refine x_norm (h' := (stt h a (.inr (15, mF h.length 41)) ++ mT 41)) (cu' := 41) (su' := 494430) rfl rfl (by rw [stt_mid ha, len_mid, mT_len (by decide), mF_set (by decide) (by decide +kernel) (by decide +kernel)]) rfl rfl ?_
  refine x_aload_n (M := M_X12_init) dX12_init_353 rfl ?_
  refine x_sipush (M := M_X12_init) dX12_init_354 ?_
  refine x_newI (M := M_X12_init) (n := 8193) dX12_init_357 t_97 (by decide +kernel) (by decide +kernel) (by decide +kernel) (by decide +kernel) (by decide +kernel) ?_
  refine x_heap (h' := stt h a (.inr (15, mF h.length 41)) ++ mT 42) (by rw [List.append_assoc, mT_add rfl]) ?_
  refine x_put (M := M_X12_init) (ci := 15) (C := RX12) (T := TX12) (N := 135) (ty := tyX12) cl15 dX12_init_359 (ob_app _ (ob_self ha)) 71 (by decide) t_2462 (Or.inr ⟨rfl, rfl⟩) (by rw [mF_len]; decide) rfl ?_
  refine x_norm (h' := (stt h a (.inr (15, mF h.length 42)) ++ mT 42)) (cu' := 42) (su' := 502623) rfl rfl (by rw [stt_mid ha, len_mid, mT_len (by decide), mF_set (by decide) (by decide +kernel) (by decide +kernel)]) rfl rfl ?_
  refine x_aload_n (M := M_X12_init) dX12_init_362 rfl ?_
  refine x_sipush (M := M_X12_init) dX12_init_363 ?_
  refine x_newJ (M := M_X12_init) (n := 8193) dX12_init_366 t_193 (by decide +kernel) (by decide +kernel) (by decide +kernel) (by decide +kernel) (by decide +kernel) ?_
  refine x_heap (h' := stt h a (.inr (15, mF h.length 42)) ++ mT 43) (by rw [List.append_assoc, mT_add rfl]) ?_
  refine x_put (M := M_X12_init) (ci := 15) (C := RX12) (T := TX12) (N := 135) (ty := tyX12) cl15 dX12_init_368 (ob_app _ (ob_self ha)) 72 (by decide) t_2463 (Or.inr ⟨rfl, rfl⟩) (by rw [mF_len]; decide) rfl ?_
  refine x_norm (h' := (stt h a (.inr (15, mF h.length 43)) ++ mT 43)) (cu' := 43) (su' := 510816) rfl rfl (by rw [stt_mid ha, len_mid, mT_len (by decide), mF_set (by decide) (by decide +kernel) (by decide +kernel)]) rfl rfl ?_
  refine x_aload_n (M := M_X12_init) dX12_init_371 rfl ?_
  refine x_sipush (M := M_X12_init) dX12_init_372 ?_
  refine x_newJ (M := M_X12_init) (n := 8193) dX12_init_375 t_193 (by decide +kernel) (by decide +kernel) (by decide +kernel) (by decide +kernel) (by decide +kernel) ?_
  refine x_heap (h' := stt h a (.inr (15, mF h.length 43)) ++ mT 44) (by rw [List.append_assoc, mT_add rfl]) ?_
  refine x_put (M := M_X12_init) (ci := 15) (C := RX12) (T := TX12) (N := 135) (ty := tyX12) cl15 dX12_init_377 (ob_app _ (ob_self ha)) 73 (by decide) t_2464 (Or.inr ⟨rfl, rfl⟩) (by rw [mF_len]; decide) rfl ?_
  refine x_norm (h' := (stt h a (.inr (15, mF h.length 44)) ++ mT 44)) (cu' := 44) (su' := 519009) rfl rfl (by rw [stt_mid ha, len_mid, mT_len (by decide), mF_set (by decide) (by decide +kernel) (by decide +kernel)]) rfl rfl ?_
  exact c_X12_h2 hl ha
set_option maxRecDepth 100000 in
set_option maxHeartbeats 1000000 in
theorem c_X12_h0 {l : Launch} {E : EE} (hl : l.stackTraces = false) {h : HP} {a : Nat} {dg : Int32} (ha : ob h a = some (.inr (15, mD))) : XX l E M_X12_init 1 81 1811608 (pR none (modH h a dg)) 4 [some (.ref a), some (.int dg), none] [] (stt h a (.inr (15, mF h.length 0)) ++ mT 0) 0 0 := by
  refine x_aload_n (M := M_X12_init) dX12_init_4 rfl ?_
  refine x_ldc (M := M_X12_init) dX12_init_5 t_2385 ?_
  refine x_newB (M := M_X12_init) (n := 65536) dX12_init_7 t_144 (by decide +kernel) (by decide +kernel) (by decide +kernel) (by decide +kernel) (by decide +kernel) ?_
  refine x_heap (h' := stt h a (.inr (15, mF h.length 0)) ++ mT 1) (by rw [List.append_assoc, mT_add rfl]) ?_
  refine x_put (M := M_X12_init) (ci := 15) (C := RX12) (T := TX12) (N := 135) (ty := tyX12) cl15 dX12_init_9 (ob_app _ (ob_self ha)) 3 (by decide) t_2394 (Or.inr ⟨rfl, rfl⟩) (by rw [mF_len]; decide) rfl ?_
  refine x_norm (h' := (stt h a (.inr (15, mF h.length 1)) ++ mT 1)) (cu' := 1) (su' := 65536) rfl rfl (by rw [stt_mid ha, len_mid, mT_len (by decide), mF_set (by decide) (by decide +kernel) (by decide +kernel)]) rfl rfl ?_
  refine x_aload_n (M := M_X12_init) dX12_init_12 rfl ?_
  refine x_ldc (M := M_X12_init) dX12_init_13 t_2386 ?_
  refine x_newB (M := M_X12_init) (n := 131072) dX12_init_15 t_144 (by decide +kernel) (by decide +kernel) (by decide +kernel) (by decide +kernel) (by decide +kernel) ?_
  refine x_heap (h' := stt h a (.inr (15, mF h.length 1)) ++ mT 2) (by rw [List.append_assoc, mT_add rfl]) ?_
  refine x_put (M := M_X12_init) (ci := 15) (C := RX12) (T := TX12) (N := 135) (ty := tyX12) cl15 dX12_init_17 (ob_app _ (ob_self ha)) 5 (by decide) t_2396 (Or.inr ⟨rfl, rfl⟩) (by rw [mF_len]; decide) rfl ?_
  refine x_norm (h' := (stt h a (.inr (15, mF h.length 2)) ++ mT 2)) (cu' := 2) (su' := 196608) rfl rfl (by rw [stt_mid ha, len_mid, mT_len (by decide), mF_set (by decide) (by decide +kernel) (by decide +kernel)]) rfl rfl ?_
  refine x_aload_n (M := M_X12_init) dX12_init_20 rfl ?_
  refine x_bipush (M := M_X12_init) dX12_init_21 ?_
  refine x_newI (M := M_X12_init) (n := 33) dX12_init_23 t_97 (by decide +kernel) (by decide +kernel) (by decide +kernel) (by decide +kernel) (by decide +kernel) ?_
  refine x_heap (h' := stt h a (.inr (15, mF h.length 2)) ++ mT 3) (by rw [List.append_assoc, mT_add rfl]) ?_
  refine x_put (M := M_X12_init) (ci := 15) (C := RX12) (T := TX12) (N := 135) (ty := tyX12) cl15 dX12_init_25 (ob_app _ (ob_self ha)) 9 (by decide) t_2400 (Or.inr ⟨rfl, rfl⟩) (by rw [mF_len]; decide) rfl ?_
  refine x_norm (h' := (stt h a (.inr (15, mF h.length 3)) ++ mT 3)) (cu' := 3) (su' := 196641) rfl rfl (by rw [stt_mid ha, len_mid, mT_len (by decide), mF_set (by decide) (by decide +kernel) (by decide +kernel)]) rfl rfl ?_
  refine x_aload_n (M := M_X12_init) dX12_init_28 rfl ?_
  refine x_ldc (M := M_X12_init) dX12_init_29 t_2387 ?_
  refine x_newI (M := M_X12_init) (n := 67584) dX12_init_31 t_97 (by decide +kernel) (by decide +kernel) (by decide +kernel) (by decide +kernel) (by decide +kernel) ?_
  refine x_heap (h' := stt h a (.inr (15, mF h.length 3)) ++ mT 4) (by rw [List.append_assoc, mT_add rfl]) ?_
  refine x_put (M := M_X12_init) (ci := 15) (C := RX12) (T := TX12) (N := 135) (ty := tyX12) cl15 dX12_init_33 (ob_app _ (ob_self ha)) 10 (by decide) t_2401 (Or.inr ⟨rfl, rfl⟩) (by rw [mF_len]; decide) rfl ?_
  refine x_norm (h' := (stt h a (.inr (15, mF h.length 4)) ++ mT 4)) (cu' := 4) (su' := 264225) rfl rfl (by rw [stt_mid ha, len_mid, mT_len (by decide), mF_set (by decide) (by decide +kernel) (by decide +kernel)]) rfl rfl ?_
  refine x_aload_n (M := M_X12_init) dX12_init_36 rfl ?_
  refine x_bipush (M := M_X12_init) dX12_init_37 ?_
  refine x_newI (M := M_X12_init) (n := 33) dX12_init_39 t_97 (by decide +kernel) (by decide +kernel) (by decide +kernel) (by decide +kernel) (by decide +kernel) ?_
  refine x_heap (h' := stt h a (.inr (15, mF h.length 4)) ++ mT 5) (by rw [List.append_assoc, mT_add rfl]) ?_
  refine x_put (M := M_X12_init) (ci := 15) (C := RX12) (T := TX12) (N := 135) (ty := tyX12) cl15 dX12_init_41 (ob_app _ (ob_self ha)) 11 (by decide) t_2402 (Or.inr ⟨rfl, rfl⟩) (by rw [mF_len]; decide) rfl ?_
  refine x_norm (h' := (stt h a (.inr (15, mF h.length 5)) ++ mT 5)) (cu' := 5) (su' := 264258) rfl rfl (by rw [stt_mid ha, len_mid, mT_len (by decide), mF_set (by decide) (by decide +kernel) (by decide +kernel)]) rfl rfl ?_
  refine x_aload_n (M := M_X12_init) dX12_init_44 rfl ?_
  refine x_ldc (M := M_X12_init) dX12_init_45 t_2387 ?_
  refine x_newI (M := M_X12_init) (n := 67584) dX12_init_47 t_97 (by decide +kernel) (by decide +kernel) (by decide +kernel) (by decide +kernel) (by decide +kernel) ?_
  refine x_heap (h' := stt h a (.inr (15, mF h.length 5)) ++ mT 6) (by rw [List.append_assoc, mT_add rfl]) ?_
  refine x_put (M := M_X12_init) (ci := 15) (C := RX12) (T := TX12) (N := 135) (ty := tyX12) cl15 dX12_init_49 (ob_app _ (ob_self ha)) 12 (by decide) t_2403 (Or.inr ⟨rfl, rfl⟩) (by rw [mF_len]; decide) rfl ?_
  refine x_norm (h' := (stt h a (.inr (15, mF h.length 6)) ++ mT 6)) (cu' := 6) (su' := 331842) rfl rfl (by rw [stt_mid ha, len_mid, mT_len (by decide), mF_set (by decide) (by decide +kernel) (by decide +kernel)]) rfl rfl ?_
  refine x_aload_n (M := M_X12_init) dX12_init_52 rfl ?_
  refine x_ldc (M := M_X12_init) dX12_init_53 t_2387 ?_
  refine x_newI (M := M_X12_init) (n := 67584) dX12_init_55 t_97 (by decide +kernel) (by decide +kernel) (by decide +kernel) (by decide +kernel) (by decide +kernel) ?_
  refine x_heap (h' := stt h a (.inr (15, mF h.length 6)) ++ mT 7) (by rw [List.append_assoc, mT_add rfl]) ?_
  refine x_put (M := M_X12_init) (ci := 15) (C := RX12) (T := TX12) (N := 135) (ty := tyX12) cl15 dX12_init_57 (ob_app _ (ob_self ha)) 13 (by decide) t_2404 (Or.inr ⟨rfl, rfl⟩) (by rw [mF_len]; decide) rfl ?_
  refine x_norm (h' := (stt h a (.inr (15, mF h.length 7)) ++ mT 7)) (cu' := 7) (su' := 399426) rfl rfl (by rw [stt_mid ha, len_mid, mT_len (by decide), mF_set (by decide) (by decide +kernel) (by decide +kernel)]) rfl rfl ?_
  refine x_aload_n (M := M_X12_init) dX12_init_60 rfl ?_
  refine x_bipush (M := M_X12_init) dX12_init_61 ?_
  refine x_newI (M := M_X12_init) (n := 7) dX12_init_63 t_97 (by decide +kernel) (by decide +kernel) (by decide +kernel) (by decide +kernel) (by decide +kernel) ?_
  refine x_heap (h' := stt h a (.inr (15, mF h.length 7)) ++ mT 8) (by rw [List.append_assoc, mT_add rfl]) ?_
  refine x_put (M := M_X12_init) (ci := 15) (C := RX12) (T := TX12) (N := 135) (ty := tyX12) cl15 dX12_init_65 (ob_app _ (ob_self ha)) 14 (by decide) t_2405 (Or.inr ⟨rfl, rfl⟩) (by rw [mF_len]; decide) rfl ?_
  refine x_norm (h' := (stt h a (.inr (15, mF h.length 8)) ++ mT 8)) (cu' := 8) (su' := 399433) rfl rfl (by rw [stt_mid ha, len_mid, mT_len (by decide), mF_set (by decide) (by decide +kernel) (by decide +kernel)]) rfl rfl ?_
  refine x_aload_n (M := M_X12_init) dX12_init_68 rfl ?_
  refine x_bipush (M := M_X12_init) dX12_init_69 ?_
  refine x_newI (M := M_X12_init) (n := 32) dX12_init_71 t_97 (by decide +kernel) (by decide +kernel) (by decide +kernel) (by decide +kernel) (by decide +kernel) ?_
  refine x_heap (h' := stt h a (.inr (15, mF h.length 8)) ++ mT 9) (by rw [List.append_assoc, mT_add rfl]) ?_
  refine x_put (M := M_X12_init) (ci := 15) (C := RX12) (T := TX12) (N := 135) (ty := tyX12) cl15 dX12_init_73 (ob_app _ (ob_self ha)) 15 (by decide) t_2406 (Or.inr ⟨rfl, rfl⟩) (by rw [mF_len]; decide) rfl ?_
  refine x_norm (h' := (stt h a (.inr (15, mF h.length 9)) ++ mT 9)) (cu' := 9) (su' := 399465) rfl rfl (by rw [stt_mid ha, len_mid, mT_len (by decide), mF_set (by decide) (by decide +kernel) (by decide +kernel)]) rfl rfl ?_
  refine x_aload_n (M := M_X12_init) dX12_init_76 rfl ?_
  refine x_bipush (M := M_X12_init) dX12_init_77 ?_
  refine x_newI (M := M_X12_init) (n := 60) dX12_init_79 t_97 (by decide +kernel) (by decide +kernel) (by decide +kernel) (by decide +kernel) (by decide +kernel) ?_
  refine x_heap (h' := stt h a (.inr (15, mF h.length 9)) ++ mT 10) (by rw [List.append_assoc, mT_add rfl]) ?_
  refine x_put (M := M_X12_init) (ci := 15) (C := RX12) (T := TX12) (N := 135) (ty := tyX12) cl15 dX12_init_81 (ob_app _ (ob_self ha)) 19 (by decide) t_2410 (Or.inr ⟨rfl, rfl⟩) (by rw [mF_len]; decide) rfl ?_
  refine x_norm (h' := (stt h a (.inr (15, mF h.length 10)) ++ mT 10)) (cu' := 10) (su' := 399525) rfl rfl (by rw [stt_mid ha, len_mid, mT_len (by decide), mF_set (by decide) (by decide +kernel) (by decide +kernel)]) rfl rfl ?_
  refine x_aload_n (M := M_X12_init) dX12_init_84 rfl ?_
  refine x_bipush (M := M_X12_init) dX12_init_85 ?_
  refine x_newJ (M := M_X12_init) (n := 60) dX12_init_87 t_193 (by decide +kernel) (by decide +kernel) (by decide +kernel) (by decide +kernel) (by decide +kernel) ?_
  refine x_heap (h' := stt h a (.inr (15, mF h.length 10)) ++ mT 11) (by rw [List.append_assoc, mT_add rfl]) ?_
  refine x_put (M := M_X12_init) (ci := 15) (C := RX12) (T := TX12) (N := 135) (ty := tyX12) cl15 dX12_init_89 (ob_app _ (ob_self ha)) 27 (by decide) t_2418 (Or.inr ⟨rfl, rfl⟩) (by rw [mF_len]; decide) rfl ?_
  refine x_norm (h' := (stt h a (.inr (15, mF h.length 11)) ++ mT 11)) (cu' := 11) (su' := 399585) rfl rfl (by rw [stt_mid ha, len_mid, mT_len (by decide), mF_set (by decide) (by decide +kernel) (by decide +kernel)]) rfl rfl ?_
  refine x_aload_n (M := M_X12_init) dX12_init_92 rfl ?_
  refine x_bipush (M := M_X12_init) dX12_init_93 ?_
  refine x_newI (M := M_X12_init) (n := 60) dX12_init_95 t_97 (by decide +kernel) (by decide +kernel) (by decide +kernel) (by decide +kernel) (by decide +kernel) ?_
  refine x_heap (h' := stt h a (.inr (15, mF h.length 11)) ++ mT 12) (by rw [List.append_assoc, mT_add rfl]) ?_
  refine x_put (M := M_X12_init) (ci := 15) (C := RX12) (T := TX12) (N := 135) (ty := tyX12) cl15 dX12_init_97 (ob_app _ (ob_self ha)) 28 (by decide) t_2419 (Or.inr ⟨rfl, rfl⟩) (by rw [mF_len]; decide) rfl ?_
  refine x_norm (h' := (stt h a (.inr (15, mF h.length 12)) ++ mT 12)) (cu' := 12) (su' := 399645) rfl rfl (by rw [stt_mid ha, len_mid, mT_len (by decide), mF_set (by decide) (by decide +kernel) (by decide +kernel)]) rfl rfl ?_
  refine x_aload_n (M := M_X12_init) dX12_init_100 rfl ?_
  refine x_bipush (M := M_X12_init) dX12_init_101 ?_
  refine x_newJ (M := M_X12_init) (n := 32) dX12_init_103 t_193 (by decide +kernel) (by decide +kernel) (by decide +kernel) (by decide +kernel) (by decide +kernel) ?_
  refine x_heap (h' := stt h a (.inr (15, mF h.length 12)) ++ mT 13) (by rw [List.append_assoc, mT_add rfl]) ?_
  refine x_put (M := M_X12_init) (ci := 15) (C := RX12) (T := TX12) (N := 135) (ty := tyX12) cl15 dX12_init_105 (ob_app _ (ob_self ha)) 32 (by decide) t_2423 (Or.inr ⟨rfl, rfl⟩) (by rw [mF_len]; decide) rfl ?_
  refine x_norm (h' := (stt h a (.inr (15, mF h.length 13)) ++ mT 13)) (cu' := 13) (su' := 399677) rfl rfl (by rw [stt_mid ha, len_mid, mT_len (by decide), mF_set (by decide) (by decide +kernel) (by decide +kernel)]) rfl rfl ?_
  refine x_aload_n (M := M_X12_init) dX12_init_108 rfl ?_
  refine x_bipush (M := M_X12_init) dX12_init_109 ?_
  refine x_newJ (M := M_X12_init) (n := 32) dX12_init_111 t_193 (by decide +kernel) (by decide +kernel) (by decide +kernel) (by decide +kernel) (by decide +kernel) ?_
  refine x_heap (h' := stt h a (.inr (15, mF h.length 13)) ++ mT 14) (by rw [List.append_assoc, mT_add rfl]) ?_
  refine x_put (M := M_X12_init) (ci := 15) (C := RX12) (T := TX12) (N := 135) (ty := tyX12) cl15 dX12_init_113 (ob_app _ (ob_self ha)) 33 (by decide) t_2424 (Or.inr ⟨rfl, rfl⟩) (by rw [mF_len]; decide) rfl ?_
  refine x_norm (h' := (stt h a (.inr (15, mF h.length 14)) ++ mT 14)) (cu' := 14) (su' := 399709) rfl rfl (by rw [stt_mid ha, len_mid, mT_len (by decide), mF_set (by decide) (by decide +kernel) (by decide +kernel)]) rfl rfl ?_
  refine x_aload_n (M := M_X12_init) dX12_init_116 rfl ?_
  refine x_bipush (M := M_X12_init) dX12_init_117 ?_
  refine x_newJ (M := M_X12_init) (n := 32) dX12_init_119 t_193 (by decide +kernel) (by decide +kernel) (by decide +kernel) (by decide +kernel) (by decide +kernel) ?_
  refine x_heap (h' := stt h a (.inr (15, mF h.length 14)) ++ mT 15) (by rw [List.append_assoc, mT_add rfl]) ?_
  refine x_put (M := M_X12_init) (ci := 15) (C := RX12) (T := TX12) (N := 135) (ty := tyX12) cl15 dX12_init_121 (ob_app _ (ob_self ha)) 34 (by decide) t_2425 (Or.inr ⟨rfl, rfl⟩) (by rw [mF_len]; decide) rfl ?_
  refine x_norm (h' := (stt h a (.inr (15, mF h.length 15)) ++ mT 15)) (cu' := 15) (su' := 399741) rfl rfl (by rw [stt_mid ha, len_mid, mT_len (by decide), mF_set (by decide) (by decide +kernel) (by decide +kernel)]) rfl rfl ?_
  refine x_aload_n (M := M_X12_init) dX12_init_124 rfl ?_
  refine x_bipush (M := M_X12_init) dX12_init_125 ?_
  refine x_newJ (M := M_X12_init) (n := 32) dX12_init_127 t_193 (by decide +kernel) (by decide +kernel) (by decide +kernel) (by decide +kernel) (by decide +kernel) ?_
  refine x_heap (h' := stt h a (.inr (15, mF h.length 15)) ++ mT 16) (by rw [List.append_assoc, mT_add rfl]) ?_
  refine x_put (M := M_X12_init) (ci := 15) (C := RX12) (T := TX12) (N := 135) (ty := tyX12) cl15 dX12_init_129 (ob_app _ (ob_self ha)) 35 (by decide) t_2426 (Or.inr ⟨rfl, rfl⟩) (by rw [mF_len]; decide) rfl ?_
  refine x_norm (h' := (stt h a (.inr (15, mF h.length 16)) ++ mT 16)) (cu' := 16) (su' := 399773) rfl rfl (by rw [stt_mid ha, len_mid, mT_len (by decide), mF_set (by decide) (by decide +kernel) (by decide +kernel)]) rfl rfl ?_
  refine x_aload_n (M := M_X12_init) dX12_init_132 rfl ?_
  refine x_sipush (M := M_X12_init) dX12_init_133 ?_
  refine x_newJ (M := M_X12_init) (n := 6000) dX12_init_136 t_193 (by decide +kernel) (by decide +kernel) (by decide +kernel) (by decide +kernel) (by decide +kernel) ?_
  refine x_heap (h' := stt h a (.inr (15, mF h.length 16)) ++ mT 17) (by rw [List.append_assoc, mT_add rfl]) ?_
  refine x_put (M := M_X12_init) (ci := 15) (C := RX12) (T := TX12) (N := 135) (ty := tyX12) cl15 dX12_init_138 (ob_app _ (ob_self ha)) 36 (by decide) t_2427 (Or.inr ⟨rfl, rfl⟩) (by rw [mF_len]; decide) rfl ?_
  refine x_norm (h' := (stt h a (.inr (15, mF h.length 17)) ++ mT 17)) (cu' := 17) (su' := 405773) rfl rfl (by rw [stt_mid ha, len_mid, mT_len (by decide), mF_set (by decide) (by decide +kernel) (by decide +kernel)]) rfl rfl ?_
  refine x_aload_n (M := M_X12_init) dX12_init_141 rfl ?_
  refine x_bipush (M := M_X12_init) dX12_init_142 ?_
  refine x_newI (M := M_X12_init) (n := 20) dX12_init_144 t_97 (by decide +kernel) (by decide +kernel) (by decide +kernel) (by decide +kernel) (by decide +kernel) ?_
  refine x_heap (h' := stt h a (.inr (15, mF h.length 17)) ++ mT 18) (by rw [List.append_assoc, mT_add rfl]) ?_
  refine x_put (M := M_X12_init) (ci := 15) (C := RX12) (T := TX12) (N := 135) (ty := tyX12) cl15 dX12_init_146 (ob_app _ (ob_self ha)) 37 (by decide) t_2428 (Or.inr ⟨rfl, rfl⟩) (by rw [mF_len]; decide) rfl ?_
  refine x_norm (h' := (stt h a (.inr (15, mF h.length 18)) ++ mT 18)) (cu' := 18) (su' := 405793) rfl rfl (by rw [stt_mid ha, len_mid, mT_len (by decide), mF_set (by decide) (by decide +kernel) (by decide +kernel)]) rfl rfl ?_
  refine x_aload_n (M := M_X12_init) dX12_init_149 rfl ?_
  refine x_bipush (M := M_X12_init) dX12_init_150 ?_
  refine x_newI (M := M_X12_init) (n := 20) dX12_init_152 t_97 (by decide +kernel) (by decide +kernel) (by decide +kernel) (by decide +kernel) (by decide +kernel) ?_
  refine x_heap (h' := stt h a (.inr (15, mF h.length 18)) ++ mT 19) (by rw [List.append_assoc, mT_add rfl]) ?_
  refine x_put (M := M_X12_init) (ci := 15) (C := RX12) (T := TX12) (N := 135) (ty := tyX12) cl15 dX12_init_154 (ob_app _ (ob_self ha)) 38 (by decide) t_2429 (Or.inr ⟨rfl, rfl⟩) (by rw [mF_len]; decide) rfl ?_
  refine x_norm (h' := (stt h a (.inr (15, mF h.length 19)) ++ mT 19)) (cu' := 19) (su' := 405813) rfl rfl (by rw [stt_mid ha, len_mid, mT_len (by decide), mF_set (by decide) (by decide +kernel) (by decide +kernel)]) rfl rfl ?_
  refine x_aload_n (M := M_X12_init) dX12_init_157 rfl ?_
  refine x_bipush (M := M_X12_init) dX12_init_158 ?_
  refine x_newJ (M := M_X12_init) (n := 32) dX12_init_160 t_193 (by decide +kernel) (by decide +kernel) (by decide +kernel) (by decide +kernel) (by decide +kernel) ?_
  refine x_heap (h' := stt h a (.inr (15, mF h.length 19)) ++ mT 20) (by rw [List.append_assoc, mT_add rfl]) ?_
  refine x_put (M := M_X12_init) (ci := 15) (C := RX12) (T := TX12) (N := 135) (ty := tyX12) cl15 dX12_init_162 (ob_app _ (ob_self ha)) 39 (by decide) t_2430 (Or.inr ⟨rfl, rfl⟩) (by rw [mF_len]; decide) rfl ?_
  refine x_norm (h' := (stt h a (.inr (15, mF h.length 20)) ++ mT 20)) (cu' := 20) (su' := 405845) rfl rfl (by rw [stt_mid ha, len_mid, mT_len (by decide), mF_set (by decide) (by decide +kernel) (by decide +kernel)]) rfl rfl ?_
  refine x_aload_n (M := M_X12_init) dX12_init_165 rfl ?_
  refine x_bipush (M := M_X12_init) dX12_init_166 ?_
  refine x_newJ (M := M_X12_init) (n := 32) dX12_init_168 t_193 (by decide +kernel) (by decide +kernel) (by decide +kernel) (by decide +kernel) (by decide +kernel) ?_
  refine x_heap (h' := stt h a (.inr (15, mF h.length 20)) ++ mT 21) (by rw [List.append_assoc, mT_add rfl]) ?_
  refine x_put (M := M_X12_init) (ci := 15) (C := RX12) (T := TX12) (N := 135) (ty := tyX12) cl15 dX12_init_170 (ob_app _ (ob_self ha)) 40 (by decide) t_2431 (Or.inr ⟨rfl, rfl⟩) (by rw [mF_len]; decide) rfl ?_
  refine x_norm (h' := (stt h a (.inr (15, mF h.length 21)) ++ mT 21)) (cu' := 21) (su' := 405877) rfl rfl (by rw [stt_mid ha, len_mid, mT_len (by decide), mF_set (by decide) (by decide +kernel) (by decide +kernel)]) rfl rfl ?_
  refine x_aload_n (M := M_X12_init) dX12_init_173 rfl ?_
  refine x_sipush (M := M_X12_init) dX12_init_174 ?_
  refine x_newJ (M := M_X12_init) (n := 4200) dX12_init_177 t_193 (by decide +kernel) (by decide +kernel) (by decide +kernel) (by decide +kernel) (by decide +kernel) ?_
  refine x_heap (h' := stt h a (.inr (15, mF h.length 21)) ++ mT 22) (by rw [List.append_assoc, mT_add rfl]) ?_
  refine x_put (M := M_X12_init) (ci := 15) (C := RX12) (T := TX12) (N := 135) (ty := tyX12) cl15 dX12_init_179 (ob_app _ (ob_self ha)) 41 (by decide) t_2432 (Or.inr ⟨rfl, rfl⟩) (by rw [mF_len]; decide) rfl ?_
  refine x_norm (h' := (stt h a (.inr (15, mF h.length 22)) ++ mT 22)) (cu' := 22) (su' := 410077) rfl rfl (by rw [stt_mid ha, len_mid, mT_len (by decide), mF_set (by decide) (by decide +kernel) (by decide +kernel)]) rfl rfl ?_
  exact c_X12_h1 hl ha
theorem c_X12_init {l : Launch} {E : EE} (hl : l.stackTraces = false) {h : HP} {a : Nat} {dg : Int32} (ha : ob h a = some (.inr (15, mD))) : en_C l E M_X12_init 1 81 1811608 [.ref a, .int dg] h (pR none (modH h a dg)) := by
  refine en_mk m_X12_init rfl hl (Nat.le_of_ble_eq_true rfl) ?_
  refine x_aload_n (M := M_X12_init) dX12_init_0 rfl ?_
  refine x_objInit (M := M_X12_init) dX12_init_1 t_2384 t_41 t_42 (Nat.le_of_ble_eq_true rfl) (Nat.le_of_ble_eq_true rfl) ?_
  refine x_norm (h' := (stt h a (.inr (15, mF h.length 0)) ++ mT 0)) rfl rfl (by show h = stt h a _ ++ []; rw [List.append_nil, mF_0]; exact (stt_id ha).symm) rfl rfl (c_X12_h0 hl ha)

