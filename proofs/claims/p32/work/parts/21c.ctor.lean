set_option maxRecDepth 20000 in
set_option maxHeartbeats 4000000 in
theorem c_X6_init {l : Launch} {E : EE} (hl : l.stackTraces = false) {h : HP} {a : Nat} (ha : ob h a = some (.inr (9, [.null, .null, .null, .int 0, .int 0])))  : en_C l E M_X6_init 1 3 6144 [.ref a] h (pR none (stt h a (.inr (9, [.ref (32 + (h.length + 0)), .ref (32 + (h.length + 1)), .ref (32 + (h.length + 2)), .int 0, .int 0])) ++ [some (.inl (0, 2048, .inl (fun _ => 0))), some (.inl (0, 2048, .inl (fun _ => 0))), some (.inl (0, 2048, .inl (fun _ => 0)))])) := by
  refine en_mk m_X6_init rfl hl (Nat.le_of_ble_eq_true rfl) ?_
  refine x_heap (h' := stt h a (.inr (9, [.null, .null, .null, .int 0, .int 0])) ++ []) (by rw [List.append_nil]; exact (stt_id ha).symm) ?_
  refine x_aload_n (M := M_X6_init) dX6_init_0 rfl ?_
  refine x_objInit (M := M_X6_init) dX6_init_1 t_49 t_41 t_42 (Nat.le_of_ble_eq_true rfl) (Nat.le_of_ble_eq_true rfl) ?_
  refine x_aload_n (M := M_X6_init) dX6_init_4 rfl ?_
  refine x_sipush (M := M_X6_init) dX6_init_5 ?_
  refine x_newI (M := M_X6_init) (n := 2048) dX6_init_8 t_97 (by decide +kernel) (by decide +kernel) (by decide +kernel) (by decide +kernel) (by decide +kernel) ?_
  refine x_heap (h' := stt h a (.inr (9, [.null, .null, .null, .int 0, .int 0])) ++ [some (.inl (0, 2048, .inl (fun _ => 0)))]) (by rw [List.append_assoc]; rfl) ?_
  refine x_put (M := M_X6_init) (ci := 9) (C := RX6) (T := TX6) (N := 5) (ty := tyX6) cl9 dX6_init_10 (ob_app _ (ob_self ha)) 0 (by decide) t_50 (Or.inr ⟨rfl, rfl⟩) (Nat.le_of_ble_eq_true rfl) rfl ?_
  refine x_heap (h' := stt h a (.inr (9, [.ref (32 + (h.length + 0)), .null, .null, .int 0, .int 0])) ++ [some (.inl (0, 2048, .inl (fun _ => 0)))]) (by rw [stt_mid ha, len_mid]; rfl) ?_
  refine x_aload_n (M := M_X6_init) dX6_init_13 rfl ?_
  refine x_sipush (M := M_X6_init) dX6_init_14 ?_
  refine x_newI (M := M_X6_init) (n := 2048) dX6_init_17 t_97 (by decide +kernel) (by decide +kernel) (by decide +kernel) (by decide +kernel) (by decide +kernel) ?_
  refine x_heap (h' := stt h a (.inr (9, [.ref (32 + (h.length + 0)), .null, .null, .int 0, .int 0])) ++ [some (.inl (0, 2048, .inl (fun _ => 0))), some (.inl (0, 2048, .inl (fun _ => 0)))]) (by rw [List.append_assoc]; rfl) ?_
  refine x_put (M := M_X6_init) (ci := 9) (C := RX6) (T := TX6) (N := 5) (ty := tyX6) cl9 dX6_init_19 (ob_app _ (ob_self ha)) 1 (by decide) t_58 (Or.inr ⟨rfl, rfl⟩) (Nat.le_of_ble_eq_true rfl) rfl ?_
  refine x_heap (h' := stt h a (.inr (9, [.ref (32 + (h.length + 0)), .ref (32 + (h.length + 1)), .null, .int 0, .int 0])) ++ [some (.inl (0, 2048, .inl (fun _ => 0))), some (.inl (0, 2048, .inl (fun _ => 0)))]) (by rw [stt_mid ha, len_mid]; rfl) ?_
  refine x_aload_n (M := M_X6_init) dX6_init_22 rfl ?_
  refine x_sipush (M := M_X6_init) dX6_init_23 ?_
  refine x_newI (M := M_X6_init) (n := 2048) dX6_init_26 t_97 (by decide +kernel) (by decide +kernel) (by decide +kernel) (by decide +kernel) (by decide +kernel) ?_
  refine x_heap (h' := stt h a (.inr (9, [.ref (32 + (h.length + 0)), .ref (32 + (h.length + 1)), .null, .int 0, .int 0])) ++ [some (.inl (0, 2048, .inl (fun _ => 0))), some (.inl (0, 2048, .inl (fun _ => 0))), some (.inl (0, 2048, .inl (fun _ => 0)))]) (by rw [List.append_assoc]; rfl) ?_
  refine x_put (M := M_X6_init) (ci := 9) (C := RX6) (T := TX6) (N := 5) (ty := tyX6) cl9 dX6_init_28 (ob_app _ (ob_self ha)) 2 (by decide) t_65 (Or.inr ⟨rfl, rfl⟩) (Nat.le_of_ble_eq_true rfl) rfl ?_
  refine x_heap (h' := stt h a (.inr (9, [.ref (32 + (h.length + 0)), .ref (32 + (h.length + 1)), .ref (32 + (h.length + 2)), .int 0, .int 0])) ++ [some (.inl (0, 2048, .inl (fun _ => 0))), some (.inl (0, 2048, .inl (fun _ => 0))), some (.inl (0, 2048, .inl (fun _ => 0)))]) (by rw [stt_mid ha, len_mid]; rfl) ?_
  exact x_vret (M := M_X6_init) dX6_init_31 rfl ⟨rfl, rfl⟩ (Nat.le_of_ble_eq_true rfl) (Nat.le_of_ble_eq_true rfl)

set_option maxRecDepth 20000 in
set_option maxHeartbeats 4000000 in
theorem c_X5_init_2048 {l : Launch} {E : EE} (hl : l.stackTraces = false) {h : HP} {a : Nat} (ha : ob h a = some (.inr (8, [.null, .null, .null, .null, .null, .int 0, .int 0, .int 0]))) {x : Int32} (hx0 : ¬ x < 0) (hx1 : x.toNatClampNeg = 2048) : en_C l E M_X5_init 1 5 10240 [.ref a, .int x] h (pR none (stt h a (.inr (8, [.ref (32 + (h.length + 0)), .ref (32 + (h.length + 1)), .ref (32 + (h.length + 2)), .ref (32 + (h.length + 3)), .ref (32 + (h.length + 4)), .int 0, .int 0, .int 0])) ++ [some (.inl (0, 2048, .inl (fun _ => 0))), some (.inl (0, 2048, .inl (fun _ => 0))), some (.inl (0, 2048, .inl (fun _ => 0))), some (.inl (0, 2048, .inl (fun _ => 0))), some (.inl (0, 2048, .inl (fun _ => 0)))])) := by
  refine en_mk m_X5_init rfl hl (Nat.le_of_ble_eq_true rfl) ?_
  refine x_heap (h' := stt h a (.inr (8, [.null, .null, .null, .null, .null, .int 0, .int 0, .int 0])) ++ []) (by rw [List.append_nil]; exact (stt_id ha).symm) ?_
  refine x_aload_n (M := M_X5_init) dX5_init_0 rfl ?_
  refine x_objInit (M := M_X5_init) dX5_init_1 t_233 t_41 t_42 (Nat.le_of_ble_eq_true rfl) (Nat.le_of_ble_eq_true rfl) ?_
  refine x_aload_n (M := M_X5_init) dX5_init_4 rfl ?_
  refine x_iload_n (M := M_X5_init) dX5_init_5 rfl ?_
  refine x_newI (M := M_X5_init) (n := 2048) dX5_init_6 t_97 hx0 hx1 (by decide +kernel) (by decide +kernel) (by decide +kernel) ?_
  refine x_heap (h' := stt h a (.inr (8, [.null, .null, .null, .null, .null, .int 0, .int 0, .int 0])) ++ [some (.inl (0, 2048, .inl (fun _ => 0)))]) (by rw [List.append_assoc]; rfl) ?_
  refine x_put (M := M_X5_init) (ci := 8) (C := RX5) (T := TX5) (N := 8) (ty := tyX5) cl8 dX5_init_8 (ob_app _ (ob_self ha)) 0 (by decide) t_234 (Or.inr ⟨rfl, rfl⟩) (Nat.le_of_ble_eq_true rfl) rfl ?_
  refine x_heap (h' := stt h a (.inr (8, [.ref (32 + (h.length + 0)), .null, .null, .null, .null, .int 0, .int 0, .int 0])) ++ [some (.inl (0, 2048, .inl (fun _ => 0)))]) (by rw [stt_mid ha, len_mid]; rfl) ?_
  refine x_aload_n (M := M_X5_init) dX5_init_11 rfl ?_
  refine x_iload_n (M := M_X5_init) dX5_init_12 rfl ?_
  refine x_newI (M := M_X5_init) (n := 2048) dX5_init_13 t_97 hx0 hx1 (by decide +kernel) (by decide +kernel) (by decide +kernel) ?_
  refine x_heap (h' := stt h a (.inr (8, [.ref (32 + (h.length + 0)), .null, .null, .null, .null, .int 0, .int 0, .int 0])) ++ [some (.inl (0, 2048, .inl (fun _ => 0))), some (.inl (0, 2048, .inl (fun _ => 0)))]) (by rw [List.append_assoc]; rfl) ?_
  refine x_put (M := M_X5_init) (ci := 8) (C := RX5) (T := TX5) (N := 8) (ty := tyX5) cl8 dX5_init_15 (ob_app _ (ob_self ha)) 1 (by decide) t_238 (Or.inr ⟨rfl, rfl⟩) (Nat.le_of_ble_eq_true rfl) rfl ?_
  refine x_heap (h' := stt h a (.inr (8, [.ref (32 + (h.length + 0)), .ref (32 + (h.length + 1)), .null, .null, .null, .int 0, .int 0, .int 0])) ++ [some (.inl (0, 2048, .inl (fun _ => 0))), some (.inl (0, 2048, .inl (fun _ => 0)))]) (by rw [stt_mid ha, len_mid]; rfl) ?_
  refine x_aload_n (M := M_X5_init) dX5_init_18 rfl ?_
  refine x_iload_n (M := M_X5_init) dX5_init_19 rfl ?_
  refine x_newI (M := M_X5_init) (n := 2048) dX5_init_20 t_97 hx0 hx1 (by decide +kernel) (by decide +kernel) (by decide +kernel) ?_
  refine x_heap (h' := stt h a (.inr (8, [.ref (32 + (h.length + 0)), .ref (32 + (h.length + 1)), .null, .null, .null, .int 0, .int 0, .int 0])) ++ [some (.inl (0, 2048, .inl (fun _ => 0))), some (.inl (0, 2048, .inl (fun _ => 0))), some (.inl (0, 2048, .inl (fun _ => 0)))]) (by rw [List.append_assoc]; rfl) ?_
  refine x_put (M := M_X5_init) (ci := 8) (C := RX5) (T := TX5) (N := 8) (ty := tyX5) cl8 dX5_init_22 (ob_app _ (ob_self ha)) 2 (by decide) t_242 (Or.inr ⟨rfl, rfl⟩) (Nat.le_of_ble_eq_true rfl) rfl ?_
  refine x_heap (h' := stt h a (.inr (8, [.ref (32 + (h.length + 0)), .ref (32 + (h.length + 1)), .ref (32 + (h.length + 2)), .null, .null, .int 0, .int 0, .int 0])) ++ [some (.inl (0, 2048, .inl (fun _ => 0))), some (.inl (0, 2048, .inl (fun _ => 0))), some (.inl (0, 2048, .inl (fun _ => 0)))]) (by rw [stt_mid ha, len_mid]; rfl) ?_
  refine x_aload_n (M := M_X5_init) dX5_init_25 rfl ?_
  refine x_iload_n (M := M_X5_init) dX5_init_26 rfl ?_
  refine x_newI (M := M_X5_init) (n := 2048) dX5_init_27 t_97 hx0 hx1 (by decide +kernel) (by decide +kernel) (by decide +kernel) ?_
  refine x_heap (h' := stt h a (.inr (8, [.ref (32 + (h.length + 0)), .ref (32 + (h.length + 1)), .ref (32 + (h.length + 2)), .null, .null, .int 0, .int 0, .int 0])) ++ [some (.inl (0, 2048, .inl (fun _ => 0))), some (.inl (0, 2048, .inl (fun _ => 0))), some (.inl (0, 2048, .inl (fun _ => 0))), some (.inl (0, 2048, .inl (fun _ => 0)))]) (by rw [List.append_assoc]; rfl) ?_
  refine x_put (M := M_X5_init) (ci := 8) (C := RX5) (T := TX5) (N := 8) (ty := tyX5) cl8 dX5_init_29 (ob_app _ (ob_self ha)) 3 (by decide) t_246 (Or.inr ⟨rfl, rfl⟩) (Nat.le_of_ble_eq_true rfl) rfl ?_
  refine x_heap (h' := stt h a (.inr (8, [.ref (32 + (h.length + 0)), .ref (32 + (h.length + 1)), .ref (32 + (h.length + 2)), .ref (32 + (h.length + 3)), .null, .int 0, .int 0, .int 0])) ++ [some (.inl (0, 2048, .inl (fun _ => 0))), some (.inl (0, 2048, .inl (fun _ => 0))), some (.inl (0, 2048, .inl (fun _ => 0))), some (.inl (0, 2048, .inl (fun _ => 0)))]) (by rw [stt_mid ha, len_mid]; rfl) ?_
  refine x_aload_n (M := M_X5_init) dX5_init_32 rfl ?_
  refine x_iload_n (M := M_X5_init) dX5_init_33 rfl ?_
  refine x_newI (M := M_X5_init) (n := 2048) dX5_init_34 t_97 hx0 hx1 (by decide +kernel) (by decide +kernel) (by decide +kernel) ?_
  refine x_heap (h' := stt h a (.inr (8, [.ref (32 + (h.length + 0)), .ref (32 + (h.length + 1)), .ref (32 + (h.length + 2)), .ref (32 + (h.length + 3)), .null, .int 0, .int 0, .int 0])) ++ [some (.inl (0, 2048, .inl (fun _ => 0))), some (.inl (0, 2048, .inl (fun _ => 0))), some (.inl (0, 2048, .inl (fun _ => 0))), some (.inl (0, 2048, .inl (fun _ => 0))), some (.inl (0, 2048, .inl (fun _ => 0)))]) (by rw [List.append_assoc]; rfl) ?_
  refine x_put (M := M_X5_init) (ci := 8) (C := RX5) (T := TX5) (N := 8) (ty := tyX5) cl8 dX5_init_36 (ob_app _ (ob_self ha)) 4 (by decide) t_250 (Or.inr ⟨rfl, rfl⟩) (Nat.le_of_ble_eq_true rfl) rfl ?_
  refine x_heap (h' := stt h a (.inr (8, [.ref (32 + (h.length + 0)), .ref (32 + (h.length + 1)), .ref (32 + (h.length + 2)), .ref (32 + (h.length + 3)), .ref (32 + (h.length + 4)), .int 0, .int 0, .int 0])) ++ [some (.inl (0, 2048, .inl (fun _ => 0))), some (.inl (0, 2048, .inl (fun _ => 0))), some (.inl (0, 2048, .inl (fun _ => 0))), some (.inl (0, 2048, .inl (fun _ => 0))), some (.inl (0, 2048, .inl (fun _ => 0)))]) (by rw [stt_mid ha, len_mid]; rfl) ?_
  exact x_vret (M := M_X5_init) dX5_init_39 rfl ⟨rfl, rfl⟩ (Nat.le_of_ble_eq_true rfl) (Nat.le_of_ble_eq_true rfl)

set_option maxRecDepth 20000 in
set_option maxHeartbeats 4000000 in
theorem c_X5_init_256 {l : Launch} {E : EE} (hl : l.stackTraces = false) {h : HP} {a : Nat} (ha : ob h a = some (.inr (8, [.null, .null, .null, .null, .null, .int 0, .int 0, .int 0]))) {x : Int32} (hx0 : ¬ x < 0) (hx1 : x.toNatClampNeg = 256) : en_C l E M_X5_init 1 5 1280 [.ref a, .int x] h (pR none (stt h a (.inr (8, [.ref (32 + (h.length + 0)), .ref (32 + (h.length + 1)), .ref (32 + (h.length + 2)), .ref (32 + (h.length + 3)), .ref (32 + (h.length + 4)), .int 0, .int 0, .int 0])) ++ [some (.inl (0, 256, .inl (fun _ => 0))), some (.inl (0, 256, .inl (fun _ => 0))), some (.inl (0, 256, .inl (fun _ => 0))), some (.inl (0, 256, .inl (fun _ => 0))), some (.inl (0, 256, .inl (fun _ => 0)))])) := by
  refine en_mk m_X5_init rfl hl (Nat.le_of_ble_eq_true rfl) ?_
  refine x_heap (h' := stt h a (.inr (8, [.null, .null, .null, .null, .null, .int 0, .int 0, .int 0])) ++ []) (by rw [List.append_nil]; exact (stt_id ha).symm) ?_
  refine x_aload_n (M := M_X5_init) dX5_init_0 rfl ?_
  refine x_objInit (M := M_X5_init) dX5_init_1 t_233 t_41 t_42 (Nat.le_of_ble_eq_true rfl) (Nat.le_of_ble_eq_true rfl) ?_
  refine x_aload_n (M := M_X5_init) dX5_init_4 rfl ?_
  refine x_iload_n (M := M_X5_init) dX5_init_5 rfl ?_
  refine x_newI (M := M_X5_init) (n := 256) dX5_init_6 t_97 hx0 hx1 (by decide +kernel) (by decide +kernel) (by decide +kernel) ?_
  refine x_heap (h' := stt h a (.inr (8, [.null, .null, .null, .null, .null, .int 0, .int 0, .int 0])) ++ [some (.inl (0, 256, .inl (fun _ => 0)))]) (by rw [List.append_assoc]; rfl) ?_
  refine x_put (M := M_X5_init) (ci := 8) (C := RX5) (T := TX5) (N := 8) (ty := tyX5) cl8 dX5_init_8 (ob_app _ (ob_self ha)) 0 (by decide) t_234 (Or.inr ⟨rfl, rfl⟩) (Nat.le_of_ble_eq_true rfl) rfl ?_
  refine x_heap (h' := stt h a (.inr (8, [.ref (32 + (h.length + 0)), .null, .null, .null, .null, .int 0, .int 0, .int 0])) ++ [some (.inl (0, 256, .inl (fun _ => 0)))]) (by rw [stt_mid ha, len_mid]; rfl) ?_
  refine x_aload_n (M := M_X5_init) dX5_init_11 rfl ?_
  refine x_iload_n (M := M_X5_init) dX5_init_12 rfl ?_
  refine x_newI (M := M_X5_init) (n := 256) dX5_init_13 t_97 hx0 hx1 (by decide +kernel) (by decide +kernel) (by decide +kernel) ?_
  refine x_heap (h' := stt h a (.inr (8, [.ref (32 + (h.length + 0)), .null, .null, .null, .null, .int 0, .int 0, .int 0])) ++ [some (.inl (0, 256, .inl (fun _ => 0))), some (.inl (0, 256, .inl (fun _ => 0)))]) (by rw [List.append_assoc]; rfl) ?_
  refine x_put (M := M_X5_init) (ci := 8) (C := RX5) (T := TX5) (N := 8) (ty := tyX5) cl8 dX5_init_15 (ob_app _ (ob_self ha)) 1 (by decide) t_238 (Or.inr ⟨rfl, rfl⟩) (Nat.le_of_ble_eq_true rfl) rfl ?_
  refine x_heap (h' := stt h a (.inr (8, [.ref (32 + (h.length + 0)), .ref (32 + (h.length + 1)), .null, .null, .null, .int 0, .int 0, .int 0])) ++ [some (.inl (0, 256, .inl (fun _ => 0))), some (.inl (0, 256, .inl (fun _ => 0)))]) (by rw [stt_mid ha, len_mid]; rfl) ?_
  refine x_aload_n (M := M_X5_init) dX5_init_18 rfl ?_
  refine x_iload_n (M := M_X5_init) dX5_init_19 rfl ?_
  refine x_newI (M := M_X5_init) (n := 256) dX5_init_20 t_97 hx0 hx1 (by decide +kernel) (by decide +kernel) (by decide +kernel) ?_
  refine x_heap (h' := stt h a (.inr (8, [.ref (32 + (h.length + 0)), .ref (32 + (h.length + 1)), .null, .null, .null, .int 0, .int 0, .int 0])) ++ [some (.inl (0, 256, .inl (fun _ => 0))), some (.inl (0, 256, .inl (fun _ => 0))), some (.inl (0, 256, .inl (fun _ => 0)))]) (by rw [List.append_assoc]; rfl) ?_
  refine x_put (M := M_X5_init) (ci := 8) (C := RX5) (T := TX5) (N := 8) (ty := tyX5) cl8 dX5_init_22 (ob_app _ (ob_self ha)) 2 (by decide) t_242 (Or.inr ⟨rfl, rfl⟩) (Nat.le_of_ble_eq_true rfl) rfl ?_
  refine x_heap (h' := stt h a (.inr (8, [.ref (32 + (h.length + 0)), .ref (32 + (h.length + 1)), .ref (32 + (h.length + 2)), .null, .null, .int 0, .int 0, .int 0])) ++ [some (.inl (0, 256, .inl (fun _ => 0))), some (.inl (0, 256, .inl (fun _ => 0))), some (.inl (0, 256, .inl (fun _ => 0)))]) (by rw [stt_mid ha, len_mid]; rfl) ?_
  refine x_aload_n (M := M_X5_init) dX5_init_25 rfl ?_
  refine x_iload_n (M := M_X5_init) dX5_init_26 rfl ?_
  refine x_newI (M := M_X5_init) (n := 256) dX5_init_27 t_97 hx0 hx1 (by decide +kernel) (by decide +kernel) (by decide +kernel) ?_
  refine x_heap (h' := stt h a (.inr (8, [.ref (32 + (h.length + 0)), .ref (32 + (h.length + 1)), .ref (32 + (h.length + 2)), .null, .null, .int 0, .int 0, .int 0])) ++ [some (.inl (0, 256, .inl (fun _ => 0))), some (.inl (0, 256, .inl (fun _ => 0))), some (.inl (0, 256, .inl (fun _ => 0))), some (.inl (0, 256, .inl (fun _ => 0)))]) (by rw [List.append_assoc]; rfl) ?_
  refine x_put (M := M_X5_init) (ci := 8) (C := RX5) (T := TX5) (N := 8) (ty := tyX5) cl8 dX5_init_29 (ob_app _ (ob_self ha)) 3 (by decide) t_246 (Or.inr ⟨rfl, rfl⟩) (Nat.le_of_ble_eq_true rfl) rfl ?_
  refine x_heap (h' := stt h a (.inr (8, [.ref (32 + (h.length + 0)), .ref (32 + (h.length + 1)), .ref (32 + (h.length + 2)), .ref (32 + (h.length + 3)), .null, .int 0, .int 0, .int 0])) ++ [some (.inl (0, 256, .inl (fun _ => 0))), some (.inl (0, 256, .inl (fun _ => 0))), some (.inl (0, 256, .inl (fun _ => 0))), some (.inl (0, 256, .inl (fun _ => 0)))]) (by rw [stt_mid ha, len_mid]; rfl) ?_
  refine x_aload_n (M := M_X5_init) dX5_init_32 rfl ?_
  refine x_iload_n (M := M_X5_init) dX5_init_33 rfl ?_
  refine x_newI (M := M_X5_init) (n := 256) dX5_init_34 t_97 hx0 hx1 (by decide +kernel) (by decide +kernel) (by decide +kernel) ?_
  refine x_heap (h' := stt h a (.inr (8, [.ref (32 + (h.length + 0)), .ref (32 + (h.length + 1)), .ref (32 + (h.length + 2)), .ref (32 + (h.length + 3)), .null, .int 0, .int 0, .int 0])) ++ [some (.inl (0, 256, .inl (fun _ => 0))), some (.inl (0, 256, .inl (fun _ => 0))), some (.inl (0, 256, .inl (fun _ => 0))), some (.inl (0, 256, .inl (fun _ => 0))), some (.inl (0, 256, .inl (fun _ => 0)))]) (by rw [List.append_assoc]; rfl) ?_
  refine x_put (M := M_X5_init) (ci := 8) (C := RX5) (T := TX5) (N := 8) (ty := tyX5) cl8 dX5_init_36 (ob_app _ (ob_self ha)) 4 (by decide) t_250 (Or.inr ⟨rfl, rfl⟩) (Nat.le_of_ble_eq_true rfl) rfl ?_
  refine x_heap (h' := stt h a (.inr (8, [.ref (32 + (h.length + 0)), .ref (32 + (h.length + 1)), .ref (32 + (h.length + 2)), .ref (32 + (h.length + 3)), .ref (32 + (h.length + 4)), .int 0, .int 0, .int 0])) ++ [some (.inl (0, 256, .inl (fun _ => 0))), some (.inl (0, 256, .inl (fun _ => 0))), some (.inl (0, 256, .inl (fun _ => 0))), some (.inl (0, 256, .inl (fun _ => 0))), some (.inl (0, 256, .inl (fun _ => 0)))]) (by rw [stt_mid ha, len_mid]; rfl) ?_
  exact x_vret (M := M_X5_init) dX5_init_39 rfl ⟨rfl, rfl⟩ (Nat.le_of_ble_eq_true rfl) (Nat.le_of_ble_eq_true rfl)

set_option maxRecDepth 20000 in
set_option maxHeartbeats 4000000 in
theorem c_X9_init {l : Launch} {E : EE} (hl : l.stackTraces = false) {h : HP} {a : Nat} (ha : ob h a = some (.inr (12, [.int 0, .null, .null, .null, .null, .int 0, .int 0, .int 0, .int 0, .int 0, .int 0, .int 0]))) {dg : Int32} {ta sh : Nat} : en_C l E M_X9_init 1 2 128 [.ref a, .int dg, .ref ta, .ref sh] h (pR none (stt h a (.inr (12, [.int dg, .ref ta, .ref (32 + (h.length + 0)), .ref (32 + (h.length + 1)), .ref sh, .int 0, .int 0, .int 0, .int 0, .int 0, .int 0, .int 0])) ++ [some (.inl (0, 64, .inl (fun _ => 0))), some (.inl (0, 64, .inl (fun _ => 0)))])) := by
  refine en_mk m_X9_init rfl hl (Nat.le_of_ble_eq_true rfl) ?_
  refine x_heap (h' := stt h a (.inr (12, [.int 0, .null, .null, .null, .null, .int 0, .int 0, .int 0, .int 0, .int 0, .int 0, .int 0])) ++ []) (by rw [List.append_nil]; exact (stt_id ha).symm) ?_
  refine x_aload_n (M := M_X9_init) dX9_init_0 rfl ?_
  refine x_objInit (M := M_X9_init) dX9_init_1 t_104 t_41 t_42 (Nat.le_of_ble_eq_true rfl) (Nat.le_of_ble_eq_true rfl) ?_
  refine x_aload_n (M := M_X9_init) dX9_init_4 rfl ?_
  refine x_bipush (M := M_X9_init) dX9_init_5 ?_
  refine x_newI (M := M_X9_init) (n := 64) dX9_init_7 t_97 (by decide +kernel) (by decide +kernel) (by decide +kernel) (by decide +kernel) (by decide +kernel) ?_
  refine x_heap (h' := stt h a (.inr (12, [.int 0, .null, .null, .null, .null, .int 0, .int 0, .int 0, .int 0, .int 0, .int 0, .int 0])) ++ [some (.inl (0, 64, .inl (fun _ => 0)))]) (by rw [List.append_assoc]; rfl) ?_
  refine x_put (M := M_X9_init) (ci := 12) (C := RX9) (T := TX9) (N := 12) (ty := tyX9) cl12 dX9_init_9 (ob_app _ (ob_self ha)) 2 (by decide) t_107 (Or.inr ⟨rfl, rfl⟩) (Nat.le_of_ble_eq_true rfl) rfl ?_
  refine x_heap (h' := stt h a (.inr (12, [.int 0, .null, .ref (32 + (h.length + 0)), .null, .null, .int 0, .int 0, .int 0, .int 0, .int 0, .int 0, .int 0])) ++ [some (.inl (0, 64, .inl (fun _ => 0)))]) (by rw [stt_mid ha, len_mid]; rfl) ?_
  refine x_aload_n (M := M_X9_init) dX9_init_12 rfl ?_
  refine x_bipush (M := M_X9_init) dX9_init_13 ?_
  refine x_newI (M := M_X9_init) (n := 64) dX9_init_15 t_97 (by decide +kernel) (by decide +kernel) (by decide +kernel) (by decide +kernel) (by decide +kernel) ?_
  refine x_heap (h' := stt h a (.inr (12, [.int 0, .null, .ref (32 + (h.length + 0)), .null, .null, .int 0, .int 0, .int 0, .int 0, .int 0, .int 0, .int 0])) ++ [some (.inl (0, 64, .inl (fun _ => 0))), some (.inl (0, 64, .inl (fun _ => 0)))]) (by rw [List.append_assoc]; rfl) ?_
  refine x_put (M := M_X9_init) (ci := 12) (C := RX9) (T := TX9) (N := 12) (ty := tyX9) cl12 dX9_init_17 (ob_app _ (ob_self ha)) 3 (by decide) t_108 (Or.inr ⟨rfl, rfl⟩) (Nat.le_of_ble_eq_true rfl) rfl ?_
  refine x_heap (h' := stt h a (.inr (12, [.int 0, .null, .ref (32 + (h.length + 0)), .ref (32 + (h.length + 1)), .null, .int 0, .int 0, .int 0, .int 0, .int 0, .int 0, .int 0])) ++ [some (.inl (0, 64, .inl (fun _ => 0))), some (.inl (0, 64, .inl (fun _ => 0)))]) (by rw [stt_mid ha, len_mid]; rfl) ?_
  refine x_aload_n (M := M_X9_init) dX9_init_20 rfl ?_
  refine x_iload_n (M := M_X9_init) dX9_init_21 rfl ?_
  refine x_put (M := M_X9_init) (ci := 12) (C := RX9) (T := TX9) (N := 12) (ty := tyX9) cl12 dX9_init_22 (ob_app _ (ob_self ha)) 0 (by decide) t_105 (Or.inr ⟨rfl, rfl⟩) (Nat.le_of_ble_eq_true rfl) rfl ?_
  refine x_heap (h' := stt h a (.inr (12, [.int dg, .null, .ref (32 + (h.length + 0)), .ref (32 + (h.length + 1)), .null, .int 0, .int 0, .int 0, .int 0, .int 0, .int 0, .int 0])) ++ [some (.inl (0, 64, .inl (fun _ => 0))), some (.inl (0, 64, .inl (fun _ => 0)))]) (by rw [stt_mid ha]; rfl) ?_
  refine x_aload_n (M := M_X9_init) dX9_init_25 rfl ?_
  refine x_aload_n (M := M_X9_init) dX9_init_26 rfl ?_
  refine x_put (M := M_X9_init) (ci := 12) (C := RX9) (T := TX9) (N := 12) (ty := tyX9) cl12 dX9_init_27 (ob_app _ (ob_self ha)) 1 (by decide) t_106 (Or.inr ⟨rfl, rfl⟩) (Nat.le_of_ble_eq_true rfl) rfl ?_
  refine x_heap (h' := stt h a (.inr (12, [.int dg, .ref ta, .ref (32 + (h.length + 0)), .ref (32 + (h.length + 1)), .null, .int 0, .int 0, .int 0, .int 0, .int 0, .int 0, .int 0])) ++ [some (.inl (0, 64, .inl (fun _ => 0))), some (.inl (0, 64, .inl (fun _ => 0)))]) (by rw [stt_mid ha]; rfl) ?_
  refine x_aload_n (M := M_X9_init) dX9_init_30 rfl ?_
  refine x_aload_n (M := M_X9_init) dX9_init_31 rfl ?_
  refine x_put (M := M_X9_init) (ci := 12) (C := RX9) (T := TX9) (N := 12) (ty := tyX9) cl12 dX9_init_32 (ob_app _ (ob_self ha)) 4 (by decide) t_109 (Or.inl rfl) (Nat.le_of_ble_eq_true rfl) rfl ?_
  refine x_heap (h' := stt h a (.inr (12, [.int dg, .ref ta, .ref (32 + (h.length + 0)), .ref (32 + (h.length + 1)), .ref sh, .int 0, .int 0, .int 0, .int 0, .int 0, .int 0, .int 0])) ++ [some (.inl (0, 64, .inl (fun _ => 0))), some (.inl (0, 64, .inl (fun _ => 0)))]) (by rw [stt_mid ha]; rfl) ?_
  exact x_vret (M := M_X9_init) dX9_init_35 rfl ⟨rfl, rfl⟩ (Nat.le_of_ble_eq_true rfl) (Nat.le_of_ble_eq_true rfl)

set_option maxRecDepth 20000 in
set_option maxHeartbeats 4000000 in
theorem c_X0_init {l : Launch} {E : EE} (hl : l.stackTraces = false) {h : HP} {a : Nat} (ha : ob h a = some (.inr (3, [.int 0, .null, .null, .null, .null, .int 0, .int 0, .int 0, .int 0, .int 0, .int 0, .int 0, .int 0]))) {dg : Int32} {ta sh : Nat} : en_C l E M_X0_init 1 2 128 [.ref a, .int dg, .ref ta, .ref sh] h (pR none (stt h a (.inr (3, [.int dg, .ref ta, .ref (32 + (h.length + 0)), .ref (32 + (h.length + 1)), .ref sh, .int 0, .int 0, .int 0, .int 0, .int 0, .int 0, .int 0, .int 0])) ++ [some (.inl (1, 64, .inr (.inl (fun _ => 0)))), some (.inl (0, 64, .inl (fun _ => 0)))])) := by
  refine en_mk m_X0_init rfl hl (Nat.le_of_ble_eq_true rfl) ?_
  refine x_heap (h' := stt h a (.inr (3, [.int 0, .null, .null, .null, .null, .int 0, .int 0, .int 0, .int 0, .int 0, .int 0, .int 0, .int 0])) ++ []) (by rw [List.append_nil]; exact (stt_id ha).symm) ?_
  refine x_aload_n (M := M_X0_init) dX0_init_0 rfl ?_
  refine x_objInit (M := M_X0_init) dX0_init_1 t_150 t_41 t_42 (Nat.le_of_ble_eq_true rfl) (Nat.le_of_ble_eq_true rfl) ?_
  refine x_aload_n (M := M_X0_init) dX0_init_4 rfl ?_
  refine x_bipush (M := M_X0_init) dX0_init_5 ?_
  refine x_newJ (M := M_X0_init) (n := 64) dX0_init_7 t_193 (by decide +kernel) (by decide +kernel) (by decide +kernel) (by decide +kernel) (by decide +kernel) ?_
  refine x_heap (h' := stt h a (.inr (3, [.int 0, .null, .null, .null, .null, .int 0, .int 0, .int 0, .int 0, .int 0, .int 0, .int 0, .int 0])) ++ [some (.inl (1, 64, .inr (.inl (fun _ => 0))))]) (by rw [List.append_assoc]; rfl) ?_
  refine x_put (M := M_X0_init) (ci := 3) (C := RX0) (T := TX0) (N := 13) (ty := tyX0) cl3 dX0_init_9 (ob_app _ (ob_self ha)) 2 (by decide) t_153 (Or.inr ⟨rfl, rfl⟩) (Nat.le_of_ble_eq_true rfl) rfl ?_
  refine x_heap (h' := stt h a (.inr (3, [.int 0, .null, .ref (32 + (h.length + 0)), .null, .null, .int 0, .int 0, .int 0, .int 0, .int 0, .int 0, .int 0, .int 0])) ++ [some (.inl (1, 64, .inr (.inl (fun _ => 0))))]) (by rw [stt_mid ha, len_mid]; rfl) ?_
  refine x_aload_n (M := M_X0_init) dX0_init_12 rfl ?_
  refine x_bipush (M := M_X0_init) dX0_init_13 ?_
  refine x_newI (M := M_X0_init) (n := 64) dX0_init_15 t_97 (by decide +kernel) (by decide +kernel) (by decide +kernel) (by decide +kernel) (by decide +kernel) ?_
  refine x_heap (h' := stt h a (.inr (3, [.int 0, .null, .ref (32 + (h.length + 0)), .null, .null, .int 0, .int 0, .int 0, .int 0, .int 0, .int 0, .int 0, .int 0])) ++ [some (.inl (1, 64, .inr (.inl (fun _ => 0)))), some (.inl (0, 64, .inl (fun _ => 0)))]) (by rw [List.append_assoc]; rfl) ?_
  refine x_put (M := M_X0_init) (ci := 3) (C := RX0) (T := TX0) (N := 13) (ty := tyX0) cl3 dX0_init_17 (ob_app _ (ob_self ha)) 3 (by decide) t_154 (Or.inr ⟨rfl, rfl⟩) (Nat.le_of_ble_eq_true rfl) rfl ?_
  refine x_heap (h' := stt h a (.inr (3, [.int 0, .null, .ref (32 + (h.length + 0)), .ref (32 + (h.length + 1)), .null, .int 0, .int 0, .int 0, .int 0, .int 0, .int 0, .int 0, .int 0])) ++ [some (.inl (1, 64, .inr (.inl (fun _ => 0)))), some (.inl (0, 64, .inl (fun _ => 0)))]) (by rw [stt_mid ha, len_mid]; rfl) ?_
  refine x_aload_n (M := M_X0_init) dX0_init_20 rfl ?_
  refine x_iload_n (M := M_X0_init) dX0_init_21 rfl ?_
  refine x_put (M := M_X0_init) (ci := 3) (C := RX0) (T := TX0) (N := 13) (ty := tyX0) cl3 dX0_init_22 (ob_app _ (ob_self ha)) 0 (by decide) t_151 (Or.inr ⟨rfl, rfl⟩) (Nat.le_of_ble_eq_true rfl) rfl ?_
  refine x_heap (h' := stt h a (.inr (3, [.int dg, .null, .ref (32 + (h.length + 0)), .ref (32 + (h.length + 1)), .null, .int 0, .int 0, .int 0, .int 0, .int 0, .int 0, .int 0, .int 0])) ++ [some (.inl (1, 64, .inr (.inl (fun _ => 0)))), some (.inl (0, 64, .inl (fun _ => 0)))]) (by rw [stt_mid ha]; rfl) ?_
  refine x_aload_n (M := M_X0_init) dX0_init_25 rfl ?_
  refine x_aload_n (M := M_X0_init) dX0_init_26 rfl ?_
  refine x_put (M := M_X0_init) (ci := 3) (C := RX0) (T := TX0) (N := 13) (ty := tyX0) cl3 dX0_init_27 (ob_app _ (ob_self ha)) 1 (by decide) t_152 (Or.inr ⟨rfl, rfl⟩) (Nat.le_of_ble_eq_true rfl) rfl ?_
  refine x_heap (h' := stt h a (.inr (3, [.int dg, .ref ta, .ref (32 + (h.length + 0)), .ref (32 + (h.length + 1)), .null, .int 0, .int 0, .int 0, .int 0, .int 0, .int 0, .int 0, .int 0])) ++ [some (.inl (1, 64, .inr (.inl (fun _ => 0)))), some (.inl (0, 64, .inl (fun _ => 0)))]) (by rw [stt_mid ha]; rfl) ?_
  refine x_aload_n (M := M_X0_init) dX0_init_30 rfl ?_
  refine x_aload_n (M := M_X0_init) dX0_init_31 rfl ?_
  refine x_put (M := M_X0_init) (ci := 3) (C := RX0) (T := TX0) (N := 13) (ty := tyX0) cl3 dX0_init_32 (ob_app _ (ob_self ha)) 4 (by decide) t_155 (Or.inl rfl) (Nat.le_of_ble_eq_true rfl) rfl ?_
  refine x_heap (h' := stt h a (.inr (3, [.int dg, .ref ta, .ref (32 + (h.length + 0)), .ref (32 + (h.length + 1)), .ref sh, .int 0, .int 0, .int 0, .int 0, .int 0, .int 0, .int 0, .int 0])) ++ [some (.inl (1, 64, .inr (.inl (fun _ => 0)))), some (.inl (0, 64, .inl (fun _ => 0)))]) (by rw [stt_mid ha]; rfl) ?_
  exact x_vret (M := M_X0_init) dX0_init_35 rfl ⟨rfl, rfl⟩ (Nat.le_of_ble_eq_true rfl) (Nat.le_of_ble_eq_true rfl)

set_option maxRecDepth 20000 in
set_option maxHeartbeats 4000000 in
theorem c_X10_init {l : Launch} {E : EE} (hl : l.stackTraces = false) {h : HP} {a : Nat} (ha : ob h a = some (.inr (13, [.int 0, .null, .null, .int 0, .null, .int 0]))) {dg : Int32} : en_C l E M_X10_init 1 3 80128 [.ref a, .int dg] h (pR none (stt h a (.inr (13, [.int dg, .ref (32 + (h.length + 0)), .ref (32 + (h.length + 1)), .int 0, .ref (32 + (h.length + 2)), .int 0])) ++ [some (.inl (0, 64, .inl (fun _ => 0))), some (.inl (0, 64, .inl (fun _ => 0))), some (.inl (2, 80000, .inl (fun _ => 0)))])) := by
  refine en_mk m_X10_init rfl hl (Nat.le_of_ble_eq_true rfl) ?_
  refine x_heap (h' := stt h a (.inr (13, [.int 0, .null, .null, .int 0, .null, .int 0])) ++ []) (by rw [List.append_nil]; exact (stt_id ha).symm) ?_
  refine x_aload_n (M := M_X10_init) dX10_init_0 rfl ?_
  refine x_objInit (M := M_X10_init) dX10_init_1 t_199 t_41 t_42 (Nat.le_of_ble_eq_true rfl) (Nat.le_of_ble_eq_true rfl) ?_
  refine x_aload_n (M := M_X10_init) dX10_init_4 rfl ?_
  refine x_bipush (M := M_X10_init) dX10_init_5 ?_
  refine x_newI (M := M_X10_init) (n := 64) dX10_init_7 t_97 (by decide +kernel) (by decide +kernel) (by decide +kernel) (by decide +kernel) (by decide +kernel) ?_
  refine x_heap (h' := stt h a (.inr (13, [.int 0, .null, .null, .int 0, .null, .int 0])) ++ [some (.inl (0, 64, .inl (fun _ => 0)))]) (by rw [List.append_assoc]; rfl) ?_
  refine x_put (M := M_X10_init) (ci := 13) (C := RX10) (T := TX10) (N := 6) (ty := tyX10) cl13 dX10_init_9 (ob_app _ (ob_self ha)) 1 (by decide) t_202 (Or.inr ⟨rfl, rfl⟩) (Nat.le_of_ble_eq_true rfl) rfl ?_
  refine x_heap (h' := stt h a (.inr (13, [.int 0, .ref (32 + (h.length + 0)), .null, .int 0, .null, .int 0])) ++ [some (.inl (0, 64, .inl (fun _ => 0)))]) (by rw [stt_mid ha, len_mid]; rfl) ?_
  refine x_aload_n (M := M_X10_init) dX10_init_12 rfl ?_
  refine x_bipush (M := M_X10_init) dX10_init_13 ?_
  refine x_newI (M := M_X10_init) (n := 64) dX10_init_15 t_97 (by decide +kernel) (by decide +kernel) (by decide +kernel) (by decide +kernel) (by decide +kernel) ?_
  refine x_heap (h' := stt h a (.inr (13, [.int 0, .ref (32 + (h.length + 0)), .null, .int 0, .null, .int 0])) ++ [some (.inl (0, 64, .inl (fun _ => 0))), some (.inl (0, 64, .inl (fun _ => 0)))]) (by rw [List.append_assoc]; rfl) ?_
  refine x_put (M := M_X10_init) (ci := 13) (C := RX10) (T := TX10) (N := 6) (ty := tyX10) cl13 dX10_init_17 (ob_app _ (ob_self ha)) 2 (by decide) t_203 (Or.inr ⟨rfl, rfl⟩) (Nat.le_of_ble_eq_true rfl) rfl ?_
  refine x_heap (h' := stt h a (.inr (13, [.int 0, .ref (32 + (h.length + 0)), .ref (32 + (h.length + 1)), .int 0, .null, .int 0])) ++ [some (.inl (0, 64, .inl (fun _ => 0))), some (.inl (0, 64, .inl (fun _ => 0)))]) (by rw [stt_mid ha, len_mid]; rfl) ?_
  refine x_aload_n (M := M_X10_init) dX10_init_20 rfl ?_
  refine x_ldc (M := M_X10_init) dX10_init_21 t_200 ?_
  refine x_newB (M := M_X10_init) (n := 80000) dX10_init_23 t_144 (by decide +kernel) (by decide +kernel) (by decide +kernel) (by decide +kernel) (by decide +kernel) ?_
  refine x_heap (h' := stt h a (.inr (13, [.int 0, .ref (32 + (h.length + 0)), .ref (32 + (h.length + 1)), .int 0, .null, .int 0])) ++ [some (.inl (0, 64, .inl (fun _ => 0))), some (.inl (0, 64, .inl (fun _ => 0))), some (.inl (2, 80000, .inl (fun _ => 0)))]) (by rw [List.append_assoc]; rfl) ?_
  refine x_put (M := M_X10_init) (ci := 13) (C := RX10) (T := TX10) (N := 6) (ty := tyX10) cl13 dX10_init_25 (ob_app _ (ob_self ha)) 4 (by decide) t_205 (Or.inr ⟨rfl, rfl⟩) (Nat.le_of_ble_eq_true rfl) rfl ?_
  refine x_heap (h' := stt h a (.inr (13, [.int 0, .ref (32 + (h.length + 0)), .ref (32 + (h.length + 1)), .int 0, .ref (32 + (h.length + 2)), .int 0])) ++ [some (.inl (0, 64, .inl (fun _ => 0))), some (.inl (0, 64, .inl (fun _ => 0))), some (.inl (2, 80000, .inl (fun _ => 0)))]) (by rw [stt_mid ha, len_mid]; rfl) ?_
  refine x_aload_n (M := M_X10_init) dX10_init_28 rfl ?_
  refine x_iload_n (M := M_X10_init) dX10_init_29 rfl ?_
  refine x_put (M := M_X10_init) (ci := 13) (C := RX10) (T := TX10) (N := 6) (ty := tyX10) cl13 dX10_init_30 (ob_app _ (ob_self ha)) 0 (by decide) t_201 (Or.inr ⟨rfl, rfl⟩) (Nat.le_of_ble_eq_true rfl) rfl ?_
  refine x_heap (h' := stt h a (.inr (13, [.int dg, .ref (32 + (h.length + 0)), .ref (32 + (h.length + 1)), .int 0, .ref (32 + (h.length + 2)), .int 0])) ++ [some (.inl (0, 64, .inl (fun _ => 0))), some (.inl (0, 64, .inl (fun _ => 0))), some (.inl (2, 80000, .inl (fun _ => 0)))]) (by rw [stt_mid ha]; rfl) ?_
  exact x_vret (M := M_X10_init) dX10_init_33 rfl ⟨rfl, rfl⟩ (Nat.le_of_ble_eq_true rfl) (Nat.le_of_ble_eq_true rfl)

