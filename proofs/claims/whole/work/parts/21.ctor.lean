theorem dX6_init_0 : decode cX6_init 0 = .ok (.aload_n 0, 1) := by decide +kernel
theorem dX6_init_1 : decode cX6_init 1 = .ok (.invokespecial 3, 3) := by decide +kernel
theorem dX6_init_4 : decode cX6_init 4 = .ok (.aload_n 0, 1) := by decide +kernel
theorem dX6_init_5 : decode cX6_init 5 = .ok (.sipush 2048, 3) := by decide +kernel
theorem dX6_init_8 : decode cX6_init 8 = .ok (.newarray .int, 2) := by decide +kernel
theorem dX6_init_10 : decode cX6_init 10 = .ok (.putfield 11, 3) := by decide +kernel
theorem dX6_init_13 : decode cX6_init 13 = .ok (.aload_n 0, 1) := by decide +kernel
theorem dX6_init_14 : decode cX6_init 14 = .ok (.sipush 2048, 3) := by decide +kernel
theorem dX6_init_17 : decode cX6_init 17 = .ok (.newarray .int, 2) := by decide +kernel
theorem dX6_init_19 : decode cX6_init 19 = .ok (.putfield 15, 3) := by decide +kernel
theorem dX6_init_22 : decode cX6_init 22 = .ok (.aload_n 0, 1) := by decide +kernel
theorem dX6_init_23 : decode cX6_init 23 = .ok (.sipush 2048, 3) := by decide +kernel
theorem dX6_init_26 : decode cX6_init 26 = .ok (.newarray .int, 2) := by decide +kernel
theorem dX6_init_28 : decode cX6_init 28 = .ok (.putfield 18, 3) := by decide +kernel
theorem dX6_init_31 : decode cX6_init 31 = .ok (.return_, 1) := by decide +kernel
abbrev M_X6_init : MRec := (yX6_init, cX6_init, 1, none, [])
theorem m_X6_init : en_M M_X6_init 0 := ⟨t_48, t_2, ⟨by decide +kernel, by decide +kernel⟩, by decide +kernel, by decide +kernel, by decide +kernel⟩
theorem dX5_init_0 : decode cX5_init 0 = .ok (.aload_n 0, 1) := by decide +kernel
theorem dX5_init_1 : decode cX5_init 1 = .ok (.invokespecial 1, 3) := by decide +kernel
theorem dX5_init_4 : decode cX5_init 4 = .ok (.aload_n 0, 1) := by decide +kernel
theorem dX5_init_5 : decode cX5_init 5 = .ok (.iload_n 1, 1) := by decide +kernel
theorem dX5_init_6 : decode cX5_init 6 = .ok (.newarray .int, 2) := by decide +kernel
theorem dX5_init_8 : decode cX5_init 8 = .ok (.putfield 7, 3) := by decide +kernel
theorem dX5_init_11 : decode cX5_init 11 = .ok (.aload_n 0, 1) := by decide +kernel
theorem dX5_init_12 : decode cX5_init 12 = .ok (.iload_n 1, 1) := by decide +kernel
theorem dX5_init_13 : decode cX5_init 13 = .ok (.newarray .int, 2) := by decide +kernel
theorem dX5_init_15 : decode cX5_init 15 = .ok (.putfield 13, 3) := by decide +kernel
theorem dX5_init_18 : decode cX5_init 18 = .ok (.aload_n 0, 1) := by decide +kernel
theorem dX5_init_19 : decode cX5_init 19 = .ok (.iload_n 1, 1) := by decide +kernel
theorem dX5_init_20 : decode cX5_init 20 = .ok (.newarray .int, 2) := by decide +kernel
theorem dX5_init_22 : decode cX5_init 22 = .ok (.putfield 16, 3) := by decide +kernel
theorem dX5_init_25 : decode cX5_init 25 = .ok (.aload_n 0, 1) := by decide +kernel
theorem dX5_init_26 : decode cX5_init 26 = .ok (.iload_n 1, 1) := by decide +kernel
theorem dX5_init_27 : decode cX5_init 27 = .ok (.newarray .int, 2) := by decide +kernel
theorem dX5_init_29 : decode cX5_init 29 = .ok (.putfield 19, 3) := by decide +kernel
theorem dX5_init_32 : decode cX5_init 32 = .ok (.aload_n 0, 1) := by decide +kernel
theorem dX5_init_33 : decode cX5_init 33 = .ok (.iload_n 1, 1) := by decide +kernel
theorem dX5_init_34 : decode cX5_init 34 = .ok (.newarray .int, 2) := by decide +kernel
theorem dX5_init_36 : decode cX5_init 36 = .ok (.putfield 22, 3) := by decide +kernel
theorem dX5_init_39 : decode cX5_init 39 = .ok (.return_, 1) := by decide +kernel
abbrev M_X5_init : MRec := (yX5_init, cX5_init, 2, none, [])
theorem m_X5_init : en_M M_X5_init 1 := ⟨t_232, t_7, ⟨by decide +kernel, by decide +kernel⟩, by decide +kernel, by decide +kernel, by decide +kernel⟩
set_option maxRecDepth 20000 in
set_option maxHeartbeats 4000000 in
theorem c_X6_init {l : Launch} {E : EE} (hl : l.stackTraces = false) {h : HP} {a : Nat} (ha : ob h a = some (.inr (9, [.null, .null, .null, .int 0, .int 0])))  : en_C l E M_X6_init 1 3 6144 [.ref a] h (pR none (stt h a (.inr (9, [.ref (32 + (h.length + 0)), .ref (32 + (h.length + 1)), .ref (32 + (h.length + 2)), .int 0, .int 0])) ++ [some (.inl (0, 2048, .inl (fun _ => 0))), some (.inl (0, 2048, .inl (fun _ => 0))), some (.inl (0, 2048, .inl (fun _ => 0)))])) := by
  refine en_mk m_X6_init rfl hl (Nat.le_of_ble_eq_true rfl) ?_
  refine x_heap (h' := stt h a (.inr (9, [.null, .null, .null, .int 0, .int 0])) ++ []) (by rw [List.append_nil]; exact (stt_id ha).symm) ?_
  refine x_aload_n (M := M_X6_init) dX6_init_0 rfl ?_
  refine x_objInit (M := M_X6_init) dX6_init_1 t_49 t_41 t_42 (Nat.le_of_ble_eq_true rfl) (Nat.le_of_ble_eq_true rfl) ?_
  refine x_aload_n (M := M_X6_init) dX6_init_4 rfl ?_
  refine x_sipush (M := M_X6_init) dX6_init_5 ?_
  refine x_newI (M := M_X6_init) (n := 2048) dX6_init_8 t_97 (by decide +kernel) (by decide +kernel) (by decide +kernel) (by decide +kernel) (by decide +kernel) ?_
  refine x_heap (h' := stt h a (.inr (9, [.null, .null, .null, .int 0, .int 0])) ++ [some (.inl (0, 2048, .inl (fun _ => 0)))]) (by rw [List.append_assoc]; rfl) ?_
  refine x_put (M := M_X6_init) (ci := 9) (C := RX6) (T := TX6) (N := 5) (ty := tyX6) cl9 dX6_init_10 (ob_app _ (ob_self ha)) 0 (by decide) t_50 (Or.inr ⟨rfl, rfl⟩) (Nat.le_of_ble_eq_true rfl) rfl ?_
  refine x_heap (h' := stt h a (.inr (9, [.ref (32 + (h.length + 0)), .null, .null, .int 0, .int 0])) ++ [some (.inl (0, 2048, .inl (fun _ => 0)))]) (by rw [stt_mid ha, len_mid]; rfl) ?_
  refine x_aload_n (M := M_X6_init) dX6_init_13 rfl ?_
  refine x_sipush (M := M_X6_init) dX6_init_14 ?_
  refine x_newI (M := M_X6_init) (n := 2048) dX6_init_17 t_97 (by decide +kernel) (by decide +kernel) (by decide +kernel) (by decide +kernel) (by decide +kernel) ?_
  refine x_heap (h' := stt h a (.inr (9, [.ref (32 + (h.length + 0)), .null, .null, .int 0, .int 0])) ++ [some (.inl (0, 2048, .inl (fun _ => 0))), some (.inl (0, 2048, .inl (fun _ => 0)))]) (by rw [List.append_assoc]; rfl) ?_
  refine x_put (M := M_X6_init) (ci := 9) (C := RX6) (T := TX6) (N := 5) (ty := tyX6) cl9 dX6_init_19 (ob_app _ (ob_self ha)) 1 (by decide) t_58 (Or.inr ⟨rfl, rfl⟩) (Nat.le_of_ble_eq_true rfl) rfl ?_
  refine x_heap (h' := stt h a (.inr (9, [.ref (32 + (h.length + 0)), .ref (32 + (h.length + 1)), .null, .int 0, .int 0])) ++ [some (.inl (0, 2048, .inl (fun _ => 0))), some (.inl (0, 2048, .inl (fun _ => 0)))]) (by rw [stt_mid ha, len_mid]; rfl) ?_
  refine x_aload_n (M := M_X6_init) dX6_init_22 rfl ?_
  refine x_sipush (M := M_X6_init) dX6_init_23 ?_
  refine x_newI (M := M_X6_init) (n := 2048) dX6_init_26 t_97 (by decide +kernel) (by decide +kernel) (by decide +kernel) (by decide +kernel) (by decide +kernel) ?_
  refine x_heap (h' := stt h a (.inr (9, [.ref (32 + (h.length + 0)), .ref (32 + (h.length + 1)), .null, .int 0, .int 0])) ++ [some (.inl (0, 2048, .inl (fun _ => 0))), some (.inl (0, 2048, .inl (fun _ => 0))), some (.inl (0, 2048, .inl (fun _ => 0)))]) (by rw [List.append_assoc]; rfl) ?_
  refine x_put (M := M_X6_init) (ci := 9) (C := RX6) (T := TX6) (N := 5) (ty := tyX6) cl9 dX6_init_28 (ob_app _ (ob_self ha)) 2 (by decide) t_65 (Or.inr ⟨rfl, rfl⟩) (Nat.le_of_ble_eq_true rfl) rfl ?_
  refine x_heap (h' := stt h a (.inr (9, [.ref (32 + (h.length + 0)), .ref (32 + (h.length + 1)), .ref (32 + (h.length + 2)), .int 0, .int 0])) ++ [some (.inl (0, 2048, .inl (fun _ => 0))), some (.inl (0, 2048, .inl (fun _ => 0))), some (.inl (0, 2048, .inl (fun _ => 0)))]) (by rw [stt_mid ha, len_mid]; rfl) ?_
  exact x_vret (M := M_X6_init) dX6_init_31 rfl ⟨rfl, rfl⟩ (Nat.le_of_ble_eq_true rfl) (Nat.le_of_ble_eq_true rfl)

set_option maxRecDepth 20000 in
set_option maxHeartbeats 4000000 in
theorem c_X5_init_2048 {l : Launch} {E : EE} (hl : l.stackTraces = false) {h : HP} {a : Nat} (ha : ob h a = some (.inr (8, [.null, .null, .null, .null, .null, .int 0, .int 0, .int 0]))) {x : Int32} (hx0 : ¬ x < 0) (hx1 : x.toNatClampNeg = 2048) : en_C l E M_X5_init 1 5 10240 [.ref a, .int x] h (pR none (stt h a (.inr (8, [.ref (32 + (h.length + 0)), .ref (32 + (h.length + 1)), .ref (32 + (h.length + 2)), .ref (32 + (h.length + 3)), .ref (32 + (h.length + 4)), .int 0, .int 0, .int 0])) ++ [some (.inl (0, 2048, .inl (fun _ => 0))), some (.inl (0, 2048, .inl (fun _ => 0))), some (.inl (0, 2048, .inl (fun _ => 0))), some (.inl (0, 2048, .inl (fun _ => 0))), some (.inl (0, 2048, .inl (fun _ => 0)))])) := by
  refine en_mk m_X5_init rfl hl (Nat.le_of_ble_eq_true rfl) ?_
  refine x_heap (h' := stt h a (.inr (8, [.null, .null, .null, .null, .null, .int 0, .int 0, .int 0])) ++ []) (by rw [List.append_nil]; exact (stt_id ha).symm) ?_
  refine x_aload_n (M := M_X5_init) dX5_init_0 rfl ?_
  refine x_objInit (M := M_X5_init) dX5_init_1 t_233 t_41 t_42 (Nat.le_of_ble_eq_true rfl) (Nat.le_of_ble_eq_true rfl) ?_
  refine x_aload_n (M := M_X5_init) dX5_init_4 rfl ?_
  refine x_iload_n (M := M_X5_init) dX5_init_5 rfl ?_
  refine x_newI (M := M_X5_init) (n := 2048) dX5_init_6 t_97 hx0 hx1 (by decide +kernel) (by decide +kernel) (by decide +kernel) ?_
  refine x_heap (h' := stt h a (.inr (8, [.null, .null, .null, .null, .null, .int 0, .int 0, .int 0])) ++ [some (.inl (0, 2048, .inl (fun _ => 0)))]) (by rw [List.append_assoc]; rfl) ?_
  refine x_put (M := M_X5_init) (ci := 8) (C := RX5) (T := TX5) (N := 8) (ty := tyX5) cl8 dX5_init_8 (ob_app _ (ob_self ha)) 0 (by decide) t_234 (Or.inr ⟨rfl, rfl⟩) (Nat.le_of_ble_eq_true rfl) rfl ?_
  refine x_heap (h' := stt h a (.inr (8, [.ref (32 + (h.length + 0)), .null, .null, .null, .null, .int 0, .int 0, .int 0])) ++ [some (.inl (0, 2048, .inl (fun _ => 0)))]) (by rw [stt_mid ha, len_mid]; rfl) ?_
  refine x_aload_n (M := M_X5_init) dX5_init_11 rfl ?_
  refine x_iload_n (M := M_X5_init) dX5_init_12 rfl ?_
  refine x_newI (M := M_X5_init) (n := 2048) dX5_init_13 t_97 hx0 hx1 (by decide +kernel) (by decide +kernel) (by decide +kernel) ?_
  refine x_heap (h' := stt h a (.inr (8, [.ref (32 + (h.length + 0)), .null, .null, .null, .null, .int 0, .int 0, .int 0])) ++ [some (.inl (0, 2048, .inl (fun _ => 0))), some (.inl (0, 2048, .inl (fun _ => 0)))]) (by rw [List.append_assoc]; rfl) ?_
  refine x_put (M := M_X5_init) (ci := 8) (C := RX5) (T := TX5) (N := 8) (ty := tyX5) cl8 dX5_init_15 (ob_app _ (ob_self ha)) 1 (by decide) t_238 (Or.inr ⟨rfl, rfl⟩) (Nat.le_of_ble_eq_true rfl) rfl ?_
  refine x_heap (h' := stt h a (.inr (8, [.ref (32 + (h.length + 0)), .ref (32 + (h.length + 1)), .null, .null, .null, .int 0, .int 0, .int 0])) ++ [some (.inl (0, 2048, .inl (fun _ => 0))), some (.inl (0, 2048, .inl (fun _ => 0)))]) (by rw [stt_mid ha, len_mid]; rfl) ?_
  refine x_aload_n (M := M_X5_init) dX5_init_18 rfl ?_
  refine x_iload_n (M := M_X5_init) dX5_init_19 rfl ?_
  refine x_newI (M := M_X5_init) (n := 2048) dX5_init_20 t_97 hx0 hx1 (by decide +kernel) (by decide +kernel) (by decide +kernel) ?_
  refine x_heap (h' := stt h a (.inr (8, [.ref (32 + (h.length + 0)), .ref (32 + (h.length + 1)), .null, .null, .null, .int 0, .int 0, .int 0])) ++ [some (.inl (0, 2048, .inl (fun _ => 0))), some (.inl (0, 2048, .inl (fun _ => 0))), some (.inl (0, 2048, .inl (fun _ => 0)))]) (by rw [List.append_assoc]; rfl) ?_
  refine x_put (M := M_X5_init) (ci := 8) (C := RX5) (T := TX5) (N := 8) (ty := tyX5) cl8 dX5_init_22 (ob_app _ (ob_self ha)) 2 (by decide) t_242 (Or.inr ⟨rfl, rfl⟩) (Nat.le_of_ble_eq_true rfl) rfl ?_
  refine x_heap (h' := stt h a (.inr (8, [.ref (32 + (h.length + 0)), .ref (32 + (h.length + 1)), .ref (32 + (h.length + 2)), .null, .null, .int 0, .int 0, .int 0])) ++ [some (.inl (0, 2048, .inl (fun _ => 0))), some (.inl (0, 2048, .inl (fun _ => 0))), some (.inl (0, 2048, .inl (fun _ => 0)))]) (by rw [stt_mid ha, len_mid]; rfl) ?_
  refine x_aload_n (M := M_X5_init) dX5_init_25 rfl ?_
  refine x_iload_n (M := M_X5_init) dX5_init_26 rfl ?_
  refine x_newI (M := M_X5_init) (n := 2048) dX5_init_27 t_97 hx0 hx1 (by decide +kernel) (by decide +kernel) (by decide +kernel) ?_
  refine x_heap (h' := stt h a (.inr (8, [.ref (32 + (h.length + 0)), .ref (32 + (h.length + 1)), .ref (32 + (h.length + 2)), .null, .null, .int 0, .int 0, .int 0])) ++ [some (.inl (0, 2048, .inl (fun _ => 0))), some (.inl (0, 2048, .inl (fun _ => 0))), some (.inl (0, 2048, .inl (fun _ => 0))), some (.inl (0, 2048, .inl (fun _ => 0)))]) (by rw [List.append_assoc]; rfl) ?_
  refine x_put (M := M_X5_init) (ci := 8) (C := RX5) (T := TX5) (N := 8) (ty := tyX5) cl8 dX5_init_29 (ob_app _ (ob_self ha)) 3 (by decide) t_246 (Or.inr ⟨rfl, rfl⟩) (Nat.le_of_ble_eq_true rfl) rfl ?_
  refine x_heap (h' := stt h a (.inr (8, [.ref (32 + (h.length + 0)), .ref (32 + (h.length + 1)), .ref (32 + (h.length + 2)), .ref (32 + (h.length + 3)), .null, .int 0, .int 0, .int 0])) ++ [some (.inl (0, 2048, .inl (fun _ => 0))), some (.inl (0, 2048, .inl (fun _ => 0))), some (.inl (0, 2048, .inl (fun _ => 0))), some (.inl (0, 2048, .inl (fun _ => 0)))]) (by rw [stt_mid ha, len_mid]; rfl) ?_
  refine x_aload_n (M := M_X5_init) dX5_init_32 rfl ?_
  refine x_iload_n (M := M_X5_init) dX5_init_33 rfl ?_
  refine x_newI (M := M_X5_init) (n := 2048) dX5_init_34 t_97 hx0 hx1 (by decide +kernel) (by decide +kernel) (by decide +kernel) ?_
  refine x_heap (h' := stt h a (.inr (8, [.ref (32 + (h.length + 0)), .ref (32 + (h.length + 1)), .ref (32 + (h.length + 2)), .ref (32 + (h.length + 3)), .null, .int 0, .int 0, .int 0])) ++ [some (.inl (0, 2048, .inl (fun _ => 0))), some (.inl (0, 2048, .inl (fun _ => 0))), some (.inl (0, 2048, .inl (fun _ => 0))), some (.inl (0, 2048, .inl (fun _ => 0))), some (.inl (0, 2048, .inl (fun _ => 0)))]) (by rw [List.append_assoc]; rfl) ?_
  refine x_put (M := M_X5_init) (ci := 8) (C := RX5) (T := TX5) (N := 8) (ty := tyX5) cl8 dX5_init_36 (ob_app _ (ob_self ha)) 4 (by decide) t_250 (Or.inr ⟨rfl, rfl⟩) (Nat.le_of_ble_eq_true rfl) rfl ?_
  refine x_heap (h' := stt h a (.inr (8, [.ref (32 + (h.length + 0)), .ref (32 + (h.length + 1)), .ref (32 + (h.length + 2)), .ref (32 + (h.length + 3)), .ref (32 + (h.length + 4)), .int 0, .int 0, .int 0])) ++ [some (.inl (0, 2048, .inl (fun _ => 0))), some (.inl (0, 2048, .inl (fun _ => 0))), some (.inl (0, 2048, .inl (fun _ => 0))), some (.inl (0, 2048, .inl (fun _ => 0))), some (.inl (0, 2048, .inl (fun _ => 0)))]) (by rw [stt_mid ha, len_mid]; rfl) ?_
  exact x_vret (M := M_X5_init) dX5_init_39 rfl ⟨rfl, rfl⟩ (Nat.le_of_ble_eq_true rfl) (Nat.le_of_ble_eq_true rfl)

set_option maxRecDepth 20000 in
set_option maxHeartbeats 4000000 in
theorem c_X5_init_256 {l : Launch} {E : EE} (hl : l.stackTraces = false) {h : HP} {a : Nat} (ha : ob h a = some (.inr (8, [.null, .null, .null, .null, .null, .int 0, .int 0, .int 0]))) {x : Int32} (hx0 : ¬ x < 0) (hx1 : x.toNatClampNeg = 256) : en_C l E M_X5_init 1 5 1280 [.ref a, .int x] h (pR none (stt h a (.inr (8, [.ref (32 + (h.length + 0)), .ref (32 + (h.length + 1)), .ref (32 + (h.length + 2)), .ref (32 + (h.length + 3)), .ref (32 + (h.length + 4)), .int 0, .int 0, .int 0])) ++ [some (.inl (0, 256, .inl (fun _ => 0))), some (.inl (0, 256, .inl (fun _ => 0))), some (.inl (0, 256, .inl (fun _ => 0))), some (.inl (0, 256, .inl (fun _ => 0))), some (.inl (0, 256, .inl (fun _ => 0)))])) := by
  refine en_mk m_X5_init rfl hl (Nat.le_of_ble_eq_true rfl) ?_
  refine x_heap (h' := stt h a (.inr (8, [.null, .null, .null, .null, .null, .int 0, .int 0, .int 0])) ++ []) (by rw [List.append_nil]; exact (stt_id ha).symm) ?_
  refine x_aload_n (M := M_X5_init) dX5_init_0 rfl ?_
  refine x_objInit (M := M_X5_init) dX5_init_1 t_233 t_41 t_42 (Nat.le_of_ble_eq_true rfl) (Nat.le_of_ble_eq_true rfl) ?_
  refine x_aload_n (M := M_X5_init) dX5_init_4 rfl ?_
  refine x_iload_n (M := M_X5_init) dX5_init_5 rfl ?_
  refine x_newI (M := M_X5_init) (n := 256) dX5_init_6 t_97 hx0 hx1 (by decide +kernel) (by decide +kernel) (by decide +kernel) ?_
  refine x_heap (h' := stt h a (.inr (8, [.null, .null, .null, .null, .null, .int 0, .int 0, .int 0])) ++ [some (.inl (0, 256, .inl (fun _ => 0)))]) (by rw [List.append_assoc]; rfl) ?_
  refine x_put (M := M_X5_init) (ci := 8) (C := RX5) (T := TX5) (N := 8) (ty := tyX5) cl8 dX5_init_8 (ob_app _ (ob_self ha)) 0 (by decide) t_234 (Or.inr ⟨rfl, rfl⟩) (Nat.le_of_ble_eq_true rfl) rfl ?_
  refine x_heap (h' := stt h a (.inr (8, [.ref (32 + (h.length + 0)), .null, .null, .null, .null, .int 0, .int 0, .int 0])) ++ [some (.inl (0, 256, .inl (fun _ => 0)))]) (by rw [stt_mid ha, len_mid]; rfl) ?_
  refine x_aload_n (M := M_X5_init) dX5_init_11 rfl ?_
  refine x_iload_n (M := M_X5_init) dX5_init_12 rfl ?_
  refine x_newI (M := M_X5_init) (n := 256) dX5_init_13 t_97 hx0 hx1 (by decide +kernel) (by decide +kernel) (by decide +kernel) ?_
  refine x_heap (h' := stt h a (.inr (8, [.ref (32 + (h.length + 0)), .null, .null, .null, .null, .int 0, .int 0, .int 0])) ++ [some (.inl (0, 256, .inl (fun _ => 0))), some (.inl (0, 256, .inl (fun _ => 0)))]) (by rw [List.append_assoc]; rfl) ?_
  refine x_put (M := M_X5_init) (ci := 8) (C := RX5) (T := TX5) (N := 8) (ty := tyX5) cl8 dX5_init_15 (ob_app _ (ob_self ha)) 1 (by decide) t_238 (Or.inr ⟨rfl, rfl⟩) (Nat.le_of_ble_eq_true rfl) rfl ?_
  refine x_heap (h' := stt h a (.inr (8, [.ref (32 + (h.length + 0)), .ref (32 + (h.length + 1)), .null, .null, .null, .int 0, .int 0, .int 0])) ++ [some (.inl (0, 256, .inl (fun _ => 0))), some (.inl (0, 256, .inl (fun _ => 0)))]) (by rw [stt_mid ha, len_mid]; rfl) ?_
  refine x_aload_n (M := M_X5_init) dX5_init_18 rfl ?_
  refine x_iload_n (M := M_X5_init) dX5_init_19 rfl ?_
  refine x_newI (M := M_X5_init) (n := 256) dX5_init_20 t_97 hx0 hx1 (by decide +kernel) (by decide +kernel) (by decide +kernel) ?_
  refine x_heap (h' := stt h a (.inr (8, [.ref (32 + (h.length + 0)), .ref (32 + (h.length + 1)), .null, .null, .null, .int 0, .int 0, .int 0])) ++ [some (.inl (0, 256, .inl (fun _ => 0))), some (.inl (0, 256, .inl (fun _ => 0))), some (.inl (0, 256, .inl (fun _ => 0)))]) (by rw [List.append_assoc]; rfl) ?_
  refine x_put (M := M_X5_init) (ci := 8) (C := RX5) (T := TX5) (N := 8) (ty := tyX5) cl8 dX5_init_22 (ob_app _ (ob_self ha)) 2 (by decide) t_242 (Or.inr ⟨rfl, rfl⟩) (Nat.le_of_ble_eq_true rfl) rfl ?_
  refine x_heap (h' := stt h a (.inr (8, [.ref (32 + (h.length + 0)), .ref (32 + (h.length + 1)), .ref (32 + (h.length + 2)), .null, .null, .int 0, .int 0, .int 0])) ++ [some (.inl (0, 256, .inl (fun _ => 0))), some (.inl (0, 256, .inl (fun _ => 0))), some (.inl (0, 256, .inl (fun _ => 0)))]) (by rw [stt_mid ha, len_mid]; rfl) ?_
  refine x_aload_n (M := M_X5_init) dX5_init_25 rfl ?_
  refine x_iload_n (M := M_X5_init) dX5_init_26 rfl ?_
  refine x_newI (M := M_X5_init) (n := 256) dX5_init_27 t_97 hx0 hx1 (by decide +kernel) (by decide +kernel) (by decide +kernel) ?_
  refine x_heap (h' := stt h a (.inr (8, [.ref (32 + (h.length + 0)), .ref (32 + (h.length + 1)), .ref (32 + (h.length + 2)), .null, .null, .int 0, .int 0, .int 0])) ++ [some (.inl (0, 256, .inl (fun _ => 0))), some (.inl (0, 256, .inl (fun _ => 0))), some (.inl (0, 256, .inl (fun _ => 0))), some (.inl (0, 256, .inl (fun _ => 0)))]) (by rw [List.append_assoc]; rfl) ?_
  refine x_put (M := M_X5_init) (ci := 8) (C := RX5) (T := TX5) (N := 8) (ty := tyX5) cl8 dX5_init_29 (ob_app _ (ob_self ha)) 3 (by decide) t_246 (Or.inr ⟨rfl, rfl⟩) (Nat.le_of_ble_eq_true rfl) rfl ?_
  refine x_heap (h' := stt h a (.inr (8, [.ref (32 + (h.length + 0)), .ref (32 + (h.length + 1)), .ref (32 + (h.length + 2)), .ref (32 + (h.length + 3)), .null, .int 0, .int 0, .int 0])) ++ [some (.inl (0, 256, .inl (fun _ => 0))), some (.inl (0, 256, .inl (fun _ => 0))), some (.inl (0, 256, .inl (fun _ => 0))), some (.inl (0, 256, .inl (fun _ => 0)))]) (by rw [stt_mid ha, len_mid]; rfl) ?_
  refine x_aload_n (M := M_X5_init) dX5_init_32 rfl ?_
  refine x_iload_n (M := M_X5_init) dX5_init_33 rfl ?_
  refine x_newI (M := M_X5_init) (n := 256) dX5_init_34 t_97 hx0 hx1 (by decide +kernel) (by decide +kernel) (by decide +kernel) ?_
  refine x_heap (h' := stt h a (.inr (8, [.ref (32 + (h.length + 0)), .ref (32 + (h.length + 1)), .ref (32 + (h.length + 2)), .ref (32 + (h.length + 3)), .null, .int 0, .int 0, .int 0])) ++ [some (.inl (0, 256, .inl (fun _ => 0))), some (.inl (0, 256, .inl (fun _ => 0))), some (.inl (0, 256, .inl (fun _ => 0))), some (.inl (0, 256, .inl (fun _ => 0))), some (.inl (0, 256, .inl (fun _ => 0)))]) (by rw [List.append_assoc]; rfl) ?_
  refine x_put (M := M_X5_init) (ci := 8) (C := RX5) (T := TX5) (N := 8) (ty := tyX5) cl8 dX5_init_36 (ob_app _ (ob_self ha)) 4 (by decide) t_250 (Or.inr ⟨rfl, rfl⟩) (Nat.le_of_ble_eq_true rfl) rfl ?_
  refine x_heap (h' := stt h a (.inr (8, [.ref (32 + (h.length + 0)), .ref (32 + (h.length + 1)), .ref (32 + (h.length + 2)), .ref (32 + (h.length + 3)), .ref (32 + (h.length + 4)), .int 0, .int 0, .int 0])) ++ [some (.inl (0, 256, .inl (fun _ => 0))), some (.inl (0, 256, .inl (fun _ => 0))), some (.inl (0, 256, .inl (fun _ => 0))), some (.inl (0, 256, .inl (fun _ => 0))), some (.inl (0, 256, .inl (fun _ => 0)))]) (by rw [stt_mid ha, len_mid]; rfl) ?_
  exact x_vret (M := M_X5_init) dX5_init_39 rfl ⟨rfl, rfl⟩ (Nat.le_of_ble_eq_true rfl) (Nat.le_of_ble_eq_true rfl)

