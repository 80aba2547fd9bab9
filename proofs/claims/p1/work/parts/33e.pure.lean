section PUR
def f_X12_cross (w0 : Int64) (w1 : Int64) (w2 : Int64) (w3 : Int64) : Int64 := ((w0 * w3) - (w1 * w2))
theorem p_X12_cross {l : Launch} {E : EE} (hl : l.stackTraces = false) {h : HP} {w0 : Int64} {w1 : Int64} {w2 : Int64} {w3 : Int64} : en_C l E M_X12_cross 0 0 0 [.long w0, .long w1, .long w2, .long w3] h (pR (some (.long (f_X12_cross w0 w1 w2 w3))) h) := by
  refine en_mk m_X12_cross rfl hl (Nat.le_of_ble_eq_true rfl) ?_
  refine x_lload_n (M := M_X12_cross) dX12_cross_0 rfl ?_
  refine x_lload (M := M_X12_cross) dX12_cross_1 rfl ?_
  refine x_lmul (M := M_X12_cross) dX12_cross_3 ?_
  refine x_lload_n (M := M_X12_cross) dX12_cross_4 rfl ?_
  refine x_lload (M := M_X12_cross) dX12_cross_5 rfl ?_
  refine x_lmul (M := M_X12_cross) dX12_cross_7 ?_
  refine x_lsub (M := M_X12_cross) dX12_cross_8 ?_
  exact x_lret (M := M_X12_cross) dX12_cross_9 rfl ⟨rfl, rfl⟩ (Nat.le_of_ble_eq_true rfl) (Nat.le_of_ble_eq_true rfl)
def f_X12_signOf (w0 : Int64) : Int32 := if 0 ≤ (lg_cmp w0 (Int64.ofNat ((0 : Fin 2) : Nat))) then if (lg_cmp w0 (Int64.ofNat ((0 : Fin 2) : Nat))) ≤ 0 then (Int32.ofInt 0) else ((Int32.ofInt 1)) else ((Int32.ofInt (-1)))
theorem p_X12_signOf {l : Launch} {E : EE} (hl : l.stackTraces = false) {h : HP} {w0 : Int64} : en_C l E M_X12_signOf 0 0 0 [.long w0] h (pR (some (.int (f_X12_signOf w0))) h) := by
  refine en_mk m_X12_signOf rfl hl (Nat.le_of_ble_eq_true rfl) ?_
  refine x_lload_n (M := M_X12_signOf) dX12_signOf_0 rfl ?_
  refine x_lconst (M := M_X12_signOf) dX12_signOf_1 ?_
  refine x_lcmp (M := M_X12_signOf) dX12_signOf_2 ?_
  refine x_if_ge (M := M_X12_signOf) (tgt := 10) dX12_signOf_3 (by decide) (fun q0 => ?_) (fun q0 => ?_)
  · refine x_lload_n (M := M_X12_signOf) dX12_signOf_10 rfl ?_
    refine x_lconst (M := M_X12_signOf) dX12_signOf_11 ?_
    refine x_lcmp (M := M_X12_signOf) dX12_signOf_12 ?_
    refine x_if_le (M := M_X12_signOf) (tgt := 20) dX12_signOf_13 (by decide) (fun q1 => ?_) (fun q1 => ?_)
    · refine x_iconst (M := M_X12_signOf) dX12_signOf_20 ?_
      exact x_iret (M := M_X12_signOf) dX12_signOf_21 rfl ⟨by rw [f_X12_signOf, if_pos q0, if_pos q1], rfl⟩ (Nat.le_of_ble_eq_true rfl) (Nat.le_of_ble_eq_true rfl)
    · refine x_iconst (M := M_X12_signOf) dX12_signOf_16 ?_
      refine x_goto (M := M_X12_signOf) (tgt := 21) dX12_signOf_17 (by decide) ?_
      exact x_iret (M := M_X12_signOf) dX12_signOf_21 rfl ⟨by rw [f_X12_signOf, if_pos q0, if_neg q1], rfl⟩ (Nat.le_of_ble_eq_true rfl) (Nat.le_of_ble_eq_true rfl)
  · refine x_iconst (M := M_X12_signOf) dX12_signOf_6 ?_
    refine x_goto (M := M_X12_signOf) (tgt := 21) dX12_signOf_7 (by decide) ?_
    exact x_iret (M := M_X12_signOf) dX12_signOf_21 rfl ⟨by rw [f_X12_signOf, if_neg q0], rfl⟩ (Nat.le_of_ble_eq_true rfl) (Nat.le_of_ble_eq_true rfl)
def f_X12_turn (w0 : Int64) (w1 : Int64) (w2 : Int64) (w3 : Int64) (w4 : Int64) (w5 : Int64) : Int32 := (f_X12_signOf (f_X12_cross (w2 - w0) (w3 - w1) (w4 - w0) (w5 - w1)))
theorem p_X12_turn {l : Launch} {E : EE} (hl : l.stackTraces = false) {h : HP} {w0 : Int64} {w1 : Int64} {w2 : Int64} {w3 : Int64} {w4 : Int64} {w5 : Int64} : en_C l E M_X12_turn 1 0 0 [.long w0, .long w1, .long w2, .long w3, .long w4, .long w5] h (pR (some (.int (f_X12_turn w0 w1 w2 w3 w4 w5))) h) := by
  refine en_mk m_X12_turn rfl hl (Nat.le_of_ble_eq_true rfl) ?_
  refine x_lload (M := M_X12_turn) dX12_turn_0 rfl ?_
  refine x_lload_n (M := M_X12_turn) dX12_turn_2 rfl ?_
  refine x_lsub (M := M_X12_turn) dX12_turn_3 ?_
  refine x_lload (M := M_X12_turn) dX12_turn_4 rfl ?_
  refine x_lload_n (M := M_X12_turn) dX12_turn_6 rfl ?_
  refine x_lsub (M := M_X12_turn) dX12_turn_7 ?_
  refine x_lload (M := M_X12_turn) dX12_turn_8 rfl ?_
  refine x_lload_n (M := M_X12_turn) dX12_turn_10 rfl ?_
  refine x_lsub (M := M_X12_turn) dX12_turn_11 ?_
  refine x_lload (M := M_X12_turn) dX12_turn_12 rfl ?_
  refine x_lload_n (M := M_X12_turn) dX12_turn_14 rfl ?_
  refine x_lsub (M := M_X12_turn) dX12_turn_15 ?_
  refine x_callSR (M := M_X12_turn) (M' := M_X12_cross) rfl rfl dX12_turn_16 m_X12_cross t_3265 t_3266 (p_X12_cross hl) rfl rfl (Nat.le_of_ble_eq_true rfl) (Nat.le_of_ble_eq_true rfl) (Nat.le_of_ble_eq_true rfl) (Nat.le_of_ble_eq_true rfl) ?_
  refine x_callSR (M := M_X12_turn) (M' := M_X12_signOf) rfl rfl dX12_turn_19 m_X12_signOf t_3268 t_3269 (p_X12_signOf hl) rfl rfl (Nat.le_of_ble_eq_true rfl) (Nat.le_of_ble_eq_true rfl) (Nat.le_of_ble_eq_true rfl) (Nat.le_of_ble_eq_true rfl) ?_
  exact x_iret (M := M_X12_turn) dX12_turn_22 rfl ⟨rfl, rfl⟩ (Nat.le_of_ble_eq_true rfl) (Nat.le_of_ble_eq_true rfl)
def F_X12_segment (fs : List Value) (g48 : Int32) (c12 : Nat → Int32) (c13 : Nat → Int32) (c41 : Nat → Int64) (c42 : Nat → Int64) (c43 : Nat → Int64) (c44 : Nat → Int64) (c45 : Nat → Int32) (c46 : Nat → Int32) (c47 : Nat → Int32) (w0 : Int32) (w1 : Int32) (w2 : Int32) (w3 : Int32) (w4 : Int32) : List Value := (fs.set 48 (.int (g48 + (Int32.ofInt 1))))
def A41_X12_segment (g48 : Int32) (c12 : Nat → Int32) (c13 : Nat → Int32) (c41 : Nat → Int64) (c42 : Nat → Int64) (c43 : Nat → Int64) (c44 : Nat → Int64) (c45 : Nat → Int32) (c46 : Nat → Int32) (c47 : Nat → Int32) (w0 : Int32) (w1 : Int32) (w2 : Int32) (w3 : Int32) (w4 : Int32) : Nat → Int64 := (vp_updL c41 g48.toNatClampNeg ((c12 w0.toNatClampNeg).toInt64))
def A42_X12_segment (g48 : Int32) (c12 : Nat → Int32) (c13 : Nat → Int32) (c41 : Nat → Int64) (c42 : Nat → Int64) (c43 : Nat → Int64) (c44 : Nat → Int64) (c45 : Nat → Int32) (c46 : Nat → Int32) (c47 : Nat → Int32) (w0 : Int32) (w1 : Int32) (w2 : Int32) (w3 : Int32) (w4 : Int32) : Nat → Int64 := (vp_updL c42 g48.toNatClampNeg ((c13 w0.toNatClampNeg).toInt64))
def A43_X12_segment (g48 : Int32) (c12 : Nat → Int32) (c13 : Nat → Int32) (c41 : Nat → Int64) (c42 : Nat → Int64) (c43 : Nat → Int64) (c44 : Nat → Int64) (c45 : Nat → Int32) (c46 : Nat → Int32) (c47 : Nat → Int32) (w0 : Int32) (w1 : Int32) (w2 : Int32) (w3 : Int32) (w4 : Int32) : Nat → Int64 := (vp_updL c43 g48.toNatClampNeg ((c12 w1.toNatClampNeg).toInt64))
def A44_X12_segment (g48 : Int32) (c12 : Nat → Int32) (c13 : Nat → Int32) (c41 : Nat → Int64) (c42 : Nat → Int64) (c43 : Nat → Int64) (c44 : Nat → Int64) (c45 : Nat → Int32) (c46 : Nat → Int32) (c47 : Nat → Int32) (w0 : Int32) (w1 : Int32) (w2 : Int32) (w3 : Int32) (w4 : Int32) : Nat → Int64 := (vp_updL c44 g48.toNatClampNeg ((c13 w1.toNatClampNeg).toInt64))
def A45_X12_segment (g48 : Int32) (c12 : Nat → Int32) (c13 : Nat → Int32) (c41 : Nat → Int64) (c42 : Nat → Int64) (c43 : Nat → Int64) (c44 : Nat → Int64) (c45 : Nat → Int32) (c46 : Nat → Int32) (c47 : Nat → Int32) (w0 : Int32) (w1 : Int32) (w2 : Int32) (w3 : Int32) (w4 : Int32) : Nat → Int32 := (upd c45 g48.toNatClampNeg w2)
def A46_X12_segment (g48 : Int32) (c12 : Nat → Int32) (c13 : Nat → Int32) (c41 : Nat → Int64) (c42 : Nat → Int64) (c43 : Nat → Int64) (c44 : Nat → Int64) (c45 : Nat → Int32) (c46 : Nat → Int32) (c47 : Nat → Int32) (w0 : Int32) (w1 : Int32) (w2 : Int32) (w3 : Int32) (w4 : Int32) : Nat → Int32 := (upd c46 g48.toNatClampNeg w3)
def A47_X12_segment (g48 : Int32) (c12 : Nat → Int32) (c13 : Nat → Int32) (c41 : Nat → Int64) (c42 : Nat → Int64) (c43 : Nat → Int64) (c44 : Nat → Int64) (c45 : Nat → Int32) (c46 : Nat → Int32) (c47 : Nat → Int32) (w0 : Int32) (w1 : Int32) (w2 : Int32) (w3 : Int32) (w4 : Int32) : Nat → Int32 := (upd c47 g48.toNatClampNeg w4)
theorem l_X12_segment {fs : List Value} {g48 : Int32} {c12 : Nat → Int32} {c13 : Nat → Int32} {c41 : Nat → Int64} {c42 : Nat → Int64} {c43 : Nat → Int64} {c44 : Nat → Int64} {c45 : Nat → Int32} {c46 : Nat → Int32} {c47 : Nat → Int32} {w0 : Int32} {w1 : Int32} {w2 : Int32} {w3 : Int32} {w4 : Int32} : (F_X12_segment fs g48 c12 c13 c41 c42 c43 c44 c45 c46 c47 w0 w1 w2 w3 w4).length = fs.length := by
  unfold F_X12_segment
  first | rfl | simp only [List.length_set]
theorem k_X12_segment {fs : List Value} {g48 : Int32} {c12 : Nat → Int32} {c13 : Nat → Int32} {c41 : Nat → Int64} {c42 : Nat → Int64} {c43 : Nat → Int64} {c44 : Nat → Int64} {c45 : Nat → Int32} {c46 : Nat → Int32} {c47 : Nat → Int32} {w0 : Int32} {w1 : Int32} {w2 : Int32} {w3 : Int32} {w4 : Int32} {k : Nat} (hk : k ∉ ([48] : List Nat)) : (F_X12_segment fs g48 c12 c13 c41 c42 c43 c44 c45 c46 c47 w0 w1 w2 w3 w4)[k]? = fs[k]? := by
  simp only [List.mem_cons, List.not_mem_nil, or_false, not_or] at hk
  unfold F_X12_segment
  first | rfl | simp only [List.getElem?_set_ne (by omega : 48 ≠ k)]
def V48_X12_segment (g48 : Int32) (c12 : Nat → Int32) (c13 : Nat → Int32) (c41 : Nat → Int64) (c42 : Nat → Int64) (c43 : Nat → Int64) (c44 : Nat → Int64) (c45 : Nat → Int32) (c46 : Nat → Int32) (c47 : Nat → Int32) (w0 : Int32) (w1 : Int32) (w2 : Int32) (w3 : Int32) (w4 : Int32) : Int32 := (g48 + (Int32.ofInt 1))
theorem v48_X12_segment {fs : List Value} {g48 : Int32} {c12 : Nat → Int32} {c13 : Nat → Int32} {c41 : Nat → Int64} {c42 : Nat → Int64} {c43 : Nat → Int64} {c44 : Nat → Int64} {c45 : Nat → Int32} {c46 : Nat → Int32} {c47 : Nat → Int32} {w0 : Int32} {w1 : Int32} {w2 : Int32} {w3 : Int32} {w4 : Int32} (hn : fs.length = 135) (e48 : fs[48]? = some (.int g48)) : (F_X12_segment fs g48 c12 c13 c41 c42 c43 c44 c45 c46 c47 w0 w1 w2 w3 w4)[48]? = some (.int (V48_X12_segment g48 c12 c13 c41 c42 c43 c44 c45 c46 c47 w0 w1 w2 w3 w4)) := by
  unfold F_X12_segment V48_X12_segment
  exact (gs_eq (by simp only [List.length_set, hn]; decide))
theorem p_X12_segment {l : Launch} {E : EE} (hl : l.stackTraces = false) {h : HP} {g48 : Int32} {c12 : Nat → Int32} {c13 : Nat → Int32} {c41 : Nat → Int64} {c42 : Nat → Int64} {c43 : Nat → Int64} {c44 : Nat → Int64} {c45 : Nat → Int32} {c46 : Nat → Int32} {c47 : Nat → Int32} {w0 : Int32} {w1 : Int32} {w2 : Int32} {w3 : Int32} {w4 : Int32} {a : Nat} {fs : List Value} (ha : ob h a = some (.inr (15, fs))) (hn : fs.length = 135) (e48 : fs[48]? = some (.int g48)) {r12 n12 : Nat} (e12 : fs[12]? = some (.ref r12)) (o12 : ob h r12 = some (.inl (0, n12, .inl c12))) {r13 n13 : Nat} (e13 : fs[13]? = some (.ref r13)) (o13 : ob h r13 = some (.inl (0, n13, .inl c13))) {r41 n41 : Nat} (e41 : fs[41]? = some (.ref r41)) (o41 : ob h r41 = some (.inl (1, n41, .inr (.inl c41)))) {r42 n42 : Nat} (e42 : fs[42]? = some (.ref r42)) (o42 : ob h r42 = some (.inl (1, n42, .inr (.inl c42)))) {r43 n43 : Nat} (e43 : fs[43]? = some (.ref r43)) (o43 : ob h r43 = some (.inl (1, n43, .inr (.inl c43)))) {r44 n44 : Nat} (e44 : fs[44]? = some (.ref r44)) (o44 : ob h r44 = some (.inl (1, n44, .inr (.inl c44)))) {r45 n45 : Nat} (e45 : fs[45]? = some (.ref r45)) (o45 : ob h r45 = some (.inl (0, n45, .inl c45))) {r46 n46 : Nat} (e46 : fs[46]? = some (.ref r46)) (o46 : ob h r46 = some (.inl (0, n46, .inl c46))) {r47 n47 : Nat} (e47 : fs[47]? = some (.ref r47)) (o47 : ob h r47 = some (.inl (0, n47, .inl c47))) (d12_41 : r12 ≠ r41) (d12_42 : r12 ≠ r42) (d12_43 : r12 ≠ r43) (d12_44 : r12 ≠ r44) (d12_45 : r12 ≠ r45) (d12_46 : r12 ≠ r46) (d12_47 : r12 ≠ r47) (d13_41 : r13 ≠ r41) (d13_42 : r13 ≠ r42) (d13_43 : r13 ≠ r43) (d13_44 : r13 ≠ r44) (d13_45 : r13 ≠ r45) (d13_46 : r13 ≠ r46) (d13_47 : r13 ≠ r47) (d41_42 : r41 ≠ r42) (d41_43 : r41 ≠ r43) (d41_44 : r41 ≠ r44) (d41_45 : r41 ≠ r45) (d41_46 : r41 ≠ r46) (d41_47 : r41 ≠ r47) (d42_43 : r42 ≠ r43) (d42_44 : r42 ≠ r44) (d42_45 : r42 ≠ r45) (d42_46 : r42 ≠ r46) (d42_47 : r42 ≠ r47) (d43_44 : r43 ≠ r44) (d43_45 : r43 ≠ r45) (d43_46 : r43 ≠ r46) (d43_47 : r43 ≠ r47) (d44_45 : r44 ≠ r45) (d44_46 : r44 ≠ r46) (d44_47 : r44 ≠ r47) (d45_46 : r45 ≠ r46) (d45_47 : r45 ≠ r47) (d46_47 : r46 ≠ r47) (i0 : vp_in w0 n12) (i1 : vp_in g48 n41) (i2 : vp_in w0 n13) (i3 : vp_in g48 n42) (i4 : vp_in w1 n12) (i5 : vp_in g48 n43) (i6 : vp_in w1 n13) (i7 : vp_in g48 n44) (i8 : vp_in g48 n45) (i9 : vp_in g48 n46) (i10 : vp_in g48 n47) : en_C l E M_X12_segment 0 0 0 [.ref a, .int w0, .int w1, .int w2, .int w3, .int w4] h (pR none (stt (stt (stt (stt (stt (stt (stt (stt h a (.inr (15, F_X12_segment fs g48 c12 c13 c41 c42 c43 c44 c45 c46 c47 w0 w1 w2 w3 w4))) r41 (.inl (1, n41, .inr (.inl (A41_X12_segment g48 c12 c13 c41 c42 c43 c44 c45 c46 c47 w0 w1 w2 w3 w4))))) r42 (.inl (1, n42, .inr (.inl (A42_X12_segment g48 c12 c13 c41 c42 c43 c44 c45 c46 c47 w0 w1 w2 w3 w4))))) r43 (.inl (1, n43, .inr (.inl (A43_X12_segment g48 c12 c13 c41 c42 c43 c44 c45 c46 c47 w0 w1 w2 w3 w4))))) r44 (.inl (1, n44, .inr (.inl (A44_X12_segment g48 c12 c13 c41 c42 c43 c44 c45 c46 c47 w0 w1 w2 w3 w4))))) r45 (.inl (0, n45, .inl (A45_X12_segment g48 c12 c13 c41 c42 c43 c44 c45 c46 c47 w0 w1 w2 w3 w4)))) r46 (.inl (0, n46, .inl (A46_X12_segment g48 c12 c13 c41 c42 c43 c44 c45 c46 c47 w0 w1 w2 w3 w4)))) r47 (.inl (0, n47, .inl (A47_X12_segment g48 c12 c13 c41 c42 c43 c44 c45 c46 c47 w0 w1 w2 w3 w4))))) := by
  refine en_mk m_X12_segment rfl hl (Nat.le_of_ble_eq_true rfl) ?_
  refine x_heap (h' := (stt (stt (stt (stt (stt (stt (stt (stt h a (.inr (15, fs))) r41 (.inl (1, n41, .inr (.inl c41)))) r42 (.inl (1, n42, .inr (.inl c42)))) r43 (.inl (1, n43, .inr (.inl c43)))) r44 (.inl (1, n44, .inr (.inl c44)))) r45 (.inl (0, n45, .inl c45))) r46 (.inl (0, n46, .inl c46))) r47 (.inl (0, n47, .inl c47)))) (by rw [stt_id ha, stt_id o41, stt_id o42, stt_id o43, stt_id o44, stt_id o45, stt_id o46, stt_id o47]) ?_
  refine x_aload_n (M := M_X12_segment) dX12_segment_0 rfl ?_
  refine x_getf (M := M_X12_segment) (ci := 15) (C := RX12) (T := TX12) (N := 135) (ty := tyX12) cl15 dX12_segment_1 (ob_up (ob_df ha o47).symm (ob_at o47).1 (ob_up (ob_df ha o46).symm (ob_at o46).1 (ob_up (ob_df ha o45).symm (ob_at o45).1 (ob_up (ob_df ha o44).symm (ob_at o44).1 (ob_up (ob_df ha o43).symm (ob_at o43).1 (ob_up (ob_df ha o42).symm (ob_at o42).1 (ob_up (ob_df ha o41).symm (ob_at o41).1 (ob_self ha)))))))) 41 (by decide) t_2432 e41 ?_
  refine x_aload_n (M := M_X12_segment) dX12_segment_4 rfl ?_
  refine x_getf (M := M_X12_segment) (ci := 15) (C := RX12) (T := TX12) (N := 135) (ty := tyX12) cl15 dX12_segment_5 (ob_up (ob_df ha o47).symm (ob_at o47).1 (ob_up (ob_df ha o46).symm (ob_at o46).1 (ob_up (ob_df ha o45).symm (ob_at o45).1 (ob_up (ob_df ha o44).symm (ob_at o44).1 (ob_up (ob_df ha o43).symm (ob_at o43).1 (ob_up (ob_df ha o42).symm (ob_at o42).1 (ob_up (ob_df ha o41).symm (ob_at o41).1 (ob_self ha)))))))) 48 (by decide) t_2439 e48 ?_
  refine x_aload_n (M := M_X12_segment) dX12_segment_8 rfl ?_
  refine x_getf (M := M_X12_segment) (ci := 15) (C := RX12) (T := TX12) (N := 135) (ty := tyX12) cl15 dX12_segment_9 (ob_up (ob_df ha o47).symm (ob_at o47).1 (ob_up (ob_df ha o46).symm (ob_at o46).1 (ob_up (ob_df ha o45).symm (ob_at o45).1 (ob_up (ob_df ha o44).symm (ob_at o44).1 (ob_up (ob_df ha o43).symm (ob_at o43).1 (ob_up (ob_df ha o42).symm (ob_at o42).1 (ob_up (ob_df ha o41).symm (ob_at o41).1 (ob_self ha)))))))) 12 (by decide) t_2403 e12 ?_
  refine x_iload_n (M := M_X12_segment) dX12_segment_12 rfl ?_
  refine x_iald (M := M_X12_segment) dX12_segment_13 (ob_up d12_47.symm (ob_at o47).1 (ob_up d12_46.symm (ob_at o46).1 (ob_up d12_45.symm (ob_at o45).1 (ob_up d12_44.symm (ob_at o44).1 (ob_up d12_43.symm (ob_at o43).1 (ob_up d12_42.symm (ob_at o42).1 (ob_up d12_41.symm (ob_at o41).1 (ob_oth ha o12)))))))) i0 ?_
  refine x_i2l (M := M_X12_segment) dX12_segment_14 ?_
  refine x_last (M := M_X12_segment) dX12_segment_15 (ob_up d41_47.symm (ob_at o47).1 (ob_up d41_46.symm (ob_at o46).1 (ob_up d41_45.symm (ob_at o45).1 (ob_up d41_44.symm (ob_at o44).1 (ob_up d41_43.symm (ob_at o43).1 (ob_up d41_42.symm (ob_at o42).1 (ob_self (ob_oth ha o41)))))))) i1 ?_
  refine x_heap (h' := (stt (stt (stt (stt (stt (stt (stt (stt h a (.inr (15, fs))) r41 (.inl (1, n41, .inr (.inl (vp_updL c41 g48.toNatClampNeg ((c12 w0.toNatClampNeg).toInt64)))))) r42 (.inl (1, n42, .inr (.inl c42)))) r43 (.inl (1, n43, .inr (.inl c43)))) r44 (.inl (1, n44, .inr (.inl c44)))) r45 (.inl (0, n45, .inl c45))) r46 (.inl (0, n46, .inl c46))) r47 (.inl (0, n47, .inl c47)))) (by rw [stt_sw (x := r47) (y := r41) d41_47.symm (ob_at o47).1 (ob_at o41).1, stt_sw (x := r46) (y := r41) d41_46.symm (ob_at o46).1 (ob_at o41).1, stt_sw (x := r45) (y := r41) d41_45.symm (ob_at o45).1 (ob_at o41).1, stt_sw (x := r44) (y := r41) d41_44.symm (ob_at o44).1 (ob_at o41).1, stt_sw (x := r43) (y := r41) d41_43.symm (ob_at o43).1 (ob_at o41).1, stt_sw (x := r42) (y := r41) d41_42.symm (ob_at o42).1 (ob_at o41).1, stt_stt (a := r41)]) ?_
  refine x_aload_n (M := M_X12_segment) dX12_segment_16 rfl ?_
  refine x_getf (M := M_X12_segment) (ci := 15) (C := RX12) (T := TX12) (N := 135) (ty := tyX12) cl15 dX12_segment_17 (ob_up (ob_df ha o47).symm (ob_at o47).1 (ob_up (ob_df ha o46).symm (ob_at o46).1 (ob_up (ob_df ha o45).symm (ob_at o45).1 (ob_up (ob_df ha o44).symm (ob_at o44).1 (ob_up (ob_df ha o43).symm (ob_at o43).1 (ob_up (ob_df ha o42).symm (ob_at o42).1 (ob_up (ob_df ha o41).symm (ob_at o41).1 (ob_self ha)))))))) 42 (by decide) t_2433 e42 ?_
  refine x_aload_n (M := M_X12_segment) dX12_segment_20 rfl ?_
  refine x_getf (M := M_X12_segment) (ci := 15) (C := RX12) (T := TX12) (N := 135) (ty := tyX12) cl15 dX12_segment_21 (ob_up (ob_df ha o47).symm (ob_at o47).1 (ob_up (ob_df ha o46).symm (ob_at o46).1 (ob_up (ob_df ha o45).symm (ob_at o45).1 (ob_up (ob_df ha o44).symm (ob_at o44).1 (ob_up (ob_df ha o43).symm (ob_at o43).1 (ob_up (ob_df ha o42).symm (ob_at o42).1 (ob_up (ob_df ha o41).symm (ob_at o41).1 (ob_self ha)))))))) 48 (by decide) t_2439 e48 ?_
  refine x_aload_n (M := M_X12_segment) dX12_segment_24 rfl ?_
  refine x_getf (M := M_X12_segment) (ci := 15) (C := RX12) (T := TX12) (N := 135) (ty := tyX12) cl15 dX12_segment_25 (ob_up (ob_df ha o47).symm (ob_at o47).1 (ob_up (ob_df ha o46).symm (ob_at o46).1 (ob_up (ob_df ha o45).symm (ob_at o45).1 (ob_up (ob_df ha o44).symm (ob_at o44).1 (ob_up (ob_df ha o43).symm (ob_at o43).1 (ob_up (ob_df ha o42).symm (ob_at o42).1 (ob_up (ob_df ha o41).symm (ob_at o41).1 (ob_self ha)))))))) 13 (by decide) t_2404 e13 ?_
  refine x_iload_n (M := M_X12_segment) dX12_segment_28 rfl ?_
  refine x_iald (M := M_X12_segment) dX12_segment_29 (ob_up d13_47.symm (ob_at o47).1 (ob_up d13_46.symm (ob_at o46).1 (ob_up d13_45.symm (ob_at o45).1 (ob_up d13_44.symm (ob_at o44).1 (ob_up d13_43.symm (ob_at o43).1 (ob_up d13_42.symm (ob_at o42).1 (ob_up d13_41.symm (ob_at o41).1 (ob_oth ha o13)))))))) i2 ?_
  refine x_i2l (M := M_X12_segment) dX12_segment_30 ?_
  refine x_last (M := M_X12_segment) dX12_segment_31 (ob_up d42_47.symm (ob_at o47).1 (ob_up d42_46.symm (ob_at o46).1 (ob_up d42_45.symm (ob_at o45).1 (ob_up d42_44.symm (ob_at o44).1 (ob_up d42_43.symm (ob_at o43).1 (ob_self (ob_up d41_42 (ob_at o41).1 (ob_oth ha o42)))))))) i3 ?_
  refine x_heap (h' := (stt (stt (stt (stt (stt (stt (stt (stt h a (.inr (15, fs))) r41 (.inl (1, n41, .inr (.inl (vp_updL c41 g48.toNatClampNeg ((c12 w0.toNatClampNeg).toInt64)))))) r42 (.inl (1, n42, .inr (.inl (vp_updL c42 g48.toNatClampNeg ((c13 w0.toNatClampNeg).toInt64)))))) r43 (.inl (1, n43, .inr (.inl c43)))) r44 (.inl (1, n44, .inr (.inl c44)))) r45 (.inl (0, n45, .inl c45))) r46 (.inl (0, n46, .inl c46))) r47 (.inl (0, n47, .inl c47)))) (by rw [stt_sw (x := r47) (y := r42) d42_47.symm (ob_at o47).1 (ob_at o42).1, stt_sw (x := r46) (y := r42) d42_46.symm (ob_at o46).1 (ob_at o42).1, stt_sw (x := r45) (y := r42) d42_45.symm (ob_at o45).1 (ob_at o42).1, stt_sw (x := r44) (y := r42) d42_44.symm (ob_at o44).1 (ob_at o42).1, stt_sw (x := r43) (y := r42) d42_43.symm (ob_at o43).1 (ob_at o42).1, stt_stt (a := r42)]) ?_
  refine x_aload_n (M := M_X12_segment) dX12_segment_32 rfl ?_
  refine x_getf (M := M_X12_segment) (ci := 15) (C := RX12) (T := TX12) (N := 135) (ty := tyX12) cl15 dX12_segment_33 (ob_up (ob_df ha o47).symm (ob_at o47).1 (ob_up (ob_df ha o46).symm (ob_at o46).1 (ob_up (ob_df ha o45).symm (ob_at o45).1 (ob_up (ob_df ha o44).symm (ob_at o44).1 (ob_up (ob_df ha o43).symm (ob_at o43).1 (ob_up (ob_df ha o42).symm (ob_at o42).1 (ob_up (ob_df ha o41).symm (ob_at o41).1 (ob_self ha)))))))) 43 (by decide) t_2434 e43 ?_
  refine x_aload_n (M := M_X12_segment) dX12_segment_36 rfl ?_
  refine x_getf (M := M_X12_segment) (ci := 15) (C := RX12) (T := TX12) (N := 135) (ty := tyX12) cl15 dX12_segment_37 (ob_up (ob_df ha o47).symm (ob_at o47).1 (ob_up (ob_df ha o46).symm (ob_at o46).1 (ob_up (ob_df ha o45).symm (ob_at o45).1 (ob_up (ob_df ha o44).symm (ob_at o44).1 (ob_up (ob_df ha o43).symm (ob_at o43).1 (ob_up (ob_df ha o42).symm (ob_at o42).1 (ob_up (ob_df ha o41).symm (ob_at o41).1 (ob_self ha)))))))) 48 (by decide) t_2439 e48 ?_
  refine x_aload_n (M := M_X12_segment) dX12_segment_40 rfl ?_
  refine x_getf (M := M_X12_segment) (ci := 15) (C := RX12) (T := TX12) (N := 135) (ty := tyX12) cl15 dX12_segment_41 (ob_up (ob_df ha o47).symm (ob_at o47).1 (ob_up (ob_df ha o46).symm (ob_at o46).1 (ob_up (ob_df ha o45).symm (ob_at o45).1 (ob_up (ob_df ha o44).symm (ob_at o44).1 (ob_up (ob_df ha o43).symm (ob_at o43).1 (ob_up (ob_df ha o42).symm (ob_at o42).1 (ob_up (ob_df ha o41).symm (ob_at o41).1 (ob_self ha)))))))) 12 (by decide) t_2403 e12 ?_
  refine x_iload_n (M := M_X12_segment) dX12_segment_44 rfl ?_
  refine x_iald (M := M_X12_segment) dX12_segment_45 (ob_up d12_47.symm (ob_at o47).1 (ob_up d12_46.symm (ob_at o46).1 (ob_up d12_45.symm (ob_at o45).1 (ob_up d12_44.symm (ob_at o44).1 (ob_up d12_43.symm (ob_at o43).1 (ob_up d12_42.symm (ob_at o42).1 (ob_up d12_41.symm (ob_at o41).1 (ob_oth ha o12)))))))) i4 ?_
  refine x_i2l (M := M_X12_segment) dX12_segment_46 ?_
  refine x_last (M := M_X12_segment) dX12_segment_47 (ob_up d43_47.symm (ob_at o47).1 (ob_up d43_46.symm (ob_at o46).1 (ob_up d43_45.symm (ob_at o45).1 (ob_up d43_44.symm (ob_at o44).1 (ob_self (ob_up d42_43 (ob_at o42).1 (ob_up d41_43 (ob_at o41).1 (ob_oth ha o43)))))))) i5 ?_
  refine x_heap (h' := (stt (stt (stt (stt (stt (stt (stt (stt h a (.inr (15, fs))) r41 (.inl (1, n41, .inr (.inl (vp_updL c41 g48.toNatClampNeg ((c12 w0.toNatClampNeg).toInt64)))))) r42 (.inl (1, n42, .inr (.inl (vp_updL c42 g48.toNatClampNeg ((c13 w0.toNatClampNeg).toInt64)))))) r43 (.inl (1, n43, .inr (.inl (vp_updL c43 g48.toNatClampNeg ((c12 w1.toNatClampNeg).toInt64)))))) r44 (.inl (1, n44, .inr (.inl c44)))) r45 (.inl (0, n45, .inl c45))) r46 (.inl (0, n46, .inl c46))) r47 (.inl (0, n47, .inl c47)))) (by rw [stt_sw (x := r47) (y := r43) d43_47.symm (ob_at o47).1 (ob_at o43).1, stt_sw (x := r46) (y := r43) d43_46.symm (ob_at o46).1 (ob_at o43).1, stt_sw (x := r45) (y := r43) d43_45.symm (ob_at o45).1 (ob_at o43).1, stt_sw (x := r44) (y := r43) d43_44.symm (ob_at o44).1 (ob_at o43).1, stt_stt (a := r43)]) ?_
  refine x_aload_n (M := M_X12_segment) dX12_segment_48 rfl ?_
  refine x_getf (M := M_X12_segment) (ci := 15) (C := RX12) (T := TX12) (N := 135) (ty := tyX12) cl15 dX12_segment_49 (ob_up (ob_df ha o47).symm (ob_at o47).1 (ob_up (ob_df ha o46).symm (ob_at o46).1 (ob_up (ob_df ha o45).symm (ob_at o45).1 (ob_up (ob_df ha o44).symm (ob_at o44).1 (ob_up (ob_df ha o43).symm (ob_at o43).1 (ob_up (ob_df ha o42).symm (ob_at o42).1 (ob_up (ob_df ha o41).symm (ob_at o41).1 (ob_self ha)))))))) 44 (by decide) t_2435 e44 ?_
  refine x_aload_n (M := M_X12_segment) dX12_segment_52 rfl ?_
  refine x_getf (M := M_X12_segment) (ci := 15) (C := RX12) (T := TX12) (N := 135) (ty := tyX12) cl15 dX12_segment_53 (ob_up (ob_df ha o47).symm (ob_at o47).1 (ob_up (ob_df ha o46).symm (ob_at o46).1 (ob_up (ob_df ha o45).symm (ob_at o45).1 (ob_up (ob_df ha o44).symm (ob_at o44).1 (ob_up (ob_df ha o43).symm (ob_at o43).1 (ob_up (ob_df ha o42).symm (ob_at o42).1 (ob_up (ob_df ha o41).symm (ob_at o41).1 (ob_self ha)))))))) 48 (by decide) t_2439 e48 ?_
  refine x_aload_n (M := M_X12_segment) dX12_segment_56 rfl ?_
  refine x_getf (M := M_X12_segment) (ci := 15) (C := RX12) (T := TX12) (N := 135) (ty := tyX12) cl15 dX12_segment_57 (ob_up (ob_df ha o47).symm (ob_at o47).1 (ob_up (ob_df ha o46).symm (ob_at o46).1 (ob_up (ob_df ha o45).symm (ob_at o45).1 (ob_up (ob_df ha o44).symm (ob_at o44).1 (ob_up (ob_df ha o43).symm (ob_at o43).1 (ob_up (ob_df ha o42).symm (ob_at o42).1 (ob_up (ob_df ha o41).symm (ob_at o41).1 (ob_self ha)))))))) 13 (by decide) t_2404 e13 ?_
  refine x_iload_n (M := M_X12_segment) dX12_segment_60 rfl ?_
  refine x_iald (M := M_X12_segment) dX12_segment_61 (ob_up d13_47.symm (ob_at o47).1 (ob_up d13_46.symm (ob_at o46).1 (ob_up d13_45.symm (ob_at o45).1 (ob_up d13_44.symm (ob_at o44).1 (ob_up d13_43.symm (ob_at o43).1 (ob_up d13_42.symm (ob_at o42).1 (ob_up d13_41.symm (ob_at o41).1 (ob_oth ha o13)))))))) i6 ?_
  refine x_i2l (M := M_X12_segment) dX12_segment_62 ?_
  refine x_last (M := M_X12_segment) dX12_segment_63 (ob_up d44_47.symm (ob_at o47).1 (ob_up d44_46.symm (ob_at o46).1 (ob_up d44_45.symm (ob_at o45).1 (ob_self (ob_up d43_44 (ob_at o43).1 (ob_up d42_44 (ob_at o42).1 (ob_up d41_44 (ob_at o41).1 (ob_oth ha o44)))))))) i7 ?_
  refine x_heap (h' := (stt (stt (stt (stt (stt (stt (stt (stt h a (.inr (15, fs))) r41 (.inl (1, n41, .inr (.inl (vp_updL c41 g48.toNatClampNeg ((c12 w0.toNatClampNeg).toInt64)))))) r42 (.inl (1, n42, .inr (.inl (vp_updL c42 g48.toNatClampNeg ((c13 w0.toNatClampNeg).toInt64)))))) r43 (.inl (1, n43, .inr (.inl (vp_updL c43 g48.toNatClampNeg ((c12 w1.toNatClampNeg).toInt64)))))) r44 (.inl (1, n44, .inr (.inl (vp_updL c44 g48.toNatClampNeg ((c13 w1.toNatClampNeg).toInt64)))))) r45 (.inl (0, n45, .inl c45))) r46 (.inl (0, n46, .inl c46))) r47 (.inl (0, n47, .inl c47)))) (by rw [stt_sw (x := r47) (y := r44) d44_47.symm (ob_at o47).1 (ob_at o44).1, stt_sw (x := r46) (y := r44) d44_46.symm (ob_at o46).1 (ob_at o44).1, stt_sw (x := r45) (y := r44) d44_45.symm (ob_at o45).1 (ob_at o44).1, stt_stt (a := r44)]) ?_
  refine x_aload_n (M := M_X12_segment) dX12_segment_64 rfl ?_
  refine x_getf (M := M_X12_segment) (ci := 15) (C := RX12) (T := TX12) (N := 135) (ty := tyX12) cl15 dX12_segment_65 (ob_up (ob_df ha o47).symm (ob_at o47).1 (ob_up (ob_df ha o46).symm (ob_at o46).1 (ob_up (ob_df ha o45).symm (ob_at o45).1 (ob_up (ob_df ha o44).symm (ob_at o44).1 (ob_up (ob_df ha o43).symm (ob_at o43).1 (ob_up (ob_df ha o42).symm (ob_at o42).1 (ob_up (ob_df ha o41).symm (ob_at o41).1 (ob_self ha)))))))) 45 (by decide) t_2436 e45 ?_
  refine x_aload_n (M := M_X12_segment) dX12_segment_68 rfl ?_
  refine x_getf (M := M_X12_segment) (ci := 15) (C := RX12) (T := TX12) (N := 135) (ty := tyX12) cl15 dX12_segment_69 (ob_up (ob_df ha o47).symm (ob_at o47).1 (ob_up (ob_df ha o46).symm (ob_at o46).1 (ob_up (ob_df ha o45).symm (ob_at o45).1 (ob_up (ob_df ha o44).symm (ob_at o44).1 (ob_up (ob_df ha o43).symm (ob_at o43).1 (ob_up (ob_df ha o42).symm (ob_at o42).1 (ob_up (ob_df ha o41).symm (ob_at o41).1 (ob_self ha)))))))) 48 (by decide) t_2439 e48 ?_
  refine x_iload_n (M := M_X12_segment) dX12_segment_72 rfl ?_
  refine x_iast (M := M_X12_segment) dX12_segment_73 (ob_up d45_47.symm (ob_at o47).1 (ob_up d45_46.symm (ob_at o46).1 (ob_self (ob_up d44_45 (ob_at o44).1 (ob_up d43_45 (ob_at o43).1 (ob_up d42_45 (ob_at o42).1 (ob_up d41_45 (ob_at o41).1 (ob_oth ha o45)))))))) i8 ?_
  refine x_heap (h' := (stt (stt (stt (stt (stt (stt (stt (stt h a (.inr (15, fs))) r41 (.inl (1, n41, .inr (.inl (vp_updL c41 g48.toNatClampNeg ((c12 w0.toNatClampNeg).toInt64)))))) r42 (.inl (1, n42, .inr (.inl (vp_updL c42 g48.toNatClampNeg ((c13 w0.toNatClampNeg).toInt64)))))) r43 (.inl (1, n43, .inr (.inl (vp_updL c43 g48.toNatClampNeg ((c12 w1.toNatClampNeg).toInt64)))))) r44 (.inl (1, n44, .inr (.inl (vp_updL c44 g48.toNatClampNeg ((c13 w1.toNatClampNeg).toInt64)))))) r45 (.inl (0, n45, .inl (upd c45 g48.toNatClampNeg w2)))) r46 (.inl (0, n46, .inl c46))) r47 (.inl (0, n47, .inl c47)))) (by rw [stt_sw (x := r47) (y := r45) d45_47.symm (ob_at o47).1 (ob_at o45).1, stt_sw (x := r46) (y := r45) d45_46.symm (ob_at o46).1 (ob_at o45).1, stt_stt (a := r45)]) ?_
  refine x_aload_n (M := M_X12_segment) dX12_segment_74 rfl ?_
  refine x_getf (M := M_X12_segment) (ci := 15) (C := RX12) (T := TX12) (N := 135) (ty := tyX12) cl15 dX12_segment_75 (ob_up (ob_df ha o47).symm (ob_at o47).1 (ob_up (ob_df ha o46).symm (ob_at o46).1 (ob_up (ob_df ha o45).symm (ob_at o45).1 (ob_up (ob_df ha o44).symm (ob_at o44).1 (ob_up (ob_df ha o43).symm (ob_at o43).1 (ob_up (ob_df ha o42).symm (ob_at o42).1 (ob_up (ob_df ha o41).symm (ob_at o41).1 (ob_self ha)))))))) 46 (by decide) t_2437 e46 ?_
  refine x_aload_n (M := M_X12_segment) dX12_segment_78 rfl ?_
  refine x_getf (M := M_X12_segment) (ci := 15) (C := RX12) (T := TX12) (N := 135) (ty := tyX12) cl15 dX12_segment_79 (ob_up (ob_df ha o47).symm (ob_at o47).1 (ob_up (ob_df ha o46).symm (ob_at o46).1 (ob_up (ob_df ha o45).symm (ob_at o45).1 (ob_up (ob_df ha o44).symm (ob_at o44).1 (ob_up (ob_df ha o43).symm (ob_at o43).1 (ob_up (ob_df ha o42).symm (ob_at o42).1 (ob_up (ob_df ha o41).symm (ob_at o41).1 (ob_self ha)))))))) 48 (by decide) t_2439 e48 ?_
  refine x_iload (M := M_X12_segment) dX12_segment_82 rfl ?_
  refine x_iast (M := M_X12_segment) dX12_segment_84 (ob_up d46_47.symm (ob_at o47).1 (ob_self (ob_up d45_46 (ob_at o45).1 (ob_up d44_46 (ob_at o44).1 (ob_up d43_46 (ob_at o43).1 (ob_up d42_46 (ob_at o42).1 (ob_up d41_46 (ob_at o41).1 (ob_oth ha o46)))))))) i9 ?_
  refine x_heap (h' := (stt (stt (stt (stt (stt (stt (stt (stt h a (.inr (15, fs))) r41 (.inl (1, n41, .inr (.inl (vp_updL c41 g48.toNatClampNeg ((c12 w0.toNatClampNeg).toInt64)))))) r42 (.inl (1, n42, .inr (.inl (vp_updL c42 g48.toNatClampNeg ((c13 w0.toNatClampNeg).toInt64)))))) r43 (.inl (1, n43, .inr (.inl (vp_updL c43 g48.toNatClampNeg ((c12 w1.toNatClampNeg).toInt64)))))) r44 (.inl (1, n44, .inr (.inl (vp_updL c44 g48.toNatClampNeg ((c13 w1.toNatClampNeg).toInt64)))))) r45 (.inl (0, n45, .inl (upd c45 g48.toNatClampNeg w2)))) r46 (.inl (0, n46, .inl (upd c46 g48.toNatClampNeg w3)))) r47 (.inl (0, n47, .inl c47)))) (by rw [stt_sw (x := r47) (y := r46) d46_47.symm (ob_at o47).1 (ob_at o46).1, stt_stt (a := r46)]) ?_
  refine x_aload_n (M := M_X12_segment) dX12_segment_85 rfl ?_
  refine x_getf (M := M_X12_segment) (ci := 15) (C := RX12) (T := TX12) (N := 135) (ty := tyX12) cl15 dX12_segment_86 (ob_up (ob_df ha o47).symm (ob_at o47).1 (ob_up (ob_df ha o46).symm (ob_at o46).1 (ob_up (ob_df ha o45).symm (ob_at o45).1 (ob_up (ob_df ha o44).symm (ob_at o44).1 (ob_up (ob_df ha o43).symm (ob_at o43).1 (ob_up (ob_df ha o42).symm (ob_at o42).1 (ob_up (ob_df ha o41).symm (ob_at o41).1 (ob_self ha)))))))) 47 (by decide) t_2438 e47 ?_
  refine x_aload_n (M := M_X12_segment) dX12_segment_89 rfl ?_
  refine x_getf (M := M_X12_segment) (ci := 15) (C := RX12) (T := TX12) (N := 135) (ty := tyX12) cl15 dX12_segment_90 (ob_up (ob_df ha o47).symm (ob_at o47).1 (ob_up (ob_df ha o46).symm (ob_at o46).1 (ob_up (ob_df ha o45).symm (ob_at o45).1 (ob_up (ob_df ha o44).symm (ob_at o44).1 (ob_up (ob_df ha o43).symm (ob_at o43).1 (ob_up (ob_df ha o42).symm (ob_at o42).1 (ob_up (ob_df ha o41).symm (ob_at o41).1 (ob_self ha)))))))) 48 (by decide) t_2439 e48 ?_
  refine x_iload (M := M_X12_segment) dX12_segment_93 rfl ?_
  refine x_iast (M := M_X12_segment) dX12_segment_95 (ob_self (ob_up d46_47 (ob_at o46).1 (ob_up d45_47 (ob_at o45).1 (ob_up d44_47 (ob_at o44).1 (ob_up d43_47 (ob_at o43).1 (ob_up d42_47 (ob_at o42).1 (ob_up d41_47 (ob_at o41).1 (ob_oth ha o47)))))))) i10 ?_
  refine x_heap (h' := (stt (stt (stt (stt (stt (stt (stt (stt h a (.inr (15, fs))) r41 (.inl (1, n41, .inr (.inl (vp_updL c41 g48.toNatClampNeg ((c12 w0.toNatClampNeg).toInt64)))))) r42 (.inl (1, n42, .inr (.inl (vp_updL c42 g48.toNatClampNeg ((c13 w0.toNatClampNeg).toInt64)))))) r43 (.inl (1, n43, .inr (.inl (vp_updL c43 g48.toNatClampNeg ((c12 w1.toNatClampNeg).toInt64)))))) r44 (.inl (1, n44, .inr (.inl (vp_updL c44 g48.toNatClampNeg ((c13 w1.toNatClampNeg).toInt64)))))) r45 (.inl (0, n45, .inl (upd c45 g48.toNatClampNeg w2)))) r46 (.inl (0, n46, .inl (upd c46 g48.toNatClampNeg w3)))) r47 (.inl (0, n47, .inl (upd c47 g48.toNatClampNeg w4))))) (by rw [stt_stt (a := r47)]) ?_
  refine x_aload_n (M := M_X12_segment) dX12_segment_96 rfl ?_
  refine x_dup (M := M_X12_segment) dX12_segment_97 rfl ?_
  refine x_getf (M := M_X12_segment) (ci := 15) (C := RX12) (T := TX12) (N := 135) (ty := tyX12) cl15 dX12_segment_98 (ob_up (ob_df ha o47).symm (ob_at o47).1 (ob_up (ob_df ha o46).symm (ob_at o46).1 (ob_up (ob_df ha o45).symm (ob_at o45).1 (ob_up (ob_df ha o44).symm (ob_at o44).1 (ob_up (ob_df ha o43).symm (ob_at o43).1 (ob_up (ob_df ha o42).symm (ob_at o42).1 (ob_up (ob_df ha o41).symm (ob_at o41).1 (ob_self ha)))))))) 48 (by decide) t_2439 e48 ?_
  refine x_iconst (M := M_X12_segment) dX12_segment_101 ?_
  refine x_iadd (M := M_X12_segment) dX12_segment_102 ?_
  refine x_put (M := M_X12_segment) (ci := 15) (C := RX12) (T := TX12) (N := 135) (ty := tyX12) cl15 dX12_segment_103 (ob_up (ob_df ha o47).symm (ob_at o47).1 (ob_up (ob_df ha o46).symm (ob_at o46).1 (ob_up (ob_df ha o45).symm (ob_at o45).1 (ob_up (ob_df ha o44).symm (ob_at o44).1 (ob_up (ob_df ha o43).symm (ob_at o43).1 (ob_up (ob_df ha o42).symm (ob_at o42).1 (ob_up (ob_df ha o41).symm (ob_at o41).1 (ob_self ha)))))))) 48 (by decide) t_2439 (Or.inl rfl) (by simp only [List.length_set, hn]; decide) rfl ?_
  refine x_heap (h' := (stt (stt (stt (stt (stt (stt (stt (stt h a (.inr (15, (fs.set 48 (.int (g48 + (Int32.ofInt 1))))))) r41 (.inl (1, n41, .inr (.inl (vp_updL c41 g48.toNatClampNeg ((c12 w0.toNatClampNeg).toInt64)))))) r42 (.inl (1, n42, .inr (.inl (vp_updL c42 g48.toNatClampNeg ((c13 w0.toNatClampNeg).toInt64)))))) r43 (.inl (1, n43, .inr (.inl (vp_updL c43 g48.toNatClampNeg ((c12 w1.toNatClampNeg).toInt64)))))) r44 (.inl (1, n44, .inr (.inl (vp_updL c44 g48.toNatClampNeg ((c13 w1.toNatClampNeg).toInt64)))))) r45 (.inl (0, n45, .inl (upd c45 g48.toNatClampNeg w2)))) r46 (.inl (0, n46, .inl (upd c46 g48.toNatClampNeg w3)))) r47 (.inl (0, n47, .inl (upd c47 g48.toNatClampNeg w4))))) (by rw [stt_sw (x := r47) (y := a) (ob_df ha o47).symm (ob_at o47).1 (ob_at ha).1, stt_sw (x := r46) (y := a) (ob_df ha o46).symm (ob_at o46).1 (ob_at ha).1, stt_sw (x := r45) (y := a) (ob_df ha o45).symm (ob_at o45).1 (ob_at ha).1, stt_sw (x := r44) (y := a) (ob_df ha o44).symm (ob_at o44).1 (ob_at ha).1, stt_sw (x := r43) (y := a) (ob_df ha o43).symm (ob_at o43).1 (ob_at ha).1, stt_sw (x := r42) (y := a) (ob_df ha o42).symm (ob_at o42).1 (ob_at ha).1, stt_sw (x := r41) (y := a) (ob_df ha o41).symm (ob_at o41).1 (ob_at ha).1, stt_stt (a := a)]) ?_
  exact x_vret (M := M_X12_segment) dX12_segment_106 rfl ⟨rfl, by rw [F_X12_segment, A41_X12_segment, A42_X12_segment, A43_X12_segment, A44_X12_segment, A45_X12_segment, A46_X12_segment, A47_X12_segment]⟩ (Nat.le_of_ble_eq_true rfl) (Nat.le_of_ble_eq_true rfl)
def f_X12_isAlike (c41 : Nat → Int64) (c42 : Nat → Int64) (c43 : Nat → Int64) (c44 : Nat → Int64) (w0 : Int32) : Int32 := if (lg_cmp (c41 w0.toNatClampNeg) (c43 w0.toNatClampNeg)) = 0 then if (lg_cmp (c42 w0.toNatClampNeg) (c44 w0.toNatClampNeg)) = 0 then (Int32.ofInt 1) else ((Int32.ofInt 0)) else ((Int32.ofInt 0))
theorem b_X12_isAlike (c41 : Nat → Int64) (c42 : Nat → Int64) (c43 : Nat → Int64) (c44 : Nat → Int64) (w0 : Int32) : f_X12_isAlike c41 c42 c43 c44 w0 = 0 ∨ f_X12_isAlike c41 c42 c43 c44 w0 = 1 := (ite01 (ite01 (Or.inr rfl) (Or.inl rfl)) (Or.inl rfl))
theorem p_X12_isAlike {l : Launch} {E : EE} (hl : l.stackTraces = false) {h : HP} {c41 : Nat → Int64} {c42 : Nat → Int64} {c43 : Nat → Int64} {c44 : Nat → Int64} {w0 : Int32} {a : Nat} {fs : List Value} (ha : ob h a = some (.inr (15, fs))) {r41 n41 : Nat} (e41 : fs[41]? = some (.ref r41)) (o41 : ob h r41 = some (.inl (1, n41, .inr (.inl c41)))) {r42 n42 : Nat} (e42 : fs[42]? = some (.ref r42)) (o42 : ob h r42 = some (.inl (1, n42, .inr (.inl c42)))) {r43 n43 : Nat} (e43 : fs[43]? = some (.ref r43)) (o43 : ob h r43 = some (.inl (1, n43, .inr (.inl c43)))) {r44 n44 : Nat} (e44 : fs[44]? = some (.ref r44)) (o44 : ob h r44 = some (.inl (1, n44, .inr (.inl c44)))) (i0 : vp_in w0 n41) (i1 : vp_in w0 n43) (i2 : ((lg_cmp (c41 w0.toNatClampNeg) (c43 w0.toNatClampNeg)) = 0) → vp_in w0 n42) (i3 : ((lg_cmp (c41 w0.toNatClampNeg) (c43 w0.toNatClampNeg)) = 0) → vp_in w0 n44) : en_C l E M_X12_isAlike 0 0 0 [.ref a, .int w0] h (pR (some (.int (f_X12_isAlike c41 c42 c43 c44 w0))) h) := by
  refine en_mk m_X12_isAlike rfl hl (Nat.le_of_ble_eq_true rfl) ?_
  refine x_aload_n (M := M_X12_isAlike) dX12_isAlike_0 rfl ?_
  refine x_getf (M := M_X12_isAlike) (ci := 15) (C := RX12) (T := TX12) (N := 135) (ty := tyX12) cl15 dX12_isAlike_1 ha 41 (by decide) t_2432 e41 ?_
  refine x_iload_n (M := M_X12_isAlike) dX12_isAlike_4 rfl ?_
  refine x_lald (M := M_X12_isAlike) dX12_isAlike_5 o41 i0 ?_
  refine x_aload_n (M := M_X12_isAlike) dX12_isAlike_6 rfl ?_
  refine x_getf (M := M_X12_isAlike) (ci := 15) (C := RX12) (T := TX12) (N := 135) (ty := tyX12) cl15 dX12_isAlike_7 ha 43 (by decide) t_2434 e43 ?_
  refine x_iload_n (M := M_X12_isAlike) dX12_isAlike_10 rfl ?_
  refine x_lald (M := M_X12_isAlike) dX12_isAlike_11 o43 i1 ?_
  refine x_lcmp (M := M_X12_isAlike) dX12_isAlike_12 ?_
  refine x_if_ne (M := M_X12_isAlike) (tgt := 36) dX12_isAlike_13 (by decide) (fun q0 => ?_) (fun q0 => ?_)
  · refine x_iconst (M := M_X12_isAlike) dX12_isAlike_36 ?_
    exact x_zret (M := M_X12_isAlike) dX12_isAlike_37 rfl (Or.inl rfl) ⟨by rw [f_X12_isAlike, if_neg q0], rfl⟩ (Nat.le_of_ble_eq_true rfl) (Nat.le_of_ble_eq_true rfl)
  · refine x_aload_n (M := M_X12_isAlike) dX12_isAlike_16 rfl ?_
    refine x_getf (M := M_X12_isAlike) (ci := 15) (C := RX12) (T := TX12) (N := 135) (ty := tyX12) cl15 dX12_isAlike_17 ha 42 (by decide) t_2433 e42 ?_
    refine x_iload_n (M := M_X12_isAlike) dX12_isAlike_20 rfl ?_
    refine x_lald (M := M_X12_isAlike) dX12_isAlike_21 o42 (i2 q0) ?_
    refine x_aload_n (M := M_X12_isAlike) dX12_isAlike_22 rfl ?_
    refine x_getf (M := M_X12_isAlike) (ci := 15) (C := RX12) (T := TX12) (N := 135) (ty := tyX12) cl15 dX12_isAlike_23 ha 44 (by decide) t_2435 e44 ?_
    refine x_iload_n (M := M_X12_isAlike) dX12_isAlike_26 rfl ?_
    refine x_lald (M := M_X12_isAlike) dX12_isAlike_27 o44 (i3 q0) ?_
    refine x_lcmp (M := M_X12_isAlike) dX12_isAlike_28 ?_
    refine x_if_ne (M := M_X12_isAlike) (tgt := 36) dX12_isAlike_29 (by decide) (fun q1 => ?_) (fun q1 => ?_)
    · refine x_iconst (M := M_X12_isAlike) dX12_isAlike_36 ?_
      exact x_zret (M := M_X12_isAlike) dX12_isAlike_37 rfl (Or.inl rfl) ⟨by rw [f_X12_isAlike, if_pos q0, if_neg q1], rfl⟩ (Nat.le_of_ble_eq_true rfl) (Nat.le_of_ble_eq_true rfl)
    · refine x_iconst (M := M_X12_isAlike) dX12_isAlike_32 ?_
      refine x_goto (M := M_X12_isAlike) (tgt := 37) dX12_isAlike_33 (by decide) ?_
      exact x_zret (M := M_X12_isAlike) dX12_isAlike_37 rfl (Or.inr rfl) ⟨by rw [f_X12_isAlike, if_pos q0, if_pos q1], rfl⟩ (Nat.le_of_ble_eq_true rfl) (Nat.le_of_ble_eq_true rfl)
def F_X12_meetsAt (fs : List Value) (w0 : Int64) (w1 : Int64) : List Value := (((fs.set 49 (.int (Int32.ofInt 0))).set 50 (.long w0)).set 51 (.long w1))
theorem l_X12_meetsAt {fs : List Value} {w0 : Int64} {w1 : Int64} : (F_X12_meetsAt fs w0 w1).length = fs.length := by
  unfold F_X12_meetsAt
  first | rfl | simp only [List.length_set]
theorem k_X12_meetsAt {fs : List Value} {w0 : Int64} {w1 : Int64} {k : Nat} (hk : k ∉ ([49, 50, 51] : List Nat)) : (F_X12_meetsAt fs w0 w1)[k]? = fs[k]? := by
  simp only [List.mem_cons, List.not_mem_nil, or_false, not_or] at hk
  unfold F_X12_meetsAt
  first | rfl | simp only [List.getElem?_set_ne (by omega : 49 ≠ k), List.getElem?_set_ne (by omega : 50 ≠ k), List.getElem?_set_ne (by omega : 51 ≠ k)]
def V49_X12_meetsAt (w0 : Int64) (w1 : Int64) : Int32 := (Int32.ofInt 0)
theorem v49_X12_meetsAt {fs : List Value} {w0 : Int64} {w1 : Int64} (hn : fs.length = 135) : (F_X12_meetsAt fs w0 w1)[49]? = some (.int (V49_X12_meetsAt w0 w1)) := by
  unfold F_X12_meetsAt V49_X12_meetsAt
  exact (gs_ne (by decide) (gs_ne (by decide) (gs_eq (by simp only [List.length_set, hn]; decide))))
def V50_X12_meetsAt (w0 : Int64) (w1 : Int64) : Int64 := w0
theorem v50_X12_meetsAt {fs : List Value} {w0 : Int64} {w1 : Int64} (hn : fs.length = 135) : (F_X12_meetsAt fs w0 w1)[50]? = some (.long (V50_X12_meetsAt w0 w1)) := by
  unfold F_X12_meetsAt V50_X12_meetsAt
  exact (gs_ne (by decide) (gs_eq (by simp only [List.length_set, hn]; decide)))
def V51_X12_meetsAt (w0 : Int64) (w1 : Int64) : Int64 := w1
theorem v51_X12_meetsAt {fs : List Value} {w0 : Int64} {w1 : Int64} (hn : fs.length = 135) : (F_X12_meetsAt fs w0 w1)[51]? = some (.long (V51_X12_meetsAt w0 w1)) := by
  unfold F_X12_meetsAt V51_X12_meetsAt
  exact (gs_eq (by simp only [List.length_set, hn]; decide))
theorem p_X12_meetsAt {l : Launch} {E : EE} (hl : l.stackTraces = false) {h : HP} {w0 : Int64} {w1 : Int64} {a : Nat} {fs : List Value} (ha : ob h a = some (.inr (15, fs))) (hn : fs.length = 135) : en_C l E M_X12_meetsAt 0 0 0 [.ref a, .long w0, .long w1] h (pR none (stt h a (.inr (15, F_X12_meetsAt fs w0 w1)))) := by
  refine en_mk m_X12_meetsAt rfl hl (Nat.le_of_ble_eq_true rfl) ?_
  refine x_heap (h' := (stt h a (.inr (15, fs)))) (by rw [stt_id ha]) ?_
  refine x_aload_n (M := M_X12_meetsAt) dX12_meetsAt_0 rfl ?_
  refine x_iconst (M := M_X12_meetsAt) dX12_meetsAt_1 ?_
  refine x_put (M := M_X12_meetsAt) (ci := 15) (C := RX12) (T := TX12) (N := 135) (ty := tyX12) cl15 dX12_meetsAt_2 (ob_self ha) 49 (by decide) t_2440 (Or.inl rfl) (by simp only [List.length_set, hn]; decide) rfl ?_
  refine x_heap (h' := (stt h a (.inr (15, (fs.set 49 (.int (Int32.ofInt 0))))))) (by rw [stt_stt (a := a)]) ?_
  refine x_aload_n (M := M_X12_meetsAt) dX12_meetsAt_5 rfl ?_
  refine x_lload_n (M := M_X12_meetsAt) dX12_meetsAt_6 rfl ?_
  refine x_put (M := M_X12_meetsAt) (ci := 15) (C := RX12) (T := TX12) (N := 135) (ty := tyX12) cl15 dX12_meetsAt_7 (ob_self ha) 50 (by decide) t_2441 (Or.inl rfl) (by simp only [List.length_set, hn]; decide) rfl ?_
  refine x_heap (h' := (stt h a (.inr (15, ((fs.set 49 (.int (Int32.ofInt 0))).set 50 (.long w0)))))) (by rw [stt_stt (a := a)]) ?_
  refine x_aload_n (M := M_X12_meetsAt) dX12_meetsAt_10 rfl ?_
  refine x_lload_n (M := M_X12_meetsAt) dX12_meetsAt_11 rfl ?_
  refine x_put (M := M_X12_meetsAt) (ci := 15) (C := RX12) (T := TX12) (N := 135) (ty := tyX12) cl15 dX12_meetsAt_12 (ob_self ha) 51 (by decide) t_2442 (Or.inl rfl) (by simp only [List.length_set, hn]; decide) rfl ?_
  refine x_heap (h' := (stt h a (.inr (15, (((fs.set 49 (.int (Int32.ofInt 0))).set 50 (.long w0)).set 51 (.long w1)))))) (by rw [stt_stt (a := a)]) ?_
  exact x_vret (M := M_X12_meetsAt) dX12_meetsAt_15 rfl ⟨rfl, by rw [F_X12_meetsAt]⟩ (Nat.le_of_ble_eq_true rfl) (Nat.le_of_ble_eq_true rfl)
def f_X12_isBefore (w0 : Int64) (w1 : Int64) (w2 : Int64) (w3 : Int64) : Int32 := if (lg_cmp w0 w2) < 0 then (Int32.ofInt 1) else (if (lg_cmp w0 w2) = 0 then if 0 ≤ (lg_cmp w1 w3) then (Int32.ofInt 0) else ((Int32.ofInt 1)) else ((Int32.ofInt 0)))
theorem b_X12_isBefore (w0 : Int64) (w1 : Int64) (w2 : Int64) (w3 : Int64) : f_X12_isBefore w0 w1 w2 w3 = 0 ∨ f_X12_isBefore w0 w1 w2 w3 = 1 := (ite01 (Or.inr rfl) (ite01 (ite01 (Or.inl rfl) (Or.inr rfl)) (Or.inl rfl)))
theorem p_X12_isBefore {l : Launch} {E : EE} (hl : l.stackTraces = false) {h : HP} {w0 : Int64} {w1 : Int64} {w2 : Int64} {w3 : Int64} : en_C l E M_X12_isBefore 0 0 0 [.long w0, .long w1, .long w2, .long w3] h (pR (some (.int (f_X12_isBefore w0 w1 w2 w3))) h) := by
  refine en_mk m_X12_isBefore rfl hl (Nat.le_of_ble_eq_true rfl) ?_
  refine x_lload_n (M := M_X12_isBefore) dX12_isBefore_0 rfl ?_
  refine x_lload (M := M_X12_isBefore) dX12_isBefore_1 rfl ?_
  refine x_lcmp (M := M_X12_isBefore) dX12_isBefore_3 ?_
  refine x_if_lt (M := M_X12_isBefore) (tgt := 21) dX12_isBefore_4 (by decide) (fun q0 => ?_) (fun q0 => ?_)
  · refine x_iconst (M := M_X12_isBefore) dX12_isBefore_21 ?_
    refine x_goto (M := M_X12_isBefore) (tgt := 26) dX12_isBefore_22 (by decide) ?_
    exact x_zret (M := M_X12_isBefore) dX12_isBefore_26 rfl (Or.inr rfl) ⟨by rw [f_X12_isBefore, if_pos q0], rfl⟩ (Nat.le_of_ble_eq_true rfl) (Nat.le_of_ble_eq_true rfl)
  · refine x_lload_n (M := M_X12_isBefore) dX12_isBefore_7 rfl ?_
    refine x_lload (M := M_X12_isBefore) dX12_isBefore_8 rfl ?_
    refine x_lcmp (M := M_X12_isBefore) dX12_isBefore_10 ?_
    refine x_if_ne (M := M_X12_isBefore) (tgt := 25) dX12_isBefore_11 (by decide) (fun q1 => ?_) (fun q1 => ?_)
    · refine x_iconst (M := M_X12_isBefore) dX12_isBefore_25 ?_
      exact x_zret (M := M_X12_isBefore) dX12_isBefore_26 rfl (Or.inl rfl) ⟨by rw [f_X12_isBefore, if_neg q0, if_neg q1], rfl⟩ (Nat.le_of_ble_eq_true rfl) (Nat.le_of_ble_eq_true rfl)
    · refine x_lload_n (M := M_X12_isBefore) dX12_isBefore_14 rfl ?_
      refine x_lload (M := M_X12_isBefore) dX12_isBefore_15 rfl ?_
      refine x_lcmp (M := M_X12_isBefore) dX12_isBefore_17 ?_
      refine x_if_ge (M := M_X12_isBefore) (tgt := 25) dX12_isBefore_18 (by decide) (fun q2 => ?_) (fun q2 => ?_)
      · refine x_iconst (M := M_X12_isBefore) dX12_isBefore_25 ?_
        exact x_zret (M := M_X12_isBefore) dX12_isBefore_26 rfl (Or.inl rfl) ⟨by rw [f_X12_isBefore, if_neg q0, if_pos q1, if_pos q2], rfl⟩ (Nat.le_of_ble_eq_true rfl) (Nat.le_of_ble_eq_true rfl)
      · refine x_iconst (M := M_X12_isBefore) dX12_isBefore_21 ?_
        refine x_goto (M := M_X12_isBefore) (tgt := 26) dX12_isBefore_22 (by decide) ?_
        exact x_zret (M := M_X12_isBefore) dX12_isBefore_26 rfl (Or.inr rfl) ⟨by rw [f_X12_isBefore, if_neg q0, if_pos q1, if_neg q2], rfl⟩ (Nat.le_of_ble_eq_true rfl) (Nat.le_of_ble_eq_true rfl)
def f_X12_isOn (c41 : Nat → Int64) (c42 : Nat → Int64) (c43 : Nat → Int64) (c44 : Nat → Int64) (w0 : Int32) (w1 : Int64) (w2 : Int64) : Int32 := if (f_X12_turn (c41 w0.toNatClampNeg) (c42 w0.toNatClampNeg) (c43 w0.toNatClampNeg) (c44 w0.toNatClampNeg) w1 w2) = 0 then if 0 ≤ (lg_cmp (c41 w0.toNatClampNeg) (c43 w0.toNatClampNeg)) then if 0 ≤ (lg_cmp (c42 w0.toNatClampNeg) (c44 w0.toNatClampNeg)) then if (f_X12_in w1 (c43 w0.toNatClampNeg) (c41 w0.toNatClampNeg)) = 0 then (Int32.ofInt 0) else (if (f_X12_in w2 (c44 w0.toNatClampNeg) (c42 w0.toNatClampNeg)) = 0 then (Int32.ofInt 0) else ((Int32.ofInt 1))) else (if (f_X12_in w1 (c43 w0.toNatClampNeg) (c41 w0.toNatClampNeg)) = 0 then (Int32.ofInt 0) else (if (f_X12_in w2 (c42 w0.toNatClampNeg) (c44 w0.toNatClampNeg)) = 0 then (Int32.ofInt 0) else ((Int32.ofInt 1)))) else (if 0 ≤ (lg_cmp (c42 w0.toNatClampNeg) (c44 w0.toNatClampNeg)) then if (f_X12_in w1 (c41 w0.toNatClampNeg) (c43 w0.toNatClampNeg)) = 0 then (Int32.ofInt 0) else (if (f_X12_in w2 (c44 w0.toNatClampNeg) (c42 w0.toNatClampNeg)) = 0 then (Int32.ofInt 0) else ((Int32.ofInt 1))) else (if (f_X12_in w1 (c41 w0.toNatClampNeg) (c43 w0.toNatClampNeg)) = 0 then (Int32.ofInt 0) else (if (f_X12_in w2 (c42 w0.toNatClampNeg) (c44 w0.toNatClampNeg)) = 0 then (Int32.ofInt 0) else ((Int32.ofInt 1))))) else ((Int32.ofInt 0))
theorem b_X12_isOn (c41 : Nat → Int64) (c42 : Nat → Int64) (c43 : Nat → Int64) (c44 : Nat → Int64) (w0 : Int32) (w1 : Int64) (w2 : Int64) : f_X12_isOn c41 c42 c43 c44 w0 w1 w2 = 0 ∨ f_X12_isOn c41 c42 c43 c44 w0 w1 w2 = 1 := (ite01 (ite01 (ite01 (ite01 (Or.inl rfl) (ite01 (Or.inl rfl) (Or.inr rfl))) (ite01 (Or.inl rfl) (ite01 (Or.inl rfl) (Or.inr rfl)))) (ite01 (ite01 (Or.inl rfl) (ite01 (Or.inl rfl) (Or.inr rfl))) (ite01 (Or.inl rfl) (ite01 (Or.inl rfl) (Or.inr rfl))))) (Or.inl rfl))
set_option maxHeartbeats 8000000 in
set_option maxRecDepth 20000 in
theorem p_X12_isOn {l : Launch} {E : EE} (hl : l.stackTraces = false) {h : HP} {c41 : Nat → Int64} {c42 : Nat → Int64} {c43 : Nat → Int64} {c44 : Nat → Int64} {w0 : Int32} {w1 : Int64} {w2 : Int64} {a : Nat} {fs : List Value} (ha : ob h a = some (.inr (15, fs))) {r41 n41 : Nat} (e41 : fs[41]? = some (.ref r41)) (o41 : ob h r41 = some (.inl (1, n41, .inr (.inl c41)))) {r42 n42 : Nat} (e42 : fs[42]? = some (.ref r42)) (o42 : ob h r42 = some (.inl (1, n42, .inr (.inl c42)))) {r43 n43 : Nat} (e43 : fs[43]? = some (.ref r43)) (o43 : ob h r43 = some (.inl (1, n43, .inr (.inl c43)))) {r44 n44 : Nat} (e44 : fs[44]? = some (.ref r44)) (o44 : ob h r44 = some (.inl (1, n44, .inr (.inl c44)))) (i0 : vp_in w0 n41) (i1 : vp_in w0 n42) (i2 : vp_in w0 n43) (i3 : vp_in w0 n44) (i4 : ((f_X12_turn (c41 w0.toNatClampNeg) (c42 w0.toNatClampNeg) (c43 w0.toNatClampNeg) (c44 w0.toNatClampNeg) w1 w2) = 0) → vp_in w0 n41) (i5 : ((f_X12_turn (c41 w0.toNatClampNeg) (c42 w0.toNatClampNeg) (c43 w0.toNatClampNeg) (c44 w0.toNatClampNeg) w1 w2) = 0) → vp_in w0 n43) (i6 : ((f_X12_turn (c41 w0.toNatClampNeg) (c42 w0.toNatClampNeg) (c43 w0.toNatClampNeg) (c44 w0.toNatClampNeg) w1 w2) = 0) → (0 ≤ (lg_cmp (c41 w0.toNatClampNeg) (c43 w0.toNatClampNeg))) → vp_in w0 n43) (i7 : ((f_X12_turn (c41 w0.toNatClampNeg) (c42 w0.toNatClampNeg) (c43 w0.toNatClampNeg) (c44 w0.toNatClampNeg) w1 w2) = 0) → (0 ≤ (lg_cmp (c41 w0.toNatClampNeg) (c43 w0.toNatClampNeg))) → vp_in w0 n41) (i8 : ((f_X12_turn (c41 w0.toNatClampNeg) (c42 w0.toNatClampNeg) (c43 w0.toNatClampNeg) (c44 w0.toNatClampNeg) w1 w2) = 0) → (0 ≤ (lg_cmp (c41 w0.toNatClampNeg) (c43 w0.toNatClampNeg))) → vp_in w0 n42) (i9 : ((f_X12_turn (c41 w0.toNatClampNeg) (c42 w0.toNatClampNeg) (c43 w0.toNatClampNeg) (c44 w0.toNatClampNeg) w1 w2) = 0) → (0 ≤ (lg_cmp (c41 w0.toNatClampNeg) (c43 w0.toNatClampNeg))) → vp_in w0 n44) (i10 : ((f_X12_turn (c41 w0.toNatClampNeg) (c42 w0.toNatClampNeg) (c43 w0.toNatClampNeg) (c44 w0.toNatClampNeg) w1 w2) = 0) → (0 ≤ (lg_cmp (c41 w0.toNatClampNeg) (c43 w0.toNatClampNeg))) → (0 ≤ (lg_cmp (c42 w0.toNatClampNeg) (c44 w0.toNatClampNeg))) → vp_in w0 n44) (i11 : ((f_X12_turn (c41 w0.toNatClampNeg) (c42 w0.toNatClampNeg) (c43 w0.toNatClampNeg) (c44 w0.toNatClampNeg) w1 w2) = 0) → (0 ≤ (lg_cmp (c41 w0.toNatClampNeg) (c43 w0.toNatClampNeg))) → (0 ≤ (lg_cmp (c42 w0.toNatClampNeg) (c44 w0.toNatClampNeg))) → vp_in w0 n42) (i12 : ((f_X12_turn (c41 w0.toNatClampNeg) (c42 w0.toNatClampNeg) (c43 w0.toNatClampNeg) (c44 w0.toNatClampNeg) w1 w2) = 0) → (0 ≤ (lg_cmp (c41 w0.toNatClampNeg) (c43 w0.toNatClampNeg))) → (¬ 0 ≤ (lg_cmp (c42 w0.toNatClampNeg) (c44 w0.toNatClampNeg))) → vp_in w0 n42) (i13 : ((f_X12_turn (c41 w0.toNatClampNeg) (c42 w0.toNatClampNeg) (c43 w0.toNatClampNeg) (c44 w0.toNatClampNeg) w1 w2) = 0) → (0 ≤ (lg_cmp (c41 w0.toNatClampNeg) (c43 w0.toNatClampNeg))) → (¬ 0 ≤ (lg_cmp (c42 w0.toNatClampNeg) (c44 w0.toNatClampNeg))) → vp_in w0 n44) (i14 : ((f_X12_turn (c41 w0.toNatClampNeg) (c42 w0.toNatClampNeg) (c43 w0.toNatClampNeg) (c44 w0.toNatClampNeg) w1 w2) = 0) → (¬ 0 ≤ (lg_cmp (c41 w0.toNatClampNeg) (c43 w0.toNatClampNeg))) → vp_in w0 n41) (i15 : ((f_X12_turn (c41 w0.toNatClampNeg) (c42 w0.toNatClampNeg) (c43 w0.toNatClampNeg) (c44 w0.toNatClampNeg) w1 w2) = 0) → (¬ 0 ≤ (lg_cmp (c41 w0.toNatClampNeg) (c43 w0.toNatClampNeg))) → vp_in w0 n43) (i16 : ((f_X12_turn (c41 w0.toNatClampNeg) (c42 w0.toNatClampNeg) (c43 w0.toNatClampNeg) (c44 w0.toNatClampNeg) w1 w2) = 0) → (¬ 0 ≤ (lg_cmp (c41 w0.toNatClampNeg) (c43 w0.toNatClampNeg))) → vp_in w0 n42) (i17 : ((f_X12_turn (c41 w0.toNatClampNeg) (c42 w0.toNatClampNeg) (c43 w0.toNatClampNeg) (c44 w0.toNatClampNeg) w1 w2) = 0) → (¬ 0 ≤ (lg_cmp (c41 w0.toNatClampNeg) (c43 w0.toNatClampNeg))) → vp_in w0 n44) (i18 : ((f_X12_turn (c41 w0.toNatClampNeg) (c42 w0.toNatClampNeg) (c43 w0.toNatClampNeg) (c44 w0.toNatClampNeg) w1 w2) = 0) → (¬ 0 ≤ (lg_cmp (c41 w0.toNatClampNeg) (c43 w0.toNatClampNeg))) → (0 ≤ (lg_cmp (c42 w0.toNatClampNeg) (c44 w0.toNatClampNeg))) → vp_in w0 n44) (i19 : ((f_X12_turn (c41 w0.toNatClampNeg) (c42 w0.toNatClampNeg) (c43 w0.toNatClampNeg) (c44 w0.toNatClampNeg) w1 w2) = 0) → (¬ 0 ≤ (lg_cmp (c41 w0.toNatClampNeg) (c43 w0.toNatClampNeg))) → (0 ≤ (lg_cmp (c42 w0.toNatClampNeg) (c44 w0.toNatClampNeg))) → vp_in w0 n42) (i20 : ((f_X12_turn (c41 w0.toNatClampNeg) (c42 w0.toNatClampNeg) (c43 w0.toNatClampNeg) (c44 w0.toNatClampNeg) w1 w2) = 0) → (¬ 0 ≤ (lg_cmp (c41 w0.toNatClampNeg) (c43 w0.toNatClampNeg))) → (¬ 0 ≤ (lg_cmp (c42 w0.toNatClampNeg) (c44 w0.toNatClampNeg))) → vp_in w0 n42) (i21 : ((f_X12_turn (c41 w0.toNatClampNeg) (c42 w0.toNatClampNeg) (c43 w0.toNatClampNeg) (c44 w0.toNatClampNeg) w1 w2) = 0) → (¬ 0 ≤ (lg_cmp (c41 w0.toNatClampNeg) (c43 w0.toNatClampNeg))) → (¬ 0 ≤ (lg_cmp (c42 w0.toNatClampNeg) (c44 w0.toNatClampNeg))) → vp_in w0 n44) : en_C l E M_X12_isOn 2 0 0 [.ref a, .int w0, .long w1, .long w2] h (pR (some (.int (f_X12_isOn c41 c42 c43 c44 w0 w1 w2))) h) := by
  refine en_mk m_X12_isOn rfl hl (Nat.le_of_ble_eq_true rfl) ?_
  refine x_aload_n (M := M_X12_isOn) dX12_isOn_0 rfl ?_
  refine x_getf (M := M_X12_isOn) (ci := 15) (C := RX12) (T := TX12) (N := 135) (ty := tyX12) cl15 dX12_isOn_1 ha 41 (by decide) t_2432 e41 ?_
  refine x_iload_n (M := M_X12_isOn) dX12_isOn_4 rfl ?_
  refine x_lald (M := M_X12_isOn) dX12_isOn_5 o41 i0 ?_
  refine x_aload_n (M := M_X12_isOn) dX12_isOn_6 rfl ?_
  refine x_getf (M := M_X12_isOn) (ci := 15) (C := RX12) (T := TX12) (N := 135) (ty := tyX12) cl15 dX12_isOn_7 ha 42 (by decide) t_2433 e42 ?_
  refine x_iload_n (M := M_X12_isOn) dX12_isOn_10 rfl ?_
  refine x_lald (M := M_X12_isOn) dX12_isOn_11 o42 i1 ?_
  refine x_aload_n (M := M_X12_isOn) dX12_isOn_12 rfl ?_
  refine x_getf (M := M_X12_isOn) (ci := 15) (C := RX12) (T := TX12) (N := 135) (ty := tyX12) cl15 dX12_isOn_13 ha 43 (by decide) t_2434 e43 ?_
  refine x_iload_n (M := M_X12_isOn) dX12_isOn_16 rfl ?_
  refine x_lald (M := M_X12_isOn) dX12_isOn_17 o43 i2 ?_
  refine x_aload_n (M := M_X12_isOn) dX12_isOn_18 rfl ?_
  refine x_getf (M := M_X12_isOn) (ci := 15) (C := RX12) (T := TX12) (N := 135) (ty := tyX12) cl15 dX12_isOn_19 ha 44 (by decide) t_2435 e44 ?_
  refine x_iload_n (M := M_X12_isOn) dX12_isOn_22 rfl ?_
  refine x_lald (M := M_X12_isOn) dX12_isOn_23 o44 i3 ?_
  refine x_lload_n (M := M_X12_isOn) dX12_isOn_24 rfl ?_
  refine x_lload (M := M_X12_isOn) dX12_isOn_25 rfl ?_
  refine x_callSR (M := M_X12_isOn) (M' := M_X12_turn) rfl rfl dX12_isOn_27 m_X12_turn t_3262 t_3263 (p_X12_turn hl) rfl rfl (Nat.le_of_ble_eq_true rfl) (Nat.le_of_ble_eq_true rfl) (Nat.le_of_ble_eq_true rfl) (Nat.le_of_ble_eq_true rfl) ?_
  refine x_if_eq (M := M_X12_isOn) (tgt := 35) dX12_isOn_30 (by decide) (fun q0 => ?_) (fun q0 => ?_)
  · refine x_aload_n (M := M_X12_isOn) dX12_isOn_35 rfl ?_
    refine x_getf (M := M_X12_isOn) (ci := 15) (C := RX12) (T := TX12) (N := 135) (ty := tyX12) cl15 dX12_isOn_36 ha 41 (by decide) t_2432 e41 ?_
    refine x_iload_n (M := M_X12_isOn) dX12_isOn_39 rfl ?_
    refine x_lald (M := M_X12_isOn) dX12_isOn_40 o41 (i4 q0) ?_
    refine x_aload_n (M := M_X12_isOn) dX12_isOn_41 rfl ?_
    refine x_getf (M := M_X12_isOn) (ci := 15) (C := RX12) (T := TX12) (N := 135) (ty := tyX12) cl15 dX12_isOn_42 ha 43 (by decide) t_2434 e43 ?_
    refine x_iload_n (M := M_X12_isOn) dX12_isOn_45 rfl ?_
    refine x_lald (M := M_X12_isOn) dX12_isOn_46 o43 (i5 q0) ?_
    refine x_lcmp (M := M_X12_isOn) dX12_isOn_47 ?_
    refine x_if_ge (M := M_X12_isOn) (tgt := 70) dX12_isOn_48 (by decide) (fun q1 => ?_) (fun q1 => ?_)
    · refine x_lload_n (M := M_X12_isOn) dX12_isOn_70 rfl ?_
      refine x_aload_n (M := M_X12_isOn) dX12_isOn_71 rfl ?_
      refine x_getf (M := M_X12_isOn) (ci := 15) (C := RX12) (T := TX12) (N := 135) (ty := tyX12) cl15 dX12_isOn_72 ha 43 (by decide) t_2434 e43 ?_
      refine x_iload_n (M := M_X12_isOn) dX12_isOn_75 rfl ?_
      refine x_lald (M := M_X12_isOn) dX12_isOn_76 o43 (i6 q0 q1) ?_
      refine x_aload_n (M := M_X12_isOn) dX12_isOn_77 rfl ?_
      refine x_getf (M := M_X12_isOn) (ci := 15) (C := RX12) (T := TX12) (N := 135) (ty := tyX12) cl15 dX12_isOn_78 ha 41 (by decide) t_2432 e41 ?_
      refine x_iload_n (M := M_X12_isOn) dX12_isOn_81 rfl ?_
      refine x_lald (M := M_X12_isOn) dX12_isOn_82 o41 (i7 q0 q1) ?_
      refine x_callSR (M := M_X12_isOn) (M' := M_X12_in) rfl rfl dX12_isOn_83 m_X12_in t_2818 t_2819 (p_X12_in hl) rfl rfl (Nat.le_of_ble_eq_true rfl) (Nat.le_of_ble_eq_true rfl) (Nat.le_of_ble_eq_true rfl) (Nat.le_of_ble_eq_true rfl) ?_
      refine x_istore (M := M_X12_isOn) dX12_isOn_86 (by decide) rfl ?_
      refine x_norm (lv' := [some (.ref a), some (.int w0), some (.long w1), none, some (.long w2), none, some (.int (f_X12_in w1 (c43 w0.toNatClampNeg) (c41 w0.toNatClampNeg))), none]) rfl rfl rfl rfl rfl ?_
      refine x_aload_n (M := M_X12_isOn) dX12_isOn_88 rfl ?_
      refine x_getf (M := M_X12_isOn) (ci := 15) (C := RX12) (T := TX12) (N := 135) (ty := tyX12) cl15 dX12_isOn_89 ha 42 (by decide) t_2433 e42 ?_
      refine x_iload_n (M := M_X12_isOn) dX12_isOn_92 rfl ?_
      refine x_lald (M := M_X12_isOn) dX12_isOn_93 o42 (i8 q0 q1) ?_
      refine x_aload_n (M := M_X12_isOn) dX12_isOn_94 rfl ?_
      refine x_getf (M := M_X12_isOn) (ci := 15) (C := RX12) (T := TX12) (N := 135) (ty := tyX12) cl15 dX12_isOn_95 ha 44 (by decide) t_2435 e44 ?_
      refine x_iload_n (M := M_X12_isOn) dX12_isOn_98 rfl ?_
      refine x_lald (M := M_X12_isOn) dX12_isOn_99 o44 (i9 q0 q1) ?_
      refine x_lcmp (M := M_X12_isOn) dX12_isOn_100 ?_
      refine x_if_ge (M := M_X12_isOn) (tgt := 124) dX12_isOn_101 (by decide) (fun q2 => ?_) (fun q2 => ?_)
      · refine x_lload (M := M_X12_isOn) dX12_isOn_124 rfl ?_
        refine x_aload_n (M := M_X12_isOn) dX12_isOn_126 rfl ?_
        refine x_getf (M := M_X12_isOn) (ci := 15) (C := RX12) (T := TX12) (N := 135) (ty := tyX12) cl15 dX12_isOn_127 ha 44 (by decide) t_2435 e44 ?_
        refine x_iload_n (M := M_X12_isOn) dX12_isOn_130 rfl ?_
        refine x_lald (M := M_X12_isOn) dX12_isOn_131 o44 (i10 q0 q1 q2) ?_
        refine x_aload_n (M := M_X12_isOn) dX12_isOn_132 rfl ?_
        refine x_getf (M := M_X12_isOn) (ci := 15) (C := RX12) (T := TX12) (N := 135) (ty := tyX12) cl15 dX12_isOn_133 ha 42 (by decide) t_2433 e42 ?_
        refine x_iload_n (M := M_X12_isOn) dX12_isOn_136 rfl ?_
        refine x_lald (M := M_X12_isOn) dX12_isOn_137 o42 (i11 q0 q1 q2) ?_
        refine x_callSR (M := M_X12_isOn) (M' := M_X12_in) rfl rfl dX12_isOn_138 m_X12_in t_2818 t_2819 (p_X12_in hl) rfl rfl (Nat.le_of_ble_eq_true rfl) (Nat.le_of_ble_eq_true rfl) (Nat.le_of_ble_eq_true rfl) (Nat.le_of_ble_eq_true rfl) ?_
        refine x_istore (M := M_X12_isOn) dX12_isOn_141 (by decide) rfl ?_
        refine x_norm (lv' := [some (.ref a), some (.int w0), some (.long w1), none, some (.long w2), none, some (.int (f_X12_in w1 (c43 w0.toNatClampNeg) (c41 w0.toNatClampNeg))), some (.int (f_X12_in w2 (c44 w0.toNatClampNeg) (c42 w0.toNatClampNeg)))]) rfl rfl rfl rfl rfl ?_
        refine x_iload (M := M_X12_isOn) dX12_isOn_143 rfl ?_
        refine x_if_eq (M := M_X12_isOn) (tgt := 157) dX12_isOn_145 (by decide) (fun q3 => ?_) (fun q3 => ?_)
        · refine x_iconst (M := M_X12_isOn) dX12_isOn_157 ?_
          exact x_zret (M := M_X12_isOn) dX12_isOn_158 rfl (Or.inl rfl) ⟨by rw [f_X12_isOn, if_pos q0, if_pos q1, if_pos q2, if_pos q3], rfl⟩ (Nat.le_of_ble_eq_true rfl) (Nat.le_of_ble_eq_true rfl)
        · refine x_iload (M := M_X12_isOn) dX12_isOn_148 rfl ?_
          refine x_if_eq (M := M_X12_isOn) (tgt := 157) dX12_isOn_150 (by decide) (fun q4 => ?_) (fun q4 => ?_)
          · refine x_iconst (M := M_X12_isOn) dX12_isOn_157 ?_
            exact x_zret (M := M_X12_isOn) dX12_isOn_158 rfl (Or.inl rfl) ⟨by rw [f_X12_isOn, if_pos q0, if_pos q1, if_pos q2, if_neg q3, if_pos q4], rfl⟩ (Nat.le_of_ble_eq_true rfl) (Nat.le_of_ble_eq_true rfl)
          · refine x_iconst (M := M_X12_isOn) dX12_isOn_153 ?_
            refine x_goto (M := M_X12_isOn) (tgt := 158) dX12_isOn_154 (by decide) ?_
            exact x_zret (M := M_X12_isOn) dX12_isOn_158 rfl (Or.inr rfl) ⟨by rw [f_X12_isOn, if_pos q0, if_pos q1, if_pos q2, if_neg q3, if_neg q4], rfl⟩ (Nat.le_of_ble_eq_true rfl) (Nat.le_of_ble_eq_true rfl)
      · refine x_lload (M := M_X12_isOn) dX12_isOn_104 rfl ?_
        refine x_aload_n (M := M_X12_isOn) dX12_isOn_106 rfl ?_
        refine x_getf (M := M_X12_isOn) (ci := 15) (C := RX12) (T := TX12) (N := 135) (ty := tyX12) cl15 dX12_isOn_107 ha 42 (by decide) t_2433 e42 ?_
        refine x_iload_n (M := M_X12_isOn) dX12_isOn_110 rfl ?_
        refine x_lald (M := M_X12_isOn) dX12_isOn_111 o42 (i12 q0 q1 q2) ?_
        refine x_aload_n (M := M_X12_isOn) dX12_isOn_112 rfl ?_
        refine x_getf (M := M_X12_isOn) (ci := 15) (C := RX12) (T := TX12) (N := 135) (ty := tyX12) cl15 dX12_isOn_113 ha 44 (by decide) t_2435 e44 ?_
        refine x_iload_n (M := M_X12_isOn) dX12_isOn_116 rfl ?_
        refine x_lald (M := M_X12_isOn) dX12_isOn_117 o44 (i13 q0 q1 q2) ?_
        refine x_callSR (M := M_X12_isOn) (M' := M_X12_in) rfl rfl dX12_isOn_118 m_X12_in t_2818 t_2819 (p_X12_in hl) rfl rfl (Nat.le_of_ble_eq_true rfl) (Nat.le_of_ble_eq_true rfl) (Nat.le_of_ble_eq_true rfl) (Nat.le_of_ble_eq_true rfl) ?_
        refine x_goto (M := M_X12_isOn) (tgt := 141) dX12_isOn_121 (by decide) ?_
        refine x_istore (M := M_X12_isOn) dX12_isOn_141 (by decide) rfl ?_
        refine x_norm (lv' := [some (.ref a), some (.int w0), some (.long w1), none, some (.long w2), none, some (.int (f_X12_in w1 (c43 w0.toNatClampNeg) (c41 w0.toNatClampNeg))), some (.int (f_X12_in w2 (c42 w0.toNatClampNeg) (c44 w0.toNatClampNeg)))]) rfl rfl rfl rfl rfl ?_
        refine x_iload (M := M_X12_isOn) dX12_isOn_143 rfl ?_
        refine x_if_eq (M := M_X12_isOn) (tgt := 157) dX12_isOn_145 (by decide) (fun q3 => ?_) (fun q3 => ?_)
        · refine x_iconst (M := M_X12_isOn) dX12_isOn_157 ?_
          exact x_zret (M := M_X12_isOn) dX12_isOn_158 rfl (Or.inl rfl) ⟨by rw [f_X12_isOn, if_pos q0, if_pos q1, if_neg q2, if_pos q3], rfl⟩ (Nat.le_of_ble_eq_true rfl) (Nat.le_of_ble_eq_true rfl)
        · refine x_iload (M := M_X12_isOn) dX12_isOn_148 rfl ?_
          refine x_if_eq (M := M_X12_isOn) (tgt := 157) dX12_isOn_150 (by decide) (fun q4 => ?_) (fun q4 => ?_)
          · refine x_iconst (M := M_X12_isOn) dX12_isOn_157 ?_
            exact x_zret (M := M_X12_isOn) dX12_isOn_158 rfl (Or.inl rfl) ⟨by rw [f_X12_isOn, if_pos q0, if_pos q1, if_neg q2, if_neg q3, if_pos q4], rfl⟩ (Nat.le_of_ble_eq_true rfl) (Nat.le_of_ble_eq_true rfl)
          · refine x_iconst (M := M_X12_isOn) dX12_isOn_153 ?_
            refine x_goto (M := M_X12_isOn) (tgt := 158) dX12_isOn_154 (by decide) ?_
            exact x_zret (M := M_X12_isOn) dX12_isOn_158 rfl (Or.inr rfl) ⟨by rw [f_X12_isOn, if_pos q0, if_pos q1, if_neg q2, if_neg q3, if_neg q4], rfl⟩ (Nat.le_of_ble_eq_true rfl) (Nat.le_of_ble_eq_true rfl)
    · refine x_lload_n (M := M_X12_isOn) dX12_isOn_51 rfl ?_
      refine x_aload_n (M := M_X12_isOn) dX12_isOn_52 rfl ?_
      refine x_getf (M := M_X12_isOn) (ci := 15) (C := RX12) (T := TX12) (N := 135) (ty := tyX12) cl15 dX12_isOn_53 ha 41 (by decide) t_2432 e41 ?_
      refine x_iload_n (M := M_X12_isOn) dX12_isOn_56 rfl ?_
      refine x_lald (M := M_X12_isOn) dX12_isOn_57 o41 (i14 q0 q1) ?_
      refine x_aload_n (M := M_X12_isOn) dX12_isOn_58 rfl ?_
      refine x_getf (M := M_X12_isOn) (ci := 15) (C := RX12) (T := TX12) (N := 135) (ty := tyX12) cl15 dX12_isOn_59 ha 43 (by decide) t_2434 e43 ?_
      refine x_iload_n (M := M_X12_isOn) dX12_isOn_62 rfl ?_
      refine x_lald (M := M_X12_isOn) dX12_isOn_63 o43 (i15 q0 q1) ?_
      refine x_callSR (M := M_X12_isOn) (M' := M_X12_in) rfl rfl dX12_isOn_64 m_X12_in t_2818 t_2819 (p_X12_in hl) rfl rfl (Nat.le_of_ble_eq_true rfl) (Nat.le_of_ble_eq_true rfl) (Nat.le_of_ble_eq_true rfl) (Nat.le_of_ble_eq_true rfl) ?_
      refine x_goto (M := M_X12_isOn) (tgt := 86) dX12_isOn_67 (by decide) ?_
      refine x_istore (M := M_X12_isOn) dX12_isOn_86 (by decide) rfl ?_
      refine x_norm (lv' := [some (.ref a), some (.int w0), some (.long w1), none, some (.long w2), none, some (.int (f_X12_in w1 (c41 w0.toNatClampNeg) (c43 w0.toNatClampNeg))), none]) rfl rfl rfl rfl rfl ?_
      refine x_aload_n (M := M_X12_isOn) dX12_isOn_88 rfl ?_
      refine x_getf (M := M_X12_isOn) (ci := 15) (C := RX12) (T := TX12) (N := 135) (ty := tyX12) cl15 dX12_isOn_89 ha 42 (by decide) t_2433 e42 ?_
      refine x_iload_n (M := M_X12_isOn) dX12_isOn_92 rfl ?_
      refine x_lald (M := M_X12_isOn) dX12_isOn_93 o42 (i16 q0 q1) ?_
      refine x_aload_n (M := M_X12_isOn) dX12_isOn_94 rfl ?_
      refine x_getf (M := M_X12_isOn) (ci := 15) (C := RX12) (T := TX12) (N := 135) (ty := tyX12) cl15 dX12_isOn_95 ha 44 (by decide) t_2435 e44 ?_
      refine x_iload_n (M := M_X12_isOn) dX12_isOn_98 rfl ?_
      refine x_lald (M := M_X12_isOn) dX12_isOn_99 o44 (i17 q0 q1) ?_
      refine x_lcmp (M := M_X12_isOn) dX12_isOn_100 ?_
      refine x_if_ge (M := M_X12_isOn) (tgt := 124) dX12_isOn_101 (by decide) (fun q2 => ?_) (fun q2 => ?_)
      · refine x_lload (M := M_X12_isOn) dX12_isOn_124 rfl ?_
        refine x_aload_n (M := M_X12_isOn) dX12_isOn_126 rfl ?_
        refine x_getf (M := M_X12_isOn) (ci := 15) (C := RX12) (T := TX12) (N := 135) (ty := tyX12) cl15 dX12_isOn_127 ha 44 (by decide) t_2435 e44 ?_
        refine x_iload_n (M := M_X12_isOn) dX12_isOn_130 rfl ?_
        refine x_lald (M := M_X12_isOn) dX12_isOn_131 o44 (i18 q0 q1 q2) ?_
        refine x_aload_n (M := M_X12_isOn) dX12_isOn_132 rfl ?_
        refine x_getf (M := M_X12_isOn) (ci := 15) (C := RX12) (T := TX12) (N := 135) (ty := tyX12) cl15 dX12_isOn_133 ha 42 (by decide) t_2433 e42 ?_
        refine x_iload_n (M := M_X12_isOn) dX12_isOn_136 rfl ?_
        refine x_lald (M := M_X12_isOn) dX12_isOn_137 o42 (i19 q0 q1 q2) ?_
        refine x_callSR (M := M_X12_isOn) (M' := M_X12_in) rfl rfl dX12_isOn_138 m_X12_in t_2818 t_2819 (p_X12_in hl) rfl rfl (Nat.le_of_ble_eq_true rfl) (Nat.le_of_ble_eq_true rfl) (Nat.le_of_ble_eq_true rfl) (Nat.le_of_ble_eq_true rfl) ?_
        refine x_istore (M := M_X12_isOn) dX12_isOn_141 (by decide) rfl ?_
        refine x_norm (lv' := [some (.ref a), some (.int w0), some (.long w1), none, some (.long w2), none, some (.int (f_X12_in w1 (c41 w0.toNatClampNeg) (c43 w0.toNatClampNeg))), some (.int (f_X12_in w2 (c44 w0.toNatClampNeg) (c42 w0.toNatClampNeg)))]) rfl rfl rfl rfl rfl ?_
        refine x_iload (M := M_X12_isOn) dX12_isOn_143 rfl ?_
        refine x_if_eq (M := M_X12_isOn) (tgt := 157) dX12_isOn_145 (by decide) (fun q3 => ?_) (fun q3 => ?_)
        · refine x_iconst (M := M_X12_isOn) dX12_isOn_157 ?_
          exact x_zret (M := M_X12_isOn) dX12_isOn_158 rfl (Or.inl rfl) ⟨by rw [f_X12_isOn, if_pos q0, if_neg q1, if_pos q2, if_pos q3], rfl⟩ (Nat.le_of_ble_eq_true rfl) (Nat.le_of_ble_eq_true rfl)
        · refine x_iload (M := M_X12_isOn) dX12_isOn_148 rfl ?_
          refine x_if_eq (M := M_X12_isOn) (tgt := 157) dX12_isOn_150 (by decide) (fun q4 => ?_) (fun q4 => ?_)
          · refine x_iconst (M := M_X12_isOn) dX12_isOn_157 ?_
            exact x_zret (M := M_X12_isOn) dX12_isOn_158 rfl (Or.inl rfl) ⟨by rw [f_X12_isOn, if_pos q0, if_neg q1, if_pos q2, if_neg q3, if_pos q4], rfl⟩ (Nat.le_of_ble_eq_true rfl) (Nat.le_of_ble_eq_true rfl)
          · refine x_iconst (M := M_X12_isOn) dX12_isOn_153 ?_
            refine x_goto (M := M_X12_isOn) (tgt := 158) dX12_isOn_154 (by decide) ?_
            exact x_zret (M := M_X12_isOn) dX12_isOn_158 rfl (Or.inr rfl) ⟨by rw [f_X12_isOn, if_pos q0, if_neg q1, if_pos q2, if_neg q3, if_neg q4], rfl⟩ (Nat.le_of_ble_eq_true rfl) (Nat.le_of_ble_eq_true rfl)
      · refine x_lload (M := M_X12_isOn) dX12_isOn_104 rfl ?_
        refine x_aload_n (M := M_X12_isOn) dX12_isOn_106 rfl ?_
        refine x_getf (M := M_X12_isOn) (ci := 15) (C := RX12) (T := TX12) (N := 135) (ty := tyX12) cl15 dX12_isOn_107 ha 42 (by decide) t_2433 e42 ?_
        refine x_iload_n (M := M_X12_isOn) dX12_isOn_110 rfl ?_
        refine x_lald (M := M_X12_isOn) dX12_isOn_111 o42 (i20 q0 q1 q2) ?_
        refine x_aload_n (M := M_X12_isOn) dX12_isOn_112 rfl ?_
        refine x_getf (M := M_X12_isOn) (ci := 15) (C := RX12) (T := TX12) (N := 135) (ty := tyX12) cl15 dX12_isOn_113 ha 44 (by decide) t_2435 e44 ?_
        refine x_iload_n (M := M_X12_isOn) dX12_isOn_116 rfl ?_
        refine x_lald (M := M_X12_isOn) dX12_isOn_117 o44 (i21 q0 q1 q2) ?_
        refine x_callSR (M := M_X12_isOn) (M' := M_X12_in) rfl rfl dX12_isOn_118 m_X12_in t_2818 t_2819 (p_X12_in hl) rfl rfl (Nat.le_of_ble_eq_true rfl) (Nat.le_of_ble_eq_true rfl) (Nat.le_of_ble_eq_true rfl) (Nat.le_of_ble_eq_true rfl) ?_
        refine x_goto (M := M_X12_isOn) (tgt := 141) dX12_isOn_121 (by decide) ?_
        refine x_istore (M := M_X12_isOn) dX12_isOn_141 (by decide) rfl ?_
        refine x_norm (lv' := [some (.ref a), some (.int w0), some (.long w1), none, some (.long w2), none, some (.int (f_X12_in w1 (c41 w0.toNatClampNeg) (c43 w0.toNatClampNeg))), some (.int (f_X12_in w2 (c42 w0.toNatClampNeg) (c44 w0.toNatClampNeg)))]) rfl rfl rfl rfl rfl ?_
        refine x_iload (M := M_X12_isOn) dX12_isOn_143 rfl ?_
        refine x_if_eq (M := M_X12_isOn) (tgt := 157) dX12_isOn_145 (by decide) (fun q3 => ?_) (fun q3 => ?_)
        · refine x_iconst (M := M_X12_isOn) dX12_isOn_157 ?_
          exact x_zret (M := M_X12_isOn) dX12_isOn_158 rfl (Or.inl rfl) ⟨by rw [f_X12_isOn, if_pos q0, if_neg q1, if_neg q2, if_pos q3], rfl⟩ (Nat.le_of_ble_eq_true rfl) (Nat.le_of_ble_eq_true rfl)
        · refine x_iload (M := M_X12_isOn) dX12_isOn_148 rfl ?_
          refine x_if_eq (M := M_X12_isOn) (tgt := 157) dX12_isOn_150 (by decide) (fun q4 => ?_) (fun q4 => ?_)
          · refine x_iconst (M := M_X12_isOn) dX12_isOn_157 ?_
            exact x_zret (M := M_X12_isOn) dX12_isOn_158 rfl (Or.inl rfl) ⟨by rw [f_X12_isOn, if_pos q0, if_neg q1, if_neg q2, if_neg q3, if_pos q4], rfl⟩ (Nat.le_of_ble_eq_true rfl) (Nat.le_of_ble_eq_true rfl)
          · refine x_iconst (M := M_X12_isOn) dX12_isOn_153 ?_
            refine x_goto (M := M_X12_isOn) (tgt := 158) dX12_isOn_154 (by decide) ?_
            exact x_zret (M := M_X12_isOn) dX12_isOn_158 rfl (Or.inr rfl) ⟨by rw [f_X12_isOn, if_pos q0, if_neg q1, if_neg q2, if_neg q3, if_neg q4], rfl⟩ (Nat.le_of_ble_eq_true rfl) (Nat.le_of_ble_eq_true rfl)
  · refine x_iconst (M := M_X12_isOn) dX12_isOn_33 ?_
    exact x_zret (M := M_X12_isOn) dX12_isOn_34 rfl (Or.inl rfl) ⟨by rw [f_X12_isOn, if_neg q0], rfl⟩ (Nat.le_of_ble_eq_true rfl) (Nat.le_of_ble_eq_true rfl)
def f_X12_isSame (c12 : Nat → Int32) (c13 : Nat → Int32) (w0 : Int32) (w1 : Int32) : Int32 := if (c12 w0.toNatClampNeg) = (c12 w1.toNatClampNeg) then if (c13 w0.toNatClampNeg) = (c13 w1.toNatClampNeg) then (Int32.ofInt 1) else ((Int32.ofInt 0)) else ((Int32.ofInt 0))
theorem b_X12_isSame (c12 : Nat → Int32) (c13 : Nat → Int32) (w0 : Int32) (w1 : Int32) : f_X12_isSame c12 c13 w0 w1 = 0 ∨ f_X12_isSame c12 c13 w0 w1 = 1 := (ite01 (ite01 (Or.inr rfl) (Or.inl rfl)) (Or.inl rfl))
theorem p_X12_isSame {l : Launch} {E : EE} (hl : l.stackTraces = false) {h : HP} {c12 : Nat → Int32} {c13 : Nat → Int32} {w0 : Int32} {w1 : Int32} {a : Nat} {fs : List Value} (ha : ob h a = some (.inr (15, fs))) {r12 n12 : Nat} (e12 : fs[12]? = some (.ref r12)) (o12 : ob h r12 = some (.inl (0, n12, .inl c12))) {r13 n13 : Nat} (e13 : fs[13]? = some (.ref r13)) (o13 : ob h r13 = some (.inl (0, n13, .inl c13))) (i0 : vp_in w0 n12) (i1 : vp_in w1 n12) (i2 : ((c12 w0.toNatClampNeg) = (c12 w1.toNatClampNeg)) → vp_in w0 n13) (i3 : ((c12 w0.toNatClampNeg) = (c12 w1.toNatClampNeg)) → vp_in w1 n13) : en_C l E M_X12_isSame 0 0 0 [.ref a, .int w0, .int w1] h (pR (some (.int (f_X12_isSame c12 c13 w0 w1))) h) := by
  refine en_mk m_X12_isSame rfl hl (Nat.le_of_ble_eq_true rfl) ?_
  refine x_aload_n (M := M_X12_isSame) dX12_isSame_0 rfl ?_
  refine x_getf (M := M_X12_isSame) (ci := 15) (C := RX12) (T := TX12) (N := 135) (ty := tyX12) cl15 dX12_isSame_1 ha 12 (by decide) t_2403 e12 ?_
  refine x_iload_n (M := M_X12_isSame) dX12_isSame_4 rfl ?_
  refine x_iald (M := M_X12_isSame) dX12_isSame_5 o12 i0 ?_
  refine x_aload_n (M := M_X12_isSame) dX12_isSame_6 rfl ?_
  refine x_getf (M := M_X12_isSame) (ci := 15) (C := RX12) (T := TX12) (N := 135) (ty := tyX12) cl15 dX12_isSame_7 ha 12 (by decide) t_2403 e12 ?_
  refine x_iload_n (M := M_X12_isSame) dX12_isSame_10 rfl ?_
  refine x_iald (M := M_X12_isSame) dX12_isSame_11 o12 i1 ?_
  refine x_icmp_ne (M := M_X12_isSame) (tgt := 34) dX12_isSame_12 (by decide) (fun q0 => ?_) (fun q0 => ?_)
  · refine x_iconst (M := M_X12_isSame) dX12_isSame_34 ?_
    exact x_zret (M := M_X12_isSame) dX12_isSame_35 rfl (Or.inl rfl) ⟨by rw [f_X12_isSame, if_neg q0], rfl⟩ (Nat.le_of_ble_eq_true rfl) (Nat.le_of_ble_eq_true rfl)
  · refine x_aload_n (M := M_X12_isSame) dX12_isSame_15 rfl ?_
    refine x_getf (M := M_X12_isSame) (ci := 15) (C := RX12) (T := TX12) (N := 135) (ty := tyX12) cl15 dX12_isSame_16 ha 13 (by decide) t_2404 e13 ?_
    refine x_iload_n (M := M_X12_isSame) dX12_isSame_19 rfl ?_
    refine x_iald (M := M_X12_isSame) dX12_isSame_20 o13 (i2 q0) ?_
    refine x_aload_n (M := M_X12_isSame) dX12_isSame_21 rfl ?_
    refine x_getf (M := M_X12_isSame) (ci := 15) (C := RX12) (T := TX12) (N := 135) (ty := tyX12) cl15 dX12_isSame_22 ha 13 (by decide) t_2404 e13 ?_
    refine x_iload_n (M := M_X12_isSame) dX12_isSame_25 rfl ?_
    refine x_iald (M := M_X12_isSame) dX12_isSame_26 o13 (i3 q0) ?_
    refine x_icmp_ne (M := M_X12_isSame) (tgt := 34) dX12_isSame_27 (by decide) (fun q1 => ?_) (fun q1 => ?_)
    · refine x_iconst (M := M_X12_isSame) dX12_isSame_34 ?_
      exact x_zret (M := M_X12_isSame) dX12_isSame_35 rfl (Or.inl rfl) ⟨by rw [f_X12_isSame, if_pos q0, if_neg q1], rfl⟩ (Nat.le_of_ble_eq_true rfl) (Nat.le_of_ble_eq_true rfl)
    · refine x_iconst (M := M_X12_isSame) dX12_isSame_30 ?_
      refine x_goto (M := M_X12_isSame) (tgt := 35) dX12_isSame_31 (by decide) ?_
      exact x_zret (M := M_X12_isSame) dX12_isSame_35 rfl (Or.inr rfl) ⟨by rw [f_X12_isSame, if_pos q0, if_pos q1], rfl⟩ (Nat.le_of_ble_eq_true rfl) (Nat.le_of_ble_eq_true rfl)
def f_X12_following (c45 : Nat → Int32) (c56 : Nat → Int32) (w0 : Int32) : Int32 := if (w0 + (Int32.ofInt 1)) = (c56 ((c45 w0.toNatClampNeg) + (Int32.ofInt 1)).toNatClampNeg) then (c56 (c45 w0.toNatClampNeg).toNatClampNeg) else ((w0 + (Int32.ofInt 1)))
theorem p_X12_following {l : Launch} {E : EE} (hl : l.stackTraces = false) {h : HP} {c45 : Nat → Int32} {c56 : Nat → Int32} {w0 : Int32} {a : Nat} {fs : List Value} (ha : ob h a = some (.inr (15, fs))) {r45 n45 : Nat} (e45 : fs[45]? = some (.ref r45)) (o45 : ob h r45 = some (.inl (0, n45, .inl c45))) {r56 n56 : Nat} (e56 : fs[56]? = some (.ref r56)) (o56 : ob h r56 = some (.inl (0, n56, .inl c56))) (i0 : vp_in w0 n45) (i1 : vp_in ((c45 w0.toNatClampNeg) + (Int32.ofInt 1)) n56) (i2 : ((w0 + (Int32.ofInt 1)) = (c56 ((c45 w0.toNatClampNeg) + (Int32.ofInt 1)).toNatClampNeg)) → vp_in (c45 w0.toNatClampNeg) n56) : en_C l E M_X12_following 0 0 0 [.ref a, .int w0] h (pR (some (.int (f_X12_following c45 c56 w0))) h) := by
  refine en_mk m_X12_following rfl hl (Nat.le_of_ble_eq_true rfl) ?_
  refine x_aload_n (M := M_X12_following) dX12_following_0 rfl ?_
  refine x_getf (M := M_X12_following) (ci := 15) (C := RX12) (T := TX12) (N := 135) (ty := tyX12) cl15 dX12_following_1 ha 45 (by decide) t_2436 e45 ?_
  refine x_iload_n (M := M_X12_following) dX12_following_4 rfl ?_
  refine x_iald (M := M_X12_following) dX12_following_5 o45 i0 ?_
  refine x_istore_n (M := M_X12_following) dX12_following_6 (by decide) rfl ?_
  refine x_norm (lv' := [some (.ref a), some (.int w0), some (.int (c45 w0.toNatClampNeg))]) rfl rfl rfl rfl rfl ?_
  refine x_iload_n (M := M_X12_following) dX12_following_7 rfl ?_
  refine x_iconst (M := M_X12_following) dX12_following_8 ?_
  refine x_iadd (M := M_X12_following) dX12_following_9 ?_
  refine x_aload_n (M := M_X12_following) dX12_following_10 rfl ?_
  refine x_getf (M := M_X12_following) (ci := 15) (C := RX12) (T := TX12) (N := 135) (ty := tyX12) cl15 dX12_following_11 ha 56 (by decide) t_2447 e56 ?_
  refine x_iload_n (M := M_X12_following) dX12_following_14 rfl ?_
  refine x_iconst (M := M_X12_following) dX12_following_15 ?_
  refine x_iadd (M := M_X12_following) dX12_following_16 ?_
  refine x_iald (M := M_X12_following) dX12_following_17 o56 i1 ?_
  refine x_icmp_ne (M := M_X12_following) (tgt := 30) dX12_following_18 (by decide) (fun q0 => ?_) (fun q0 => ?_)
  · refine x_iload_n (M := M_X12_following) dX12_following_30 rfl ?_
    refine x_iconst (M := M_X12_following) dX12_following_31 ?_
    refine x_iadd (M := M_X12_following) dX12_following_32 ?_
    exact x_iret (M := M_X12_following) dX12_following_33 rfl ⟨by rw [f_X12_following, if_neg q0], rfl⟩ (Nat.le_of_ble_eq_true rfl) (Nat.le_of_ble_eq_true rfl)
  · refine x_aload_n (M := M_X12_following) dX12_following_21 rfl ?_
    refine x_getf (M := M_X12_following) (ci := 15) (C := RX12) (T := TX12) (N := 135) (ty := tyX12) cl15 dX12_following_22 ha 56 (by decide) t_2447 e56 ?_
    refine x_iload_n (M := M_X12_following) dX12_following_25 rfl ?_
    refine x_iald (M := M_X12_following) dX12_following_26 o56 (i2 q0) ?_
    refine x_goto (M := M_X12_following) (tgt := 33) dX12_following_27 (by decide) ?_
    exact x_iret (M := M_X12_following) dX12_following_33 rfl ⟨by rw [f_X12_following, if_pos q0], rfl⟩ (Nat.le_of_ble_eq_true rfl) (Nat.le_of_ble_eq_true rfl)
def f_X12_isBetween (w0 : Int64) (w1 : Int64) (w2 : Int64) (w3 : Int64) (w4 : Int64) (w5 : Int64) : Int32 := if (lg_cmp (f_X12_cross w0 w1 w2 w3) (Int64.ofNat ((0 : Fin 2) : Nat))) ≤ 0 then if (lg_cmp (f_X12_cross w0 w1 w2 w3) (Int64.ofNat ((0 : Fin 2) : Nat))) = 0 then if 0 ≤ (lg_cmp ((w0 * w2) + (w1 * w3)) (Int64.ofNat ((0 : Fin 2) : Nat))) then (Int32.ofInt 0) else (if (lg_cmp (f_X12_cross w0 w1 w4 w5) (Int64.ofNat ((0 : Fin 2) : Nat))) ≤ 0 then (Int32.ofInt 0) else ((Int32.ofInt 1))) else (if 0 < (lg_cmp (f_X12_cross w0 w1 w4 w5) (Int64.ofNat ((0 : Fin 2) : Nat))) then (Int32.ofInt 1) else (if (lg_cmp (f_X12_cross w4 w5 w2 w3) (Int64.ofNat ((0 : Fin 2) : Nat))) ≤ 0 then (Int32.ofInt 0) else ((Int32.ofInt 1)))) else (if (lg_cmp (f_X12_cross w0 w1 w4 w5) (Int64.ofNat ((0 : Fin 2) : Nat))) ≤ 0 then (Int32.ofInt 0) else (if (lg_cmp (f_X12_cross w4 w5 w2 w3) (Int64.ofNat ((0 : Fin 2) : Nat))) ≤ 0 then (Int32.ofInt 0) else ((Int32.ofInt 1))))
theorem b_X12_isBetween (w0 : Int64) (w1 : Int64) (w2 : Int64) (w3 : Int64) (w4 : Int64) (w5 : Int64) : f_X12_isBetween w0 w1 w2 w3 w4 w5 = 0 ∨ f_X12_isBetween w0 w1 w2 w3 w4 w5 = 1 := (ite01 (ite01 (ite01 (Or.inl rfl) (ite01 (Or.inl rfl) (Or.inr rfl))) (ite01 (Or.inr rfl) (ite01 (Or.inl rfl) (Or.inr rfl)))) (ite01 (Or.inl rfl) (ite01 (Or.inl rfl) (Or.inr rfl))))
theorem p_X12_isBetween {l : Launch} {E : EE} (hl : l.stackTraces = false) {h : HP} {w0 : Int64} {w1 : Int64} {w2 : Int64} {w3 : Int64} {w4 : Int64} {w5 : Int64} : en_C l E M_X12_isBetween 1 0 0 [.long w0, .long w1, .long w2, .long w3, .long w4, .long w5] h (pR (some (.int (f_X12_isBetween w0 w1 w2 w3 w4 w5))) h) := by
  refine en_mk m_X12_isBetween rfl hl (Nat.le_of_ble_eq_true rfl) ?_
  refine x_lload_n (M := M_X12_isBetween) dX12_isBetween_0 rfl ?_
  refine x_lload_n (M := M_X12_isBetween) dX12_isBetween_1 rfl ?_
  refine x_lload (M := M_X12_isBetween) dX12_isBetween_2 rfl ?_
  refine x_lload (M := M_X12_isBetween) dX12_isBetween_4 rfl ?_
  refine x_callSR (M := M_X12_isBetween) (M' := M_X12_cross) rfl rfl dX12_isBetween_6 m_X12_cross t_3265 t_3266 (p_X12_cross hl) rfl rfl (Nat.le_of_ble_eq_true rfl) (Nat.le_of_ble_eq_true rfl) (Nat.le_of_ble_eq_true rfl) (Nat.le_of_ble_eq_true rfl) ?_
  refine x_lstore (M := M_X12_isBetween) dX12_isBetween_9 (by decide) rfl ?_
  refine x_norm (lv' := [some (.long w0), none, some (.long w1), none, some (.long w2), none, some (.long w3), none, some (.long w4), none, some (.long w5), none, some (.long (f_X12_cross w0 w1 w2 w3)), none, none, none, none, none]) rfl rfl rfl rfl rfl ?_
  refine x_lload_n (M := M_X12_isBetween) dX12_isBetween_11 rfl ?_
  refine x_lload_n (M := M_X12_isBetween) dX12_isBetween_12 rfl ?_
  refine x_lload (M := M_X12_isBetween) dX12_isBetween_13 rfl ?_
  refine x_lload (M := M_X12_isBetween) dX12_isBetween_15 rfl ?_
  refine x_callSR (M := M_X12_isBetween) (M' := M_X12_cross) rfl rfl dX12_isBetween_17 m_X12_cross t_3265 t_3266 (p_X12_cross hl) rfl rfl (Nat.le_of_ble_eq_true rfl) (Nat.le_of_ble_eq_true rfl) (Nat.le_of_ble_eq_true rfl) (Nat.le_of_ble_eq_true rfl) ?_
  refine x_lstore (M := M_X12_isBetween) dX12_isBetween_20 (by decide) rfl ?_
  refine x_norm (lv' := [some (.long w0), none, some (.long w1), none, some (.long w2), none, some (.long w3), none, some (.long w4), none, some (.long w5), none, some (.long (f_X12_cross w0 w1 w2 w3)), none, some (.long (f_X12_cross w0 w1 w4 w5)), none, none, none]) rfl rfl rfl rfl rfl ?_
  refine x_lload (M := M_X12_isBetween) dX12_isBetween_22 rfl ?_
  refine x_lload (M := M_X12_isBetween) dX12_isBetween_24 rfl ?_
  refine x_lload (M := M_X12_isBetween) dX12_isBetween_26 rfl ?_
  refine x_lload (M := M_X12_isBetween) dX12_isBetween_28 rfl ?_
  refine x_callSR (M := M_X12_isBetween) (M' := M_X12_cross) rfl rfl dX12_isBetween_30 m_X12_cross t_3265 t_3266 (p_X12_cross hl) rfl rfl (Nat.le_of_ble_eq_true rfl) (Nat.le_of_ble_eq_true rfl) (Nat.le_of_ble_eq_true rfl) (Nat.le_of_ble_eq_true rfl) ?_
  refine x_lstore (M := M_X12_isBetween) dX12_isBetween_33 (by decide) rfl ?_
  refine x_norm (lv' := [some (.long w0), none, some (.long w1), none, some (.long w2), none, some (.long w3), none, some (.long w4), none, some (.long w5), none, some (.long (f_X12_cross w0 w1 w2 w3)), none, some (.long (f_X12_cross w0 w1 w4 w5)), none, some (.long (f_X12_cross w4 w5 w2 w3)), none]) rfl rfl rfl rfl rfl ?_
  refine x_lload (M := M_X12_isBetween) dX12_isBetween_35 rfl ?_
  refine x_lconst (M := M_X12_isBetween) dX12_isBetween_37 ?_
  refine x_lcmp (M := M_X12_isBetween) dX12_isBetween_38 ?_
  refine x_if_le (M := M_X12_isBetween) (tgt := 62) dX12_isBetween_39 (by decide) (fun q0 => ?_) (fun q0 => ?_)
  · refine x_lload (M := M_X12_isBetween) dX12_isBetween_62 rfl ?_
    refine x_lconst (M := M_X12_isBetween) dX12_isBetween_64 ?_
    refine x_lcmp (M := M_X12_isBetween) dX12_isBetween_65 ?_
    refine x_if_ne (M := M_X12_isBetween) (tgt := 96) dX12_isBetween_66 (by decide) (fun q1 => ?_) (fun q1 => ?_)
    · refine x_lload (M := M_X12_isBetween) dX12_isBetween_96 rfl ?_
      refine x_lconst (M := M_X12_isBetween) dX12_isBetween_98 ?_
      refine x_lcmp (M := M_X12_isBetween) dX12_isBetween_99 ?_
      refine x_if_gt (M := M_X12_isBetween) (tgt := 110) dX12_isBetween_100 (by decide) (fun q2 => ?_) (fun q2 => ?_)
      · refine x_iconst (M := M_X12_isBetween) dX12_isBetween_110 ?_
        refine x_goto (M := M_X12_isBetween) (tgt := 115) dX12_isBetween_111 (by decide) ?_
        exact x_zret (M := M_X12_isBetween) dX12_isBetween_115 rfl (Or.inr rfl) ⟨by rw [f_X12_isBetween, if_pos q0, if_neg q1, if_pos q2], rfl⟩ (Nat.le_of_ble_eq_true rfl) (Nat.le_of_ble_eq_true rfl)
      · refine x_lload (M := M_X12_isBetween) dX12_isBetween_103 rfl ?_
        refine x_lconst (M := M_X12_isBetween) dX12_isBetween_105 ?_
        refine x_lcmp (M := M_X12_isBetween) dX12_isBetween_106 ?_
        refine x_if_le (M := M_X12_isBetween) (tgt := 114) dX12_isBetween_107 (by decide) (fun q3 => ?_) (fun q3 => ?_)
        · refine x_iconst (M := M_X12_isBetween) dX12_isBetween_114 ?_
          exact x_zret (M := M_X12_isBetween) dX12_isBetween_115 rfl (Or.inl rfl) ⟨by rw [f_X12_isBetween, if_pos q0, if_neg q1, if_neg q2, if_pos q3], rfl⟩ (Nat.le_of_ble_eq_true rfl) (Nat.le_of_ble_eq_true rfl)
        · refine x_iconst (M := M_X12_isBetween) dX12_isBetween_110 ?_
          refine x_goto (M := M_X12_isBetween) (tgt := 115) dX12_isBetween_111 (by decide) ?_
          exact x_zret (M := M_X12_isBetween) dX12_isBetween_115 rfl (Or.inr rfl) ⟨by rw [f_X12_isBetween, if_pos q0, if_neg q1, if_neg q2, if_neg q3], rfl⟩ (Nat.le_of_ble_eq_true rfl) (Nat.le_of_ble_eq_true rfl)
    · refine x_lload_n (M := M_X12_isBetween) dX12_isBetween_69 rfl ?_
      refine x_lload (M := M_X12_isBetween) dX12_isBetween_70 rfl ?_
      refine x_lmul (M := M_X12_isBetween) dX12_isBetween_72 ?_
      refine x_lload_n (M := M_X12_isBetween) dX12_isBetween_73 rfl ?_
      refine x_lload (M := M_X12_isBetween) dX12_isBetween_74 rfl ?_
      refine x_lmul (M := M_X12_isBetween) dX12_isBetween_76 ?_
      refine x_ladd (M := M_X12_isBetween) dX12_isBetween_77 ?_
      refine x_lconst (M := M_X12_isBetween) dX12_isBetween_78 ?_
      refine x_lcmp (M := M_X12_isBetween) dX12_isBetween_79 ?_
      refine x_if_ge (M := M_X12_isBetween) (tgt := 94) dX12_isBetween_80 (by decide) (fun q2 => ?_) (fun q2 => ?_)
      · refine x_iconst (M := M_X12_isBetween) dX12_isBetween_94 ?_
        exact x_zret (M := M_X12_isBetween) dX12_isBetween_95 rfl (Or.inl rfl) ⟨by rw [f_X12_isBetween, if_pos q0, if_pos q1, if_pos q2], rfl⟩ (Nat.le_of_ble_eq_true rfl) (Nat.le_of_ble_eq_true rfl)
      · refine x_lload (M := M_X12_isBetween) dX12_isBetween_83 rfl ?_
        refine x_lconst (M := M_X12_isBetween) dX12_isBetween_85 ?_
        refine x_lcmp (M := M_X12_isBetween) dX12_isBetween_86 ?_
        refine x_if_le (M := M_X12_isBetween) (tgt := 94) dX12_isBetween_87 (by decide) (fun q3 => ?_) (fun q3 => ?_)
        · refine x_iconst (M := M_X12_isBetween) dX12_isBetween_94 ?_
          exact x_zret (M := M_X12_isBetween) dX12_isBetween_95 rfl (Or.inl rfl) ⟨by rw [f_X12_isBetween, if_pos q0, if_pos q1, if_neg q2, if_pos q3], rfl⟩ (Nat.le_of_ble_eq_true rfl) (Nat.le_of_ble_eq_true rfl)
        · refine x_iconst (M := M_X12_isBetween) dX12_isBetween_90 ?_
          refine x_goto (M := M_X12_isBetween) (tgt := 95) dX12_isBetween_91 (by decide) ?_
          exact x_zret (M := M_X12_isBetween) dX12_isBetween_95 rfl (Or.inr rfl) ⟨by rw [f_X12_isBetween, if_pos q0, if_pos q1, if_neg q2, if_neg q3], rfl⟩ (Nat.le_of_ble_eq_true rfl) (Nat.le_of_ble_eq_true rfl)
  · refine x_lload (M := M_X12_isBetween) dX12_isBetween_42 rfl ?_
    refine x_lconst (M := M_X12_isBetween) dX12_isBetween_44 ?_
    refine x_lcmp (M := M_X12_isBetween) dX12_isBetween_45 ?_
    refine x_if_le (M := M_X12_isBetween) (tgt := 60) dX12_isBetween_46 (by decide) (fun q1 => ?_) (fun q1 => ?_)
    · refine x_iconst (M := M_X12_isBetween) dX12_isBetween_60 ?_
      exact x_zret (M := M_X12_isBetween) dX12_isBetween_61 rfl (Or.inl rfl) ⟨by rw [f_X12_isBetween, if_neg q0, if_pos q1], rfl⟩ (Nat.le_of_ble_eq_true rfl) (Nat.le_of_ble_eq_true rfl)
    · refine x_lload (M := M_X12_isBetween) dX12_isBetween_49 rfl ?_
      refine x_lconst (M := M_X12_isBetween) dX12_isBetween_51 ?_
      refine x_lcmp (M := M_X12_isBetween) dX12_isBetween_52 ?_
      refine x_if_le (M := M_X12_isBetween) (tgt := 60) dX12_isBetween_53 (by decide) (fun q2 => ?_) (fun q2 => ?_)
      · refine x_iconst (M := M_X12_isBetween) dX12_isBetween_60 ?_
        exact x_zret (M := M_X12_isBetween) dX12_isBetween_61 rfl (Or.inl rfl) ⟨by rw [f_X12_isBetween, if_neg q0, if_neg q1, if_pos q2], rfl⟩ (Nat.le_of_ble_eq_true rfl) (Nat.le_of_ble_eq_true rfl)
      · refine x_iconst (M := M_X12_isBetween) dX12_isBetween_56 ?_
        refine x_goto (M := M_X12_isBetween) (tgt := 61) dX12_isBetween_57 (by decide) ?_
        exact x_zret (M := M_X12_isBetween) dX12_isBetween_61 rfl (Or.inr rfl) ⟨by rw [f_X12_isBetween, if_neg q0, if_neg q1, if_neg q2], rfl⟩ (Nat.le_of_ble_eq_true rfl) (Nat.le_of_ble_eq_true rfl)
def f_X12_begins (g50 : Int64) (g51 : Int64) (c41 : Nat → Int64) (c42 : Nat → Int64) (w0 : Int32) : Int32 := if (lg_cmp (c41 w0.toNatClampNeg) g50) = 0 then if (lg_cmp (c42 w0.toNatClampNeg) g51) = 0 then (Int32.ofInt 1) else ((Int32.ofInt 0)) else ((Int32.ofInt 0))
theorem b_X12_begins (g50 : Int64) (g51 : Int64) (c41 : Nat → Int64) (c42 : Nat → Int64) (w0 : Int32) : f_X12_begins g50 g51 c41 c42 w0 = 0 ∨ f_X12_begins g50 g51 c41 c42 w0 = 1 := (ite01 (ite01 (Or.inr rfl) (Or.inl rfl)) (Or.inl rfl))
theorem p_X12_begins {l : Launch} {E : EE} (hl : l.stackTraces = false) {h : HP} {g50 : Int64} {g51 : Int64} {c41 : Nat → Int64} {c42 : Nat → Int64} {w0 : Int32} {a : Nat} {fs : List Value} (ha : ob h a = some (.inr (15, fs))) (e50 : fs[50]? = some (.long g50)) (e51 : fs[51]? = some (.long g51)) {r41 n41 : Nat} (e41 : fs[41]? = some (.ref r41)) (o41 : ob h r41 = some (.inl (1, n41, .inr (.inl c41)))) {r42 n42 : Nat} (e42 : fs[42]? = some (.ref r42)) (o42 : ob h r42 = some (.inl (1, n42, .inr (.inl c42)))) (i0 : vp_in w0 n41) (i1 : ((lg_cmp (c41 w0.toNatClampNeg) g50) = 0) → vp_in w0 n42) : en_C l E M_X12_begins 0 0 0 [.ref a, .int w0] h (pR (some (.int (f_X12_begins g50 g51 c41 c42 w0))) h) := by
  refine en_mk m_X12_begins rfl hl (Nat.le_of_ble_eq_true rfl) ?_
  refine x_aload_n (M := M_X12_begins) dX12_begins_0 rfl ?_
  refine x_getf (M := M_X12_begins) (ci := 15) (C := RX12) (T := TX12) (N := 135) (ty := tyX12) cl15 dX12_begins_1 ha 41 (by decide) t_2432 e41 ?_
  refine x_iload_n (M := M_X12_begins) dX12_begins_4 rfl ?_
  refine x_lald (M := M_X12_begins) dX12_begins_5 o41 i0 ?_
  refine x_aload_n (M := M_X12_begins) dX12_begins_6 rfl ?_
  refine x_getf (M := M_X12_begins) (ci := 15) (C := RX12) (T := TX12) (N := 135) (ty := tyX12) cl15 dX12_begins_7 ha 50 (by decide) t_2441 e50 ?_
  refine x_lcmp (M := M_X12_begins) dX12_begins_10 ?_
  refine x_if_ne (M := M_X12_begins) (tgt := 32) dX12_begins_11 (by decide) (fun q0 => ?_) (fun q0 => ?_)
  · refine x_iconst (M := M_X12_begins) dX12_begins_32 ?_
    exact x_zret (M := M_X12_begins) dX12_begins_33 rfl (Or.inl rfl) ⟨by rw [f_X12_begins, if_neg q0], rfl⟩ (Nat.le_of_ble_eq_true rfl) (Nat.le_of_ble_eq_true rfl)
  · refine x_aload_n (M := M_X12_begins) dX12_begins_14 rfl ?_
    refine x_getf (M := M_X12_begins) (ci := 15) (C := RX12) (T := TX12) (N := 135) (ty := tyX12) cl15 dX12_begins_15 ha 42 (by decide) t_2433 e42 ?_
    refine x_iload_n (M := M_X12_begins) dX12_begins_18 rfl ?_
    refine x_lald (M := M_X12_begins) dX12_begins_19 o42 (i1 q0) ?_
    refine x_aload_n (M := M_X12_begins) dX12_begins_20 rfl ?_
    refine x_getf (M := M_X12_begins) (ci := 15) (C := RX12) (T := TX12) (N := 135) (ty := tyX12) cl15 dX12_begins_21 ha 51 (by decide) t_2442 e51 ?_
    refine x_lcmp (M := M_X12_begins) dX12_begins_24 ?_
    refine x_if_ne (M := M_X12_begins) (tgt := 32) dX12_begins_25 (by decide) (fun q1 => ?_) (fun q1 => ?_)
    · refine x_iconst (M := M_X12_begins) dX12_begins_32 ?_
      exact x_zret (M := M_X12_begins) dX12_begins_33 rfl (Or.inl rfl) ⟨by rw [f_X12_begins, if_pos q0, if_neg q1], rfl⟩ (Nat.le_of_ble_eq_true rfl) (Nat.le_of_ble_eq_true rfl)
    · refine x_iconst (M := M_X12_begins) dX12_begins_28 ?_
      refine x_goto (M := M_X12_begins) (tgt := 33) dX12_begins_29 (by decide) ?_
      exact x_zret (M := M_X12_begins) dX12_begins_33 rfl (Or.inr rfl) ⟨by rw [f_X12_begins, if_pos q0, if_pos q1], rfl⟩ (Nat.le_of_ble_eq_true rfl) (Nat.le_of_ble_eq_true rfl)
def f_X12_tellPair (c14 : Nat → Int32) (c45 : Nat → Int32) (c46 : Nat → Int32) (c54 : Nat → Int32) (c55 : Nat → Int32) (w0 : Int32) (w1 : Int32) (w2 : Int32) : Int32 := w0
def F_X12_tellPair (fs : List Value) (c14 : Nat → Int32) (c45 : Nat → Int32) (c46 : Nat → Int32) (c54 : Nat → Int32) (c55 : Nat → Int32) (w0 : Int32) (w1 : Int32) (w2 : Int32) : List Value := fs
def A14_X12_tellPair (c14 : Nat → Int32) (c45 : Nat → Int32) (c46 : Nat → Int32) (c54 : Nat → Int32) (c55 : Nat → Int32) (w0 : Int32) (w1 : Int32) (w2 : Int32) : Nat → Int32 := (upd (upd (upd (upd (upd (upd c14 (Int32.ofInt 1).toNatClampNeg (c54 (c45 w1.toNatClampNeg).toNatClampNeg)) (Int32.ofInt 2).toNatClampNeg (c55 (c45 w1.toNatClampNeg).toNatClampNeg)) (Int32.ofInt 3).toNatClampNeg (c46 w1.toNatClampNeg)) (Int32.ofInt 4).toNatClampNeg (c54 (c45 w2.toNatClampNeg).toNatClampNeg)) (Int32.ofInt 5).toNatClampNeg (c55 (c45 w2.toNatClampNeg).toNatClampNeg)) ((Int8.ofInt 6).toInt32).toNatClampNeg (c46 w2.toNatClampNeg))
theorem l_X12_tellPair {fs : List Value} {c14 : Nat → Int32} {c45 : Nat → Int32} {c46 : Nat → Int32} {c54 : Nat → Int32} {c55 : Nat → Int32} {w0 : Int32} {w1 : Int32} {w2 : Int32} : (F_X12_tellPair fs c14 c45 c46 c54 c55 w0 w1 w2).length = fs.length := by
  unfold F_X12_tellPair
  first | rfl | simp only [List.length_set]
theorem k_X12_tellPair {fs : List Value} {c14 : Nat → Int32} {c45 : Nat → Int32} {c46 : Nat → Int32} {c54 : Nat → Int32} {c55 : Nat → Int32} {w0 : Int32} {w1 : Int32} {w2 : Int32} {k : Nat} (hk : k ∉ ([] : List Nat)) : (F_X12_tellPair fs c14 c45 c46 c54 c55 w0 w1 w2)[k]? = fs[k]? := by
  clear hk
  unfold F_X12_tellPair
  first | rfl | simp only []
theorem p_X12_tellPair {l : Launch} {E : EE} (hl : l.stackTraces = false) {h : HP} {c14 : Nat → Int32} {c45 : Nat → Int32} {c46 : Nat → Int32} {c54 : Nat → Int32} {c55 : Nat → Int32} {w0 : Int32} {w1 : Int32} {w2 : Int32} {a : Nat} {fs : List Value} (ha : ob h a = some (.inr (15, fs))) {r14 n14 : Nat} (e14 : fs[14]? = some (.ref r14)) (o14 : ob h r14 = some (.inl (0, n14, .inl c14))) {r45 n45 : Nat} (e45 : fs[45]? = some (.ref r45)) (o45 : ob h r45 = some (.inl (0, n45, .inl c45))) {r46 n46 : Nat} (e46 : fs[46]? = some (.ref r46)) (o46 : ob h r46 = some (.inl (0, n46, .inl c46))) {r54 n54 : Nat} (e54 : fs[54]? = some (.ref r54)) (o54 : ob h r54 = some (.inl (0, n54, .inl c54))) {r55 n55 : Nat} (e55 : fs[55]? = some (.ref r55)) (o55 : ob h r55 = some (.inl (0, n55, .inl c55))) (d14_45 : r14 ≠ r45) (d14_46 : r14 ≠ r46) (d14_54 : r14 ≠ r54) (d14_55 : r14 ≠ r55) (i0 : vp_in w1 n45) (i1 : vp_in (c45 w1.toNatClampNeg) n54) (i2 : vp_in (Int32.ofInt 1) n14) (i3 : vp_in w1 n45) (i4 : vp_in (c45 w1.toNatClampNeg) n55) (i5 : vp_in (Int32.ofInt 2) n14) (i6 : vp_in w1 n46) (i7 : vp_in (Int32.ofInt 3) n14) (i8 : vp_in w2 n45) (i9 : vp_in (c45 w2.toNatClampNeg) n54) (i10 : vp_in (Int32.ofInt 4) n14) (i11 : vp_in w2 n45) (i12 : vp_in (c45 w2.toNatClampNeg) n55) (i13 : vp_in (Int32.ofInt 5) n14) (i14 : vp_in w2 n46) (i15 : vp_in ((Int8.ofInt 6).toInt32) n14) : en_C l E M_X12_tellPair 0 0 0 [.ref a, .int w0, .int w1, .int w2] h (pR (some (.int (f_X12_tellPair c14 c45 c46 c54 c55 w0 w1 w2))) (stt (stt h a (.inr (15, F_X12_tellPair fs c14 c45 c46 c54 c55 w0 w1 w2))) r14 (.inl (0, n14, .inl (A14_X12_tellPair c14 c45 c46 c54 c55 w0 w1 w2))))) := by
  refine en_mk m_X12_tellPair rfl hl (Nat.le_of_ble_eq_true rfl) ?_
  refine x_heap (h' := (stt (stt h a (.inr (15, fs))) r14 (.inl (0, n14, .inl c14)))) (by rw [stt_id ha, stt_id o14]) ?_
  refine x_aload_n (M := M_X12_tellPair) dX12_tellPair_0 rfl ?_
  refine x_getf (M := M_X12_tellPair) (ci := 15) (C := RX12) (T := TX12) (N := 135) (ty := tyX12) cl15 dX12_tellPair_1 (ob_up (ob_df ha o14).symm (ob_at o14).1 (ob_self ha)) 14 (by decide) t_2405 e14 ?_
  refine x_iconst (M := M_X12_tellPair) dX12_tellPair_4 ?_
  refine x_aload_n (M := M_X12_tellPair) dX12_tellPair_5 rfl ?_
  refine x_getf (M := M_X12_tellPair) (ci := 15) (C := RX12) (T := TX12) (N := 135) (ty := tyX12) cl15 dX12_tellPair_6 (ob_up (ob_df ha o14).symm (ob_at o14).1 (ob_self ha)) 54 (by decide) t_2445 e54 ?_
  refine x_aload_n (M := M_X12_tellPair) dX12_tellPair_9 rfl ?_
  refine x_getf (M := M_X12_tellPair) (ci := 15) (C := RX12) (T := TX12) (N := 135) (ty := tyX12) cl15 dX12_tellPair_10 (ob_up (ob_df ha o14).symm (ob_at o14).1 (ob_self ha)) 45 (by decide) t_2436 e45 ?_
  refine x_iload_n (M := M_X12_tellPair) dX12_tellPair_13 rfl ?_
  refine x_iald (M := M_X12_tellPair) dX12_tellPair_14 (ob_up d14_45 (ob_at o14).1 (ob_oth ha o45)) i0 ?_
  refine x_iald (M := M_X12_tellPair) dX12_tellPair_15 (ob_up d14_54 (ob_at o14).1 (ob_oth ha o54)) i1 ?_
  refine x_iast (M := M_X12_tellPair) dX12_tellPair_16 (ob_self (ob_oth ha o14)) i2 ?_
  refine x_heap (h' := (stt (stt h a (.inr (15, fs))) r14 (.inl (0, n14, .inl (upd c14 (Int32.ofInt 1).toNatClampNeg (c54 (c45 w1.toNatClampNeg).toNatClampNeg)))))) (by rw [stt_stt (a := r14)]) ?_
  refine x_aload_n (M := M_X12_tellPair) dX12_tellPair_17 rfl ?_
  refine x_getf (M := M_X12_tellPair) (ci := 15) (C := RX12) (T := TX12) (N := 135) (ty := tyX12) cl15 dX12_tellPair_18 (ob_up (ob_df ha o14).symm (ob_at o14).1 (ob_self ha)) 14 (by decide) t_2405 e14 ?_
  refine x_iconst (M := M_X12_tellPair) dX12_tellPair_21 ?_
  refine x_aload_n (M := M_X12_tellPair) dX12_tellPair_22 rfl ?_
  refine x_getf (M := M_X12_tellPair) (ci := 15) (C := RX12) (T := TX12) (N := 135) (ty := tyX12) cl15 dX12_tellPair_23 (ob_up (ob_df ha o14).symm (ob_at o14).1 (ob_self ha)) 55 (by decide) t_2446 e55 ?_
  refine x_aload_n (M := M_X12_tellPair) dX12_tellPair_26 rfl ?_
  refine x_getf (M := M_X12_tellPair) (ci := 15) (C := RX12) (T := TX12) (N := 135) (ty := tyX12) cl15 dX12_tellPair_27 (ob_up (ob_df ha o14).symm (ob_at o14).1 (ob_self ha)) 45 (by decide) t_2436 e45 ?_
  refine x_iload_n (M := M_X12_tellPair) dX12_tellPair_30 rfl ?_
  refine x_iald (M := M_X12_tellPair) dX12_tellPair_31 (ob_up d14_45 (ob_at o14).1 (ob_oth ha o45)) i3 ?_
  refine x_iald (M := M_X12_tellPair) dX12_tellPair_32 (ob_up d14_55 (ob_at o14).1 (ob_oth ha o55)) i4 ?_
  refine x_iast (M := M_X12_tellPair) dX12_tellPair_33 (ob_self (ob_oth ha o14)) i5 ?_
  refine x_heap (h' := (stt (stt h a (.inr (15, fs))) r14 (.inl (0, n14, .inl (upd (upd c14 (Int32.ofInt 1).toNatClampNeg (c54 (c45 w1.toNatClampNeg).toNatClampNeg)) (Int32.ofInt 2).toNatClampNeg (c55 (c45 w1.toNatClampNeg).toNatClampNeg)))))) (by rw [stt_stt (a := r14)]) ?_
  refine x_aload_n (M := M_X12_tellPair) dX12_tellPair_34 rfl ?_
  refine x_getf (M := M_X12_tellPair) (ci := 15) (C := RX12) (T := TX12) (N := 135) (ty := tyX12) cl15 dX12_tellPair_35 (ob_up (ob_df ha o14).symm (ob_at o14).1 (ob_self ha)) 14 (by decide) t_2405 e14 ?_
  refine x_iconst (M := M_X12_tellPair) dX12_tellPair_38 ?_
  refine x_aload_n (M := M_X12_tellPair) dX12_tellPair_39 rfl ?_
  refine x_getf (M := M_X12_tellPair) (ci := 15) (C := RX12) (T := TX12) (N := 135) (ty := tyX12) cl15 dX12_tellPair_40 (ob_up (ob_df ha o14).symm (ob_at o14).1 (ob_self ha)) 46 (by decide) t_2437 e46 ?_
  refine x_iload_n (M := M_X12_tellPair) dX12_tellPair_43 rfl ?_
  refine x_iald (M := M_X12_tellPair) dX12_tellPair_44 (ob_up d14_46 (ob_at o14).1 (ob_oth ha o46)) i6 ?_
  refine x_iast (M := M_X12_tellPair) dX12_tellPair_45 (ob_self (ob_oth ha o14)) i7 ?_
  refine x_heap (h' := (stt (stt h a (.inr (15, fs))) r14 (.inl (0, n14, .inl (upd (upd (upd c14 (Int32.ofInt 1).toNatClampNeg (c54 (c45 w1.toNatClampNeg).toNatClampNeg)) (Int32.ofInt 2).toNatClampNeg (c55 (c45 w1.toNatClampNeg).toNatClampNeg)) (Int32.ofInt 3).toNatClampNeg (c46 w1.toNatClampNeg)))))) (by rw [stt_stt (a := r14)]) ?_
  refine x_aload_n (M := M_X12_tellPair) dX12_tellPair_46 rfl ?_
  refine x_getf (M := M_X12_tellPair) (ci := 15) (C := RX12) (T := TX12) (N := 135) (ty := tyX12) cl15 dX12_tellPair_47 (ob_up (ob_df ha o14).symm (ob_at o14).1 (ob_self ha)) 14 (by decide) t_2405 e14 ?_
  refine x_iconst (M := M_X12_tellPair) dX12_tellPair_50 ?_
  refine x_aload_n (M := M_X12_tellPair) dX12_tellPair_51 rfl ?_
  refine x_getf (M := M_X12_tellPair) (ci := 15) (C := RX12) (T := TX12) (N := 135) (ty := tyX12) cl15 dX12_tellPair_52 (ob_up (ob_df ha o14).symm (ob_at o14).1 (ob_self ha)) 54 (by decide) t_2445 e54 ?_
  refine x_aload_n (M := M_X12_tellPair) dX12_tellPair_55 rfl ?_
  refine x_getf (M := M_X12_tellPair) (ci := 15) (C := RX12) (T := TX12) (N := 135) (ty := tyX12) cl15 dX12_tellPair_56 (ob_up (ob_df ha o14).symm (ob_at o14).1 (ob_self ha)) 45 (by decide) t_2436 e45 ?_
  refine x_iload_n (M := M_X12_tellPair) dX12_tellPair_59 rfl ?_
  refine x_iald (M := M_X12_tellPair) dX12_tellPair_60 (ob_up d14_45 (ob_at o14).1 (ob_oth ha o45)) i8 ?_
  refine x_iald (M := M_X12_tellPair) dX12_tellPair_61 (ob_up d14_54 (ob_at o14).1 (ob_oth ha o54)) i9 ?_
  refine x_iast (M := M_X12_tellPair) dX12_tellPair_62 (ob_self (ob_oth ha o14)) i10 ?_
  refine x_heap (h' := (stt (stt h a (.inr (15, fs))) r14 (.inl (0, n14, .inl (upd (upd (upd (upd c14 (Int32.ofInt 1).toNatClampNeg (c54 (c45 w1.toNatClampNeg).toNatClampNeg)) (Int32.ofInt 2).toNatClampNeg (c55 (c45 w1.toNatClampNeg).toNatClampNeg)) (Int32.ofInt 3).toNatClampNeg (c46 w1.toNatClampNeg)) (Int32.ofInt 4).toNatClampNeg (c54 (c45 w2.toNatClampNeg).toNatClampNeg)))))) (by rw [stt_stt (a := r14)]) ?_
  refine x_aload_n (M := M_X12_tellPair) dX12_tellPair_63 rfl ?_
  refine x_getf (M := M_X12_tellPair) (ci := 15) (C := RX12) (T := TX12) (N := 135) (ty := tyX12) cl15 dX12_tellPair_64 (ob_up (ob_df ha o14).symm (ob_at o14).1 (ob_self ha)) 14 (by decide) t_2405 e14 ?_
  refine x_iconst (M := M_X12_tellPair) dX12_tellPair_67 ?_
  refine x_aload_n (M := M_X12_tellPair) dX12_tellPair_68 rfl ?_
  refine x_getf (M := M_X12_tellPair) (ci := 15) (C := RX12) (T := TX12) (N := 135) (ty := tyX12) cl15 dX12_tellPair_69 (ob_up (ob_df ha o14).symm (ob_at o14).1 (ob_self ha)) 55 (by decide) t_2446 e55 ?_
  refine x_aload_n (M := M_X12_tellPair) dX12_tellPair_72 rfl ?_
  refine x_getf (M := M_X12_tellPair) (ci := 15) (C := RX12) (T := TX12) (N := 135) (ty := tyX12) cl15 dX12_tellPair_73 (ob_up (ob_df ha o14).symm (ob_at o14).1 (ob_self ha)) 45 (by decide) t_2436 e45 ?_
  refine x_iload_n (M := M_X12_tellPair) dX12_tellPair_76 rfl ?_
  refine x_iald (M := M_X12_tellPair) dX12_tellPair_77 (ob_up d14_45 (ob_at o14).1 (ob_oth ha o45)) i11 ?_
  refine x_iald (M := M_X12_tellPair) dX12_tellPair_78 (ob_up d14_55 (ob_at o14).1 (ob_oth ha o55)) i12 ?_
  refine x_iast (M := M_X12_tellPair) dX12_tellPair_79 (ob_self (ob_oth ha o14)) i13 ?_
  refine x_heap (h' := (stt (stt h a (.inr (15, fs))) r14 (.inl (0, n14, .inl (upd (upd (upd (upd (upd c14 (Int32.ofInt 1).toNatClampNeg (c54 (c45 w1.toNatClampNeg).toNatClampNeg)) (Int32.ofInt 2).toNatClampNeg (c55 (c45 w1.toNatClampNeg).toNatClampNeg)) (Int32.ofInt 3).toNatClampNeg (c46 w1.toNatClampNeg)) (Int32.ofInt 4).toNatClampNeg (c54 (c45 w2.toNatClampNeg).toNatClampNeg)) (Int32.ofInt 5).toNatClampNeg (c55 (c45 w2.toNatClampNeg).toNatClampNeg)))))) (by rw [stt_stt (a := r14)]) ?_
  refine x_aload_n (M := M_X12_tellPair) dX12_tellPair_80 rfl ?_
  refine x_getf (M := M_X12_tellPair) (ci := 15) (C := RX12) (T := TX12) (N := 135) (ty := tyX12) cl15 dX12_tellPair_81 (ob_up (ob_df ha o14).symm (ob_at o14).1 (ob_self ha)) 14 (by decide) t_2405 e14 ?_
  refine x_bipush (M := M_X12_tellPair) dX12_tellPair_84 ?_
  refine x_aload_n (M := M_X12_tellPair) dX12_tellPair_86 rfl ?_
  refine x_getf (M := M_X12_tellPair) (ci := 15) (C := RX12) (T := TX12) (N := 135) (ty := tyX12) cl15 dX12_tellPair_87 (ob_up (ob_df ha o14).symm (ob_at o14).1 (ob_self ha)) 46 (by decide) t_2437 e46 ?_
  refine x_iload_n (M := M_X12_tellPair) dX12_tellPair_90 rfl ?_
  refine x_iald (M := M_X12_tellPair) dX12_tellPair_91 (ob_up d14_46 (ob_at o14).1 (ob_oth ha o46)) i14 ?_
  refine x_iast (M := M_X12_tellPair) dX12_tellPair_92 (ob_self (ob_oth ha o14)) i15 ?_
  refine x_heap (h' := (stt (stt h a (.inr (15, fs))) r14 (.inl (0, n14, .inl (upd (upd (upd (upd (upd (upd c14 (Int32.ofInt 1).toNatClampNeg (c54 (c45 w1.toNatClampNeg).toNatClampNeg)) (Int32.ofInt 2).toNatClampNeg (c55 (c45 w1.toNatClampNeg).toNatClampNeg)) (Int32.ofInt 3).toNatClampNeg (c46 w1.toNatClampNeg)) (Int32.ofInt 4).toNatClampNeg (c54 (c45 w2.toNatClampNeg).toNatClampNeg)) (Int32.ofInt 5).toNatClampNeg (c55 (c45 w2.toNatClampNeg).toNatClampNeg)) ((Int8.ofInt 6).toInt32).toNatClampNeg (c46 w2.toNatClampNeg)))))) (by rw [stt_stt (a := r14)]) ?_
  refine x_iload_n (M := M_X12_tellPair) dX12_tellPair_93 rfl ?_
  exact x_iret (M := M_X12_tellPair) dX12_tellPair_94 rfl ⟨rfl, by rw [F_X12_tellPair, A14_X12_tellPair]⟩ (Nat.le_of_ble_eq_true rfl) (Nat.le_of_ble_eq_true rfl)
def f_X12_tellRing (c14 : Nat → Int32) (c54 : Nat → Int32) (c55 : Nat → Int32) (w0 : Int32) (w1 : Int32) : Int32 := w0
def F_X12_tellRing (fs : List Value) (c14 : Nat → Int32) (c54 : Nat → Int32) (c55 : Nat → Int32) (w0 : Int32) (w1 : Int32) : List Value := fs
def A14_X12_tellRing (c14 : Nat → Int32) (c54 : Nat → Int32) (c55 : Nat → Int32) (w0 : Int32) (w1 : Int32) : Nat → Int32 := (upd (upd c14 (Int32.ofInt 1).toNatClampNeg (c54 w1.toNatClampNeg)) (Int32.ofInt 2).toNatClampNeg (c55 w1.toNatClampNeg))
theorem l_X12_tellRing {fs : List Value} {c14 : Nat → Int32} {c54 : Nat → Int32} {c55 : Nat → Int32} {w0 : Int32} {w1 : Int32} : (F_X12_tellRing fs c14 c54 c55 w0 w1).length = fs.length := by
  unfold F_X12_tellRing
  first | rfl | simp only [List.length_set]
theorem k_X12_tellRing {fs : List Value} {c14 : Nat → Int32} {c54 : Nat → Int32} {c55 : Nat → Int32} {w0 : Int32} {w1 : Int32} {k : Nat} (hk : k ∉ ([] : List Nat)) : (F_X12_tellRing fs c14 c54 c55 w0 w1)[k]? = fs[k]? := by
  clear hk
  unfold F_X12_tellRing
  first | rfl | simp only []
theorem p_X12_tellRing {l : Launch} {E : EE} (hl : l.stackTraces = false) {h : HP} {c14 : Nat → Int32} {c54 : Nat → Int32} {c55 : Nat → Int32} {w0 : Int32} {w1 : Int32} {a : Nat} {fs : List Value} (ha : ob h a = some (.inr (15, fs))) {r14 n14 : Nat} (e14 : fs[14]? = some (.ref r14)) (o14 : ob h r14 = some (.inl (0, n14, .inl c14))) {r54 n54 : Nat} (e54 : fs[54]? = some (.ref r54)) (o54 : ob h r54 = some (.inl (0, n54, .inl c54))) {r55 n55 : Nat} (e55 : fs[55]? = some (.ref r55)) (o55 : ob h r55 = some (.inl (0, n55, .inl c55))) (d14_54 : r14 ≠ r54) (d14_55 : r14 ≠ r55) (i0 : vp_in w1 n54) (i1 : vp_in (Int32.ofInt 1) n14) (i2 : vp_in w1 n55) (i3 : vp_in (Int32.ofInt 2) n14) : en_C l E M_X12_tellRing 0 0 0 [.ref a, .int w0, .int w1] h (pR (some (.int (f_X12_tellRing c14 c54 c55 w0 w1))) (stt (stt h a (.inr (15, F_X12_tellRing fs c14 c54 c55 w0 w1))) r14 (.inl (0, n14, .inl (A14_X12_tellRing c14 c54 c55 w0 w1))))) := by
  refine en_mk m_X12_tellRing rfl hl (Nat.le_of_ble_eq_true rfl) ?_
  refine x_heap (h' := (stt (stt h a (.inr (15, fs))) r14 (.inl (0, n14, .inl c14)))) (by rw [stt_id ha, stt_id o14]) ?_
  refine x_aload_n (M := M_X12_tellRing) dX12_tellRing_0 rfl ?_
  refine x_getf (M := M_X12_tellRing) (ci := 15) (C := RX12) (T := TX12) (N := 135) (ty := tyX12) cl15 dX12_tellRing_1 (ob_up (ob_df ha o14).symm (ob_at o14).1 (ob_self ha)) 14 (by decide) t_2405 e14 ?_
  refine x_iconst (M := M_X12_tellRing) dX12_tellRing_4 ?_
  refine x_aload_n (M := M_X12_tellRing) dX12_tellRing_5 rfl ?_
  refine x_getf (M := M_X12_tellRing) (ci := 15) (C := RX12) (T := TX12) (N := 135) (ty := tyX12) cl15 dX12_tellRing_6 (ob_up (ob_df ha o14).symm (ob_at o14).1 (ob_self ha)) 54 (by decide) t_2445 e54 ?_
  refine x_iload_n (M := M_X12_tellRing) dX12_tellRing_9 rfl ?_
  refine x_iald (M := M_X12_tellRing) dX12_tellRing_10 (ob_up d14_54 (ob_at o14).1 (ob_oth ha o54)) i0 ?_
  refine x_iast (M := M_X12_tellRing) dX12_tellRing_11 (ob_self (ob_oth ha o14)) i1 ?_
  refine x_heap (h' := (stt (stt h a (.inr (15, fs))) r14 (.inl (0, n14, .inl (upd c14 (Int32.ofInt 1).toNatClampNeg (c54 w1.toNatClampNeg)))))) (by rw [stt_stt (a := r14)]) ?_
  refine x_aload_n (M := M_X12_tellRing) dX12_tellRing_12 rfl ?_
  refine x_getf (M := M_X12_tellRing) (ci := 15) (C := RX12) (T := TX12) (N := 135) (ty := tyX12) cl15 dX12_tellRing_13 (ob_up (ob_df ha o14).symm (ob_at o14).1 (ob_self ha)) 14 (by decide) t_2405 e14 ?_
  refine x_iconst (M := M_X12_tellRing) dX12_tellRing_16 ?_
  refine x_aload_n (M := M_X12_tellRing) dX12_tellRing_17 rfl ?_
  refine x_getf (M := M_X12_tellRing) (ci := 15) (C := RX12) (T := TX12) (N := 135) (ty := tyX12) cl15 dX12_tellRing_18 (ob_up (ob_df ha o14).symm (ob_at o14).1 (ob_self ha)) 55 (by decide) t_2446 e55 ?_
  refine x_iload_n (M := M_X12_tellRing) dX12_tellRing_21 rfl ?_
  refine x_iald (M := M_X12_tellRing) dX12_tellRing_22 (ob_up d14_55 (ob_at o14).1 (ob_oth ha o55)) i2 ?_
  refine x_iast (M := M_X12_tellRing) dX12_tellRing_23 (ob_self (ob_oth ha o14)) i3 ?_
  refine x_heap (h' := (stt (stt h a (.inr (15, fs))) r14 (.inl (0, n14, .inl (upd (upd c14 (Int32.ofInt 1).toNatClampNeg (c54 w1.toNatClampNeg)) (Int32.ofInt 2).toNatClampNeg (c55 w1.toNatClampNeg)))))) (by rw [stt_stt (a := r14)]) ?_
  refine x_iload_n (M := M_X12_tellRing) dX12_tellRing_24 rfl ?_
  exact x_iret (M := M_X12_tellRing) dX12_tellRing_25 rfl ⟨rfl, by rw [F_X12_tellRing, A14_X12_tellRing]⟩ (Nat.le_of_ble_eq_true rfl) (Nat.le_of_ble_eq_true rfl)
def f_X12_place (c14 : Nat → Int32) (w0 : Int32) : Int32 := if (f_X12_in (w0.toInt64) (Int64.ofNat ((0 : Fin 2) : Nat)) (6 : Int64)) = 0 then if (f_X12_fails (Int32.ofInt 0) (Int32.ofInt 1) (Int32.ofInt 1)) = 0 then (c14 w0.toNatClampNeg) else ((Int32.ofInt 0)) else (if (f_X12_fails (Int32.ofInt 0) (Int32.ofInt 0) (Int32.ofInt 1)) = 0 then (c14 w0.toNatClampNeg) else ((Int32.ofInt 0)))
def F_X12_place (fs : List Value) (c14 : Nat → Int32) (w0 : Int32) : List Value := if (f_X12_in (w0.toInt64) (Int64.ofNat ((0 : Fin 2) : Nat)) (6 : Int64)) = 0 then if (f_X12_fails (Int32.ofInt 0) (Int32.ofInt 1) (Int32.ofInt 1)) = 0 then (F_X12_fails (fs.set 0 (.int (Int32.ofInt 0))) (Int32.ofInt 0) (Int32.ofInt 1) (Int32.ofInt 1)) else ((F_X12_fails (fs.set 0 (.int (Int32.ofInt 0))) (Int32.ofInt 0) (Int32.ofInt 1) (Int32.ofInt 1))) else (if (f_X12_fails (Int32.ofInt 0) (Int32.ofInt 0) (Int32.ofInt 1)) = 0 then (F_X12_fails (fs.set 0 (.int (Int32.ofInt 0))) (Int32.ofInt 0) (Int32.ofInt 0) (Int32.ofInt 1)) else ((F_X12_fails (fs.set 0 (.int (Int32.ofInt 0))) (Int32.ofInt 0) (Int32.ofInt 0) (Int32.ofInt 1))))
theorem l_X12_place {fs : List Value} {c14 : Nat → Int32} {w0 : Int32} : (F_X12_place fs c14 w0).length = fs.length := by
  unfold F_X12_place
  repeat' split
  all_goals first | rfl | simp only [List.length_set, l_X12_fails]
theorem k_X12_place {fs : List Value} {c14 : Nat → Int32} {w0 : Int32} {k : Nat} (hk : k ∉ ([0] : List Nat)) : (F_X12_place fs c14 w0)[k]? = fs[k]? := by
  simp only [List.mem_cons, List.not_mem_nil, or_false, not_or] at hk
  unfold F_X12_place
  repeat' split
  all_goals first | rfl | simp only [List.getElem?_set_ne (by omega : 0 ≠ k), k_X12_fails (k := k) (by simp <;> omega)]
def V0_X12_place (c14 : Nat → Int32) (w0 : Int32) : Int32 := if (f_X12_in (w0.toInt64) (Int64.ofNat ((0 : Fin 2) : Nat)) (6 : Int64)) = 0 then if (f_X12_fails (Int32.ofInt 0) (Int32.ofInt 1) (Int32.ofInt 1)) = 0 then (V0_X12_fails (Int32.ofInt 0) (Int32.ofInt 1) (Int32.ofInt 1)) else ((V0_X12_fails (Int32.ofInt 0) (Int32.ofInt 1) (Int32.ofInt 1))) else (if (f_X12_fails (Int32.ofInt 0) (Int32.ofInt 0) (Int32.ofInt 1)) = 0 then (V0_X12_fails (Int32.ofInt 0) (Int32.ofInt 0) (Int32.ofInt 1)) else ((V0_X12_fails (Int32.ofInt 0) (Int32.ofInt 0) (Int32.ofInt 1))))
theorem v0_X12_place {fs : List Value} {c14 : Nat → Int32} {w0 : Int32} (hn : fs.length = 135) : (F_X12_place fs c14 w0)[0]? = some (.int (V0_X12_place c14 w0)) := by
  unfold F_X12_place V0_X12_place
  exact (gi (gi (v0_X12_fails (by simp only [List.length_set, hn, l_X12_fails]) (gs_eq (by simp only [List.length_set, hn, l_X12_fails]; decide))) (v0_X12_fails (by simp only [List.length_set, hn, l_X12_fails]) (gs_eq (by simp only [List.length_set, hn, l_X12_fails]; decide)))) (gi (v0_X12_fails (by simp only [List.length_set, hn, l_X12_fails]) (gs_eq (by simp only [List.length_set, hn, l_X12_fails]; decide))) (v0_X12_fails (by simp only [List.length_set, hn, l_X12_fails]) (gs_eq (by simp only [List.length_set, hn, l_X12_fails]; decide)))))
theorem p_X12_place {l : Launch} {E : EE} (hl : l.stackTraces = false) {h : HP} {c14 : Nat → Int32} {w0 : Int32} {a : Nat} {fs : List Value} (ha : ob h a = some (.inr (15, fs))) (hn : fs.length = 135) {r14 n14 : Nat} (e14 : fs[14]? = some (.ref r14)) (o14 : ob h r14 = some (.inl (0, n14, .inl c14))) (i0 : (¬ (f_X12_in (w0.toInt64) (Int64.ofNat ((0 : Fin 2) : Nat)) (6 : Int64)) = 0) → ((f_X12_fails (Int32.ofInt 0) (Int32.ofInt 0) (Int32.ofInt 1)) = 0) → vp_in w0 n14) (i1 : ((f_X12_in (w0.toInt64) (Int64.ofNat ((0 : Fin 2) : Nat)) (6 : Int64)) = 0) → ((f_X12_fails (Int32.ofInt 0) (Int32.ofInt 1) (Int32.ofInt 1)) = 0) → vp_in w0 n14) : en_C l E M_X12_place 1 0 0 [.ref a, .int w0] h (pR (some (.int (f_X12_place c14 w0))) (stt h a (.inr (15, F_X12_place fs c14 w0)))) := by
  refine en_mk m_X12_place rfl hl (Nat.le_of_ble_eq_true rfl) ?_
  refine x_heap (h' := (stt h a (.inr (15, fs)))) (by rw [stt_id ha]) ?_
  refine x_aload_n (M := M_X12_place) dX12_place_0 rfl ?_
  refine x_iconst (M := M_X12_place) dX12_place_1 ?_
  refine x_put (M := M_X12_place) (ci := 15) (C := RX12) (T := TX12) (N := 135) (ty := tyX12) cl15 dX12_place_2 (ob_self ha) 0 (by decide) t_2391 (Or.inl rfl) (by simp only [List.length_set, hn]; decide) rfl ?_
  refine x_heap (h' := (stt h a (.inr (15, (fs.set 0 (.int (Int32.ofInt 0))))))) (by rw [stt_stt (a := a)]) ?_
  refine x_aload_n (M := M_X12_place) dX12_place_5 rfl ?_
  refine x_iload_n (M := M_X12_place) dX12_place_6 rfl ?_
  refine x_i2l (M := M_X12_place) dX12_place_7 ?_
  refine x_lconst (M := M_X12_place) dX12_place_8 ?_
  refine x_ldc2 (M := M_X12_place) dX12_place_9 t_3341 ?_
  refine x_callSR (M := M_X12_place) (M' := M_X12_in) rfl rfl dX12_place_12 m_X12_in t_2818 t_2819 (p_X12_in hl) rfl rfl (Nat.le_of_ble_eq_true rfl) (Nat.le_of_ble_eq_true rfl) (Nat.le_of_ble_eq_true rfl) (Nat.le_of_ble_eq_true rfl) ?_
  refine x_if_ne (M := M_X12_place) (tgt := 22) dX12_place_15 (by decide) (fun q0 => ?_) (fun q0 => ?_)
  · refine x_iconst (M := M_X12_place) dX12_place_22 ?_
    refine x_iconst (M := M_X12_place) dX12_place_23 ?_
    refine x_callVR (M := M_X12_place) (M' := M_X12_fails) rfl rfl dX12_place_24 m_X12_fails t_2805 t_2807 s_157 (p_X12_fails hl (ob_self ha) (by simp only [List.length_set, hn]) (gs_eq (by simp only [List.length_set, hn]; decide))) rfl rfl (ob_self ha) rfl (Nat.le_of_ble_eq_true rfl) (Nat.le_of_ble_eq_true rfl) (Nat.le_of_ble_eq_true rfl) (Nat.le_of_ble_eq_true rfl) ?_
    refine x_heap (h' := (stt h a (.inr (15, (F_X12_fails (fs.set 0 (.int (Int32.ofInt 0))) (Int32.ofInt 0) (Int32.ofInt 0) (Int32.ofInt 1)))))) (by rw [stt_stt (a := a)]) ?_
    refine x_if_eq (M := M_X12_place) (tgt := 32) dX12_place_27 (by decide) (fun q1 => ?_) (fun q1 => ?_)
    · refine x_aload_n (M := M_X12_place) dX12_place_32 rfl ?_
      refine x_getf (M := M_X12_place) (ci := 15) (C := RX12) (T := TX12) (N := 135) (ty := tyX12) cl15 dX12_place_33 (ob_self ha) 14 (by decide) t_2405 ((k_X12_fails (by decide)).trans (gs_ne (by decide) e14)) ?_
      refine x_iload_n (M := M_X12_place) dX12_place_36 rfl ?_
      refine x_iald (M := M_X12_place) dX12_place_37 (ob_oth ha o14) (i0 q0 q1) ?_
      exact x_iret (M := M_X12_place) dX12_place_38 rfl ⟨by rw [f_X12_place, if_neg q0, if_pos q1], by rw [F_X12_place, if_neg q0, if_pos q1]⟩ (Nat.le_of_ble_eq_true rfl) (Nat.le_of_ble_eq_true rfl)
    · refine x_iconst (M := M_X12_place) dX12_place_30 ?_
      exact x_iret (M := M_X12_place) dX12_place_31 rfl ⟨by rw [f_X12_place, if_neg q0, if_neg q1], by rw [F_X12_place, if_neg q0, if_neg q1]⟩ (Nat.le_of_ble_eq_true rfl) (Nat.le_of_ble_eq_true rfl)
  · refine x_iconst (M := M_X12_place) dX12_place_18 ?_
    refine x_goto (M := M_X12_place) (tgt := 23) dX12_place_19 (by decide) ?_
    refine x_iconst (M := M_X12_place) dX12_place_23 ?_
    refine x_callVR (M := M_X12_place) (M' := M_X12_fails) rfl rfl dX12_place_24 m_X12_fails t_2805 t_2807 s_157 (p_X12_fails hl (ob_self ha) (by simp only [List.length_set, hn, l_X12_fails]) (gs_eq (by simp only [List.length_set, hn, l_X12_fails]; decide))) rfl rfl (ob_self ha) rfl (Nat.le_of_ble_eq_true rfl) (Nat.le_of_ble_eq_true rfl) (Nat.le_of_ble_eq_true rfl) (Nat.le_of_ble_eq_true rfl) ?_
    refine x_heap (h' := (stt h a (.inr (15, (F_X12_fails (fs.set 0 (.int (Int32.ofInt 0))) (Int32.ofInt 0) (Int32.ofInt 1) (Int32.ofInt 1)))))) (by rw [stt_stt (a := a)]) ?_
    refine x_if_eq (M := M_X12_place) (tgt := 32) dX12_place_27 (by decide) (fun q1 => ?_) (fun q1 => ?_)
    · refine x_aload_n (M := M_X12_place) dX12_place_32 rfl ?_
      refine x_getf (M := M_X12_place) (ci := 15) (C := RX12) (T := TX12) (N := 135) (ty := tyX12) cl15 dX12_place_33 (ob_self ha) 14 (by decide) t_2405 ((k_X12_fails (by decide)).trans (gs_ne (by decide) e14)) ?_
      refine x_iload_n (M := M_X12_place) dX12_place_36 rfl ?_
      refine x_iald (M := M_X12_place) dX12_place_37 (ob_oth ha o14) (i1 q0 q1) ?_
      exact x_iret (M := M_X12_place) dX12_place_38 rfl ⟨by rw [f_X12_place, if_pos q0, if_pos q1], by rw [F_X12_place, if_pos q0, if_pos q1]⟩ (Nat.le_of_ble_eq_true rfl) (Nat.le_of_ble_eq_true rfl)
    · refine x_iconst (M := M_X12_place) dX12_place_30 ?_
      exact x_iret (M := M_X12_place) dX12_place_31 rfl ⟨by rw [f_X12_place, if_pos q0, if_neg q1], by rw [F_X12_place, if_pos q0, if_neg q1]⟩ (Nat.le_of_ble_eq_true rfl) (Nat.le_of_ble_eq_true rfl)
def f_X12_isSooner (g76 : Int64) (g77 : Int64) (g78 : Int32) (c72 : Nat → Int64) (c73 : Nat → Int64) (c74 : Nat → Int32) (w0 : Int32) : Int32 := if (lg_cmp ((g76 * (c73 w0.toNatClampNeg)) - ((c72 w0.toNatClampNeg) * g77)) (Int64.ofNat ((0 : Fin 2) : Nat))) < 0 then (Int32.ofInt 1) else (if (lg_cmp ((g76 * (c73 w0.toNatClampNeg)) - ((c72 w0.toNatClampNeg) * g77)) (Int64.ofNat ((0 : Fin 2) : Nat))) = 0 then if g78 = 0 then if (c74 w0.toNatClampNeg) = 0 then (Int32.ofInt 0) else ((Int32.ofInt 1)) else ((Int32.ofInt 0)) else ((Int32.ofInt 0)))
theorem b_X12_isSooner (g76 : Int64) (g77 : Int64) (g78 : Int32) (c72 : Nat → Int64) (c73 : Nat → Int64) (c74 : Nat → Int32) (w0 : Int32) : f_X12_isSooner g76 g77 g78 c72 c73 c74 w0 = 0 ∨ f_X12_isSooner g76 g77 g78 c72 c73 c74 w0 = 1 := (ite01 (Or.inr rfl) (ite01 (ite01 (ite01 (Or.inl rfl) (Or.inr rfl)) (Or.inl rfl)) (Or.inl rfl)))
theorem p_X12_isSooner {l : Launch} {E : EE} (hl : l.stackTraces = false) {h : HP} {g76 : Int64} {g77 : Int64} {g78 : Int32} {c72 : Nat → Int64} {c73 : Nat → Int64} {c74 : Nat → Int32} {w0 : Int32} {a : Nat} {fs : List Value} (ha : ob h a = some (.inr (15, fs))) (e76 : fs[76]? = some (.long g76)) (e77 : fs[77]? = some (.long g77)) (e78 : fs[78]? = some (.int g78)) {r72 n72 : Nat} (e72 : fs[72]? = some (.ref r72)) (o72 : ob h r72 = some (.inl (1, n72, .inr (.inl c72)))) {r73 n73 : Nat} (e73 : fs[73]? = some (.ref r73)) (o73 : ob h r73 = some (.inl (1, n73, .inr (.inl c73)))) {r74 n74 : Nat} (e74 : fs[74]? = some (.ref r74)) (o74 : ob h r74 = some (.inl (3, n74, .inl c74))) (i0 : vp_in w0 n73) (i1 : vp_in w0 n72) (i2 : (¬ (lg_cmp ((g76 * (c73 w0.toNatClampNeg)) - ((c72 w0.toNatClampNeg) * g77)) (Int64.ofNat ((0 : Fin 2) : Nat))) < 0) → ((lg_cmp ((g76 * (c73 w0.toNatClampNeg)) - ((c72 w0.toNatClampNeg) * g77)) (Int64.ofNat ((0 : Fin 2) : Nat))) = 0) → (g78 = 0) → vp_in w0 n74) : en_C l E M_X12_isSooner 0 0 0 [.ref a, .int w0] h (pR (some (.int (f_X12_isSooner g76 g77 g78 c72 c73 c74 w0))) h) := by
  refine en_mk m_X12_isSooner rfl hl (Nat.le_of_ble_eq_true rfl) ?_
  refine x_aload_n (M := M_X12_isSooner) dX12_isSooner_0 rfl ?_
  refine x_getf (M := M_X12_isSooner) (ci := 15) (C := RX12) (T := TX12) (N := 135) (ty := tyX12) cl15 dX12_isSooner_1 ha 76 (by decide) t_2467 e76 ?_
  refine x_aload_n (M := M_X12_isSooner) dX12_isSooner_4 rfl ?_
  refine x_getf (M := M_X12_isSooner) (ci := 15) (C := RX12) (T := TX12) (N := 135) (ty := tyX12) cl15 dX12_isSooner_5 ha 73 (by decide) t_2464 e73 ?_
  refine x_iload_n (M := M_X12_isSooner) dX12_isSooner_8 rfl ?_
  refine x_lald (M := M_X12_isSooner) dX12_isSooner_9 o73 i0 ?_
  refine x_lmul (M := M_X12_isSooner) dX12_isSooner_10 ?_
  refine x_aload_n (M := M_X12_isSooner) dX12_isSooner_11 rfl ?_
  refine x_getf (M := M_X12_isSooner) (ci := 15) (C := RX12) (T := TX12) (N := 135) (ty := tyX12) cl15 dX12_isSooner_12 ha 72 (by decide) t_2463 e72 ?_
  refine x_iload_n (M := M_X12_isSooner) dX12_isSooner_15 rfl ?_
  refine x_lald (M := M_X12_isSooner) dX12_isSooner_16 o72 i1 ?_
  refine x_aload_n (M := M_X12_isSooner) dX12_isSooner_17 rfl ?_
  refine x_getf (M := M_X12_isSooner) (ci := 15) (C := RX12) (T := TX12) (N := 135) (ty := tyX12) cl15 dX12_isSooner_18 ha 77 (by decide) t_2468 e77 ?_
  refine x_lmul (M := M_X12_isSooner) dX12_isSooner_21 ?_
  refine x_lsub (M := M_X12_isSooner) dX12_isSooner_22 ?_
  refine x_lstore_n (M := M_X12_isSooner) dX12_isSooner_23 (by decide) rfl ?_
  refine x_norm (lv' := [some (.ref a), some (.int w0), some (.long ((g76 * (c73 w0.toNatClampNeg)) - ((c72 w0.toNatClampNeg) * g77))), none]) rfl rfl rfl rfl rfl ?_
  refine x_lload_n (M := M_X12_isSooner) dX12_isSooner_24 rfl ?_
  refine x_lconst (M := M_X12_isSooner) dX12_isSooner_25 ?_
  refine x_lcmp (M := M_X12_isSooner) dX12_isSooner_26 ?_
  refine x_if_lt (M := M_X12_isSooner) (tgt := 52) dX12_isSooner_27 (by decide) (fun q0 => ?_) (fun q0 => ?_)
  · refine x_iconst (M := M_X12_isSooner) dX12_isSooner_52 ?_
    refine x_goto (M := M_X12_isSooner) (tgt := 57) dX12_isSooner_53 (by decide) ?_
    exact x_zret (M := M_X12_isSooner) dX12_isSooner_57 rfl (Or.inr rfl) ⟨by rw [f_X12_isSooner, if_pos q0], rfl⟩ (Nat.le_of_ble_eq_true rfl) (Nat.le_of_ble_eq_true rfl)
  · refine x_lload_n (M := M_X12_isSooner) dX12_isSooner_30 rfl ?_
    refine x_lconst (M := M_X12_isSooner) dX12_isSooner_31 ?_
    refine x_lcmp (M := M_X12_isSooner) dX12_isSooner_32 ?_
    refine x_if_ne (M := M_X12_isSooner) (tgt := 56) dX12_isSooner_33 (by decide) (fun q1 => ?_) (fun q1 => ?_)
    · refine x_iconst (M := M_X12_isSooner) dX12_isSooner_56 ?_
      exact x_zret (M := M_X12_isSooner) dX12_isSooner_57 rfl (Or.inl rfl) ⟨by rw [f_X12_isSooner, if_neg q0, if_neg q1], rfl⟩ (Nat.le_of_ble_eq_true rfl) (Nat.le_of_ble_eq_true rfl)
    · refine x_aload_n (M := M_X12_isSooner) dX12_isSooner_36 rfl ?_
      refine x_getf (M := M_X12_isSooner) (ci := 15) (C := RX12) (T := TX12) (N := 135) (ty := tyX12) cl15 dX12_isSooner_37 ha 78 (by decide) t_2469 e78 ?_
      refine x_if_ne (M := M_X12_isSooner) (tgt := 56) dX12_isSooner_40 (by decide) (fun q2 => ?_) (fun q2 => ?_)
      · refine x_iconst (M := M_X12_isSooner) dX12_isSooner_56 ?_
        exact x_zret (M := M_X12_isSooner) dX12_isSooner_57 rfl (Or.inl rfl) ⟨by rw [f_X12_isSooner, if_neg q0, if_pos q1, if_neg q2], rfl⟩ (Nat.le_of_ble_eq_true rfl) (Nat.le_of_ble_eq_true rfl)
      · refine x_aload_n (M := M_X12_isSooner) dX12_isSooner_43 rfl ?_
        refine x_getf (M := M_X12_isSooner) (ci := 15) (C := RX12) (T := TX12) (N := 135) (ty := tyX12) cl15 dX12_isSooner_44 ha 74 (by decide) t_2465 e74 ?_
        refine x_iload_n (M := M_X12_isSooner) dX12_isSooner_47 rfl ?_
        refine x_zald (M := M_X12_isSooner) dX12_isSooner_48 o74 (i2 q0 q1 q2) ?_
        refine x_if_eq (M := M_X12_isSooner) (tgt := 56) dX12_isSooner_49 (by decide) (fun q3 => ?_) (fun q3 => ?_)
        · refine x_iconst (M := M_X12_isSooner) dX12_isSooner_56 ?_
          exact x_zret (M := M_X12_isSooner) dX12_isSooner_57 rfl (Or.inl rfl) ⟨by rw [f_X12_isSooner, if_neg q0, if_pos q1, if_pos q2, if_pos q3], rfl⟩ (Nat.le_of_ble_eq_true rfl) (Nat.le_of_ble_eq_true rfl)
        · refine x_iconst (M := M_X12_isSooner) dX12_isSooner_52 ?_
          refine x_goto (M := M_X12_isSooner) (tgt := 57) dX12_isSooner_53 (by decide) ?_
          exact x_zret (M := M_X12_isSooner) dX12_isSooner_57 rfl (Or.inr rfl) ⟨by rw [f_X12_isSooner, if_neg q0, if_pos q1, if_pos q2, if_neg q3], rfl⟩ (Nat.le_of_ble_eq_true rfl) (Nat.le_of_ble_eq_true rfl)
def f_X12_isAhead (w0 : Int64) (w1 : Int64) (w2 : Int64) (w3 : Int64) (w4 : Int64) (w5 : Int64) : Int32 := if 0 ≤ (lg_cmp (f_X12_cross w0 w1 w2 w3) (Int64.ofNat ((0 : Fin 2) : Nat))) then if (lg_cmp (f_X12_cross w0 w1 w2 w3) (Int64.ofNat ((0 : Fin 2) : Nat))) = 0 then if 0 ≤ (lg_cmp (f_X12_cross w0 w1 w4 w5) (Int64.ofNat ((0 : Fin 2) : Nat))) then if (lg_cmp (f_X12_cross w0 w1 w4 w5) (Int64.ofNat ((0 : Fin 2) : Nat))) = 0 then if (Int32.ofInt 1) < (Int32.ofInt 1) then (Int32.ofInt 1) else (if (Int32.ofInt 1) = (Int32.ofInt 1) then if 0 ≤ (lg_cmp (f_X12_cross w2 w3 w4 w5) (Int64.ofNat ((0 : Fin 2) : Nat))) then (Int32.ofInt 0) else ((Int32.ofInt 1)) else ((Int32.ofInt 0))) else (if (Int32.ofInt 1) < (Int32.ofInt 2) then (Int32.ofInt 1) else (if (Int32.ofInt 1) = (Int32.ofInt 2) then if 0 ≤ (lg_cmp (f_X12_cross w2 w3 w4 w5) (Int64.ofNat ((0 : Fin 2) : Nat))) then (Int32.ofInt 0) else ((Int32.ofInt 1)) else ((Int32.ofInt 0)))) else (if (Int32.ofInt 1) < (Int32.ofInt 0) then (Int32.ofInt 1) else (if (Int32.ofInt 1) = (Int32.ofInt 0) then if 0 ≤ (lg_cmp (f_X12_cross w2 w3 w4 w5) (Int64.ofNat ((0 : Fin 2) : Nat))) then (Int32.ofInt 0) else ((Int32.ofInt 1)) else ((Int32.ofInt 0)))) else (if 0 ≤ (lg_cmp (f_X12_cross w0 w1 w4 w5) (Int64.ofNat ((0 : Fin 2) : Nat))) then if (lg_cmp (f_X12_cross w0 w1 w4 w5) (Int64.ofNat ((0 : Fin 2) : Nat))) = 0 then if (Int32.ofInt 2) < (Int32.ofInt 1) then (Int32.ofInt 1) else (if (Int32.ofInt 2) = (Int32.ofInt 1) then if 0 ≤ (lg_cmp (f_X12_cross w2 w3 w4 w5) (Int64.ofNat ((0 : Fin 2) : Nat))) then (Int32.ofInt 0) else ((Int32.ofInt 1)) else ((Int32.ofInt 0))) else (if (Int32.ofInt 2) < (Int32.ofInt 2) then (Int32.ofInt 1) else (if (Int32.ofInt 2) = (Int32.ofInt 2) then if 0 ≤ (lg_cmp (f_X12_cross w2 w3 w4 w5) (Int64.ofNat ((0 : Fin 2) : Nat))) then (Int32.ofInt 0) else ((Int32.ofInt 1)) else ((Int32.ofInt 0)))) else (if (Int32.ofInt 2) < (Int32.ofInt 0) then (Int32.ofInt 1) else (if (Int32.ofInt 2) = (Int32.ofInt 0) then if 0 ≤ (lg_cmp (f_X12_cross w2 w3 w4 w5) (Int64.ofNat ((0 : Fin 2) : Nat))) then (Int32.ofInt 0) else ((Int32.ofInt 1)) else ((Int32.ofInt 0))))) else (if 0 ≤ (lg_cmp (f_X12_cross w0 w1 w4 w5) (Int64.ofNat ((0 : Fin 2) : Nat))) then if (lg_cmp (f_X12_cross w0 w1 w4 w5) (Int64.ofNat ((0 : Fin 2) : Nat))) = 0 then if (Int32.ofInt 0) < (Int32.ofInt 1) then (Int32.ofInt 1) else (if (Int32.ofInt 0) = (Int32.ofInt 1) then if 0 ≤ (lg_cmp (f_X12_cross w2 w3 w4 w5) (Int64.ofNat ((0 : Fin 2) : Nat))) then (Int32.ofInt 0) else ((Int32.ofInt 1)) else ((Int32.ofInt 0))) else (if (Int32.ofInt 0) < (Int32.ofInt 2) then (Int32.ofInt 1) else (if (Int32.ofInt 0) = (Int32.ofInt 2) then if 0 ≤ (lg_cmp (f_X12_cross w2 w3 w4 w5) (Int64.ofNat ((0 : Fin 2) : Nat))) then (Int32.ofInt 0) else ((Int32.ofInt 1)) else ((Int32.ofInt 0)))) else (if (Int32.ofInt 0) < (Int32.ofInt 0) then (Int32.ofInt 1) else (if (Int32.ofInt 0) = (Int32.ofInt 0) then if 0 ≤ (lg_cmp (f_X12_cross w2 w3 w4 w5) (Int64.ofNat ((0 : Fin 2) : Nat))) then (Int32.ofInt 0) else ((Int32.ofInt 1)) else ((Int32.ofInt 0)))))
theorem b_X12_isAhead (w0 : Int64) (w1 : Int64) (w2 : Int64) (w3 : Int64) (w4 : Int64) (w5 : Int64) : f_X12_isAhead w0 w1 w2 w3 w4 w5 = 0 ∨ f_X12_isAhead w0 w1 w2 w3 w4 w5 = 1 := (ite01 (ite01 (ite01 (ite01 (ite01 (Or.inr rfl) (ite01 (ite01 (Or.inl rfl) (Or.inr rfl)) (Or.inl rfl))) (ite01 (Or.inr rfl) (ite01 (ite01 (Or.inl rfl) (Or.inr rfl)) (Or.inl rfl)))) (ite01 (Or.inr rfl) (ite01 (ite01 (Or.inl rfl) (Or.inr rfl)) (Or.inl rfl)))) (ite01 (ite01 (ite01 (Or.inr rfl) (ite01 (ite01 (Or.inl rfl) (Or.inr rfl)) (Or.inl rfl))) (ite01 (Or.inr rfl) (ite01 (ite01 (Or.inl rfl) (Or.inr rfl)) (Or.inl rfl)))) (ite01 (Or.inr rfl) (ite01 (ite01 (Or.inl rfl) (Or.inr rfl)) (Or.inl rfl))))) (ite01 (ite01 (ite01 (Or.inr rfl) (ite01 (ite01 (Or.inl rfl) (Or.inr rfl)) (Or.inl rfl))) (ite01 (Or.inr rfl) (ite01 (ite01 (Or.inl rfl) (Or.inr rfl)) (Or.inl rfl)))) (ite01 (Or.inr rfl) (ite01 (ite01 (Or.inl rfl) (Or.inr rfl)) (Or.inl rfl)))))
set_option maxHeartbeats 8000000 in
set_option maxRecDepth 20000 in
theorem p_X12_isAhead {l : Launch} {E : EE} (hl : l.stackTraces = false) {h : HP} {w0 : Int64} {w1 : Int64} {w2 : Int64} {w3 : Int64} {w4 : Int64} {w5 : Int64} : en_C l E M_X12_isAhead 1 0 0 [.long w0, .long w1, .long w2, .long w3, .long w4, .long w5] h (pR (some (.int (f_X12_isAhead w0 w1 w2 w3 w4 w5))) h) := by
  refine en_mk m_X12_isAhead rfl hl (Nat.le_of_ble_eq_true rfl) ?_
  refine x_lload_n (M := M_X12_isAhead) dX12_isAhead_0 rfl ?_
  refine x_lload_n (M := M_X12_isAhead) dX12_isAhead_1 rfl ?_
  refine x_lload (M := M_X12_isAhead) dX12_isAhead_2 rfl ?_
  refine x_lload (M := M_X12_isAhead) dX12_isAhead_4 rfl ?_
  refine x_callSR (M := M_X12_isAhead) (M' := M_X12_cross) rfl rfl dX12_isAhead_6 m_X12_cross t_3265 t_3266 (p_X12_cross hl) rfl rfl (Nat.le_of_ble_eq_true rfl) (Nat.le_of_ble_eq_true rfl) (Nat.le_of_ble_eq_true rfl) (Nat.le_of_ble_eq_true rfl) ?_
  refine x_lstore (M := M_X12_isAhead) dX12_isAhead_9 (by decide) rfl ?_
  refine x_norm (lv' := [some (.long w0), none, some (.long w1), none, some (.long w2), none, some (.long w3), none, some (.long w4), none, some (.long w5), none, some (.long (f_X12_cross w0 w1 w2 w3)), none, none, none, none, none]) rfl rfl rfl rfl rfl ?_
  refine x_lload_n (M := M_X12_isAhead) dX12_isAhead_11 rfl ?_
  refine x_lload_n (M := M_X12_isAhead) dX12_isAhead_12 rfl ?_
  refine x_lload (M := M_X12_isAhead) dX12_isAhead_13 rfl ?_
  refine x_lload (M := M_X12_isAhead) dX12_isAhead_15 rfl ?_
  refine x_callSR (M := M_X12_isAhead) (M' := M_X12_cross) rfl rfl dX12_isAhead_17 m_X12_cross t_3265 t_3266 (p_X12_cross hl) rfl rfl (Nat.le_of_ble_eq_true rfl) (Nat.le_of_ble_eq_true rfl) (Nat.le_of_ble_eq_true rfl) (Nat.le_of_ble_eq_true rfl) ?_
  refine x_lstore (M := M_X12_isAhead) dX12_isAhead_20 (by decide) rfl ?_
  refine x_norm (lv' := [some (.long w0), none, some (.long w1), none, some (.long w2), none, some (.long w3), none, some (.long w4), none, some (.long w5), none, some (.long (f_X12_cross w0 w1 w2 w3)), none, some (.long (f_X12_cross w0 w1 w4 w5)), none, none, none]) rfl rfl rfl rfl rfl ?_
  refine x_lload (M := M_X12_isAhead) dX12_isAhead_22 rfl ?_
  refine x_lconst (M := M_X12_isAhead) dX12_isAhead_24 ?_
  refine x_lcmp (M := M_X12_isAhead) dX12_isAhead_25 ?_
  refine x_if_ge (M := M_X12_isAhead) (tgt := 33) dX12_isAhead_26 (by decide) (fun q0 => ?_) (fun q0 => ?_)
  · refine x_lload (M := M_X12_isAhead) dX12_isAhead_33 rfl ?_
    refine x_lconst (M := M_X12_isAhead) dX12_isAhead_35 ?_
    refine x_lcmp (M := M_X12_isAhead) dX12_isAhead_36 ?_
    refine x_if_ne (M := M_X12_isAhead) (tgt := 44) dX12_isAhead_37 (by decide) (fun q1 => ?_) (fun q1 => ?_)
    · refine x_iconst (M := M_X12_isAhead) dX12_isAhead_44 ?_
      refine x_istore (M := M_X12_isAhead) dX12_isAhead_45 (by decide) rfl ?_
      refine x_norm (lv' := [some (.long w0), none, some (.long w1), none, some (.long w2), none, some (.long w3), none, some (.long w4), none, some (.long w5), none, some (.long (f_X12_cross w0 w1 w2 w3)), none, some (.long (f_X12_cross w0 w1 w4 w5)), none, some (.int (Int32.ofInt 2)), none]) rfl rfl rfl rfl rfl ?_
      refine x_lload (M := M_X12_isAhead) dX12_isAhead_47 rfl ?_
      refine x_lconst (M := M_X12_isAhead) dX12_isAhead_49 ?_
      refine x_lcmp (M := M_X12_isAhead) dX12_isAhead_50 ?_
      refine x_if_ge (M := M_X12_isAhead) (tgt := 58) dX12_isAhead_51 (by decide) (fun q2 => ?_) (fun q2 => ?_)
      · refine x_lload (M := M_X12_isAhead) dX12_isAhead_58 rfl ?_
        refine x_lconst (M := M_X12_isAhead) dX12_isAhead_60 ?_
        refine x_lcmp (M := M_X12_isAhead) dX12_isAhead_61 ?_
        refine x_if_ne (M := M_X12_isAhead) (tgt := 69) dX12_isAhead_62 (by decide) (fun q3 => ?_) (fun q3 => ?_)
        · refine x_iconst (M := M_X12_isAhead) dX12_isAhead_69 ?_
          refine x_istore (M := M_X12_isAhead) dX12_isAhead_70 (by decide) rfl ?_
          refine x_norm (lv' := [some (.long w0), none, some (.long w1), none, some (.long w2), none, some (.long w3), none, some (.long w4), none, some (.long w5), none, some (.long (f_X12_cross w0 w1 w2 w3)), none, some (.long (f_X12_cross w0 w1 w4 w5)), none, some (.int (Int32.ofInt 2)), some (.int (Int32.ofInt 2))]) rfl rfl rfl rfl rfl ?_
          refine x_iload (M := M_X12_isAhead) dX12_isAhead_72 rfl ?_
          refine x_iload (M := M_X12_isAhead) dX12_isAhead_74 rfl ?_
          refine x_icmp_lt (M := M_X12_isAhead) (tgt := 102) dX12_isAhead_76 (by decide) (fun q4 => ?_) (fun q4 => ?_)
          · refine x_iconst (M := M_X12_isAhead) dX12_isAhead_102 ?_
            refine x_goto (M := M_X12_isAhead) (tgt := 107) dX12_isAhead_103 (by decide) ?_
            exact x_zret (M := M_X12_isAhead) dX12_isAhead_107 rfl (Or.inr rfl) ⟨by rw [f_X12_isAhead, if_pos q0, if_neg q1, if_pos q2, if_neg q3, if_pos q4], rfl⟩ (Nat.le_of_ble_eq_true rfl) (Nat.le_of_ble_eq_true rfl)
          · refine x_iload (M := M_X12_isAhead) dX12_isAhead_79 rfl ?_
            refine x_iload (M := M_X12_isAhead) dX12_isAhead_81 rfl ?_
            refine x_icmp_ne (M := M_X12_isAhead) (tgt := 106) dX12_isAhead_83 (by decide) (fun q5 => ?_) (fun q5 => ?_)
            · refine x_iconst (M := M_X12_isAhead) dX12_isAhead_106 ?_
              exact x_zret (M := M_X12_isAhead) dX12_isAhead_107 rfl (Or.inl rfl) ⟨by rw [f_X12_isAhead, if_pos q0, if_neg q1, if_pos q2, if_neg q3, if_neg q4, if_neg q5], rfl⟩ (Nat.le_of_ble_eq_true rfl) (Nat.le_of_ble_eq_true rfl)
            · refine x_lload (M := M_X12_isAhead) dX12_isAhead_86 rfl ?_
              refine x_lload (M := M_X12_isAhead) dX12_isAhead_88 rfl ?_
              refine x_lload (M := M_X12_isAhead) dX12_isAhead_90 rfl ?_
              refine x_lload (M := M_X12_isAhead) dX12_isAhead_92 rfl ?_
              refine x_callSR (M := M_X12_isAhead) (M' := M_X12_cross) rfl rfl dX12_isAhead_94 m_X12_cross t_3265 t_3266 (p_X12_cross hl) rfl rfl (Nat.le_of_ble_eq_true rfl) (Nat.le_of_ble_eq_true rfl) (Nat.le_of_ble_eq_true rfl) (Nat.le_of_ble_eq_true rfl) ?_
              refine x_lconst (M := M_X12_isAhead) dX12_isAhead_97 ?_
              refine x_lcmp (M := M_X12_isAhead) dX12_isAhead_98 ?_
              refine x_if_ge (M := M_X12_isAhead) (tgt := 106) dX12_isAhead_99 (by decide) (fun q6 => ?_) (fun q6 => ?_)
              · refine x_iconst (M := M_X12_isAhead) dX12_isAhead_106 ?_
                exact x_zret (M := M_X12_isAhead) dX12_isAhead_107 rfl (Or.inl rfl) ⟨by rw [f_X12_isAhead, if_pos q0, if_neg q1, if_pos q2, if_neg q3, if_neg q4, if_pos q5, if_pos q6], rfl⟩ (Nat.le_of_ble_eq_true rfl) (Nat.le_of_ble_eq_true rfl)
              · refine x_iconst (M := M_X12_isAhead) dX12_isAhead_102 ?_
                refine x_goto (M := M_X12_isAhead) (tgt := 107) dX12_isAhead_103 (by decide) ?_
                exact x_zret (M := M_X12_isAhead) dX12_isAhead_107 rfl (Or.inr rfl) ⟨by rw [f_X12_isAhead, if_pos q0, if_neg q1, if_pos q2, if_neg q3, if_neg q4, if_pos q5, if_neg q6], rfl⟩ (Nat.le_of_ble_eq_true rfl) (Nat.le_of_ble_eq_true rfl)
        · refine x_iconst (M := M_X12_isAhead) dX12_isAhead_65 ?_
          refine x_goto (M := M_X12_isAhead) (tgt := 70) dX12_isAhead_66 (by decide) ?_
          refine x_istore (M := M_X12_isAhead) dX12_isAhead_70 (by decide) rfl ?_
          refine x_norm (lv' := [some (.long w0), none, some (.long w1), none, some (.long w2), none, some (.long w3), none, some (.long w4), none, some (.long w5), none, some (.long (f_X12_cross w0 w1 w2 w3)), none, some (.long (f_X12_cross w0 w1 w4 w5)), none, some (.int (Int32.ofInt 2)), some (.int (Int32.ofInt 1))]) rfl rfl rfl rfl rfl ?_
          refine x_iload (M := M_X12_isAhead) dX12_isAhead_72 rfl ?_
          refine x_iload (M := M_X12_isAhead) dX12_isAhead_74 rfl ?_
          refine x_icmp_lt (M := M_X12_isAhead) (tgt := 102) dX12_isAhead_76 (by decide) (fun q4 => ?_) (fun q4 => ?_)
          · refine x_iconst (M := M_X12_isAhead) dX12_isAhead_102 ?_
            refine x_goto (M := M_X12_isAhead) (tgt := 107) dX12_isAhead_103 (by decide) ?_
            exact x_zret (M := M_X12_isAhead) dX12_isAhead_107 rfl (Or.inr rfl) ⟨by rw [f_X12_isAhead, if_pos q0, if_neg q1, if_pos q2, if_pos q3, if_pos q4], rfl⟩ (Nat.le_of_ble_eq_true rfl) (Nat.le_of_ble_eq_true rfl)
          · refine x_iload (M := M_X12_isAhead) dX12_isAhead_79 rfl ?_
            refine x_iload (M := M_X12_isAhead) dX12_isAhead_81 rfl ?_
            refine x_icmp_ne (M := M_X12_isAhead) (tgt := 106) dX12_isAhead_83 (by decide) (fun q5 => ?_) (fun q5 => ?_)
            · refine x_iconst (M := M_X12_isAhead) dX12_isAhead_106 ?_
              exact x_zret (M := M_X12_isAhead) dX12_isAhead_107 rfl (Or.inl rfl) ⟨by rw [f_X12_isAhead, if_pos q0, if_neg q1, if_pos q2, if_pos q3, if_neg q4, if_neg q5], rfl⟩ (Nat.le_of_ble_eq_true rfl) (Nat.le_of_ble_eq_true rfl)
            · refine x_lload (M := M_X12_isAhead) dX12_isAhead_86 rfl ?_
              refine x_lload (M := M_X12_isAhead) dX12_isAhead_88 rfl ?_
              refine x_lload (M := M_X12_isAhead) dX12_isAhead_90 rfl ?_
              refine x_lload (M := M_X12_isAhead) dX12_isAhead_92 rfl ?_
              refine x_callSR (M := M_X12_isAhead) (M' := M_X12_cross) rfl rfl dX12_isAhead_94 m_X12_cross t_3265 t_3266 (p_X12_cross hl) rfl rfl (Nat.le_of_ble_eq_true rfl) (Nat.le_of_ble_eq_true rfl) (Nat.le_of_ble_eq_true rfl) (Nat.le_of_ble_eq_true rfl) ?_
              refine x_lconst (M := M_X12_isAhead) dX12_isAhead_97 ?_
              refine x_lcmp (M := M_X12_isAhead) dX12_isAhead_98 ?_
              refine x_if_ge (M := M_X12_isAhead) (tgt := 106) dX12_isAhead_99 (by decide) (fun q6 => ?_) (fun q6 => ?_)
              · refine x_iconst (M := M_X12_isAhead) dX12_isAhead_106 ?_
                exact x_zret (M := M_X12_isAhead) dX12_isAhead_107 rfl (Or.inl rfl) ⟨by rw [f_X12_isAhead, if_pos q0, if_neg q1, if_pos q2, if_pos q3, if_neg q4, if_pos q5, if_pos q6], rfl⟩ (Nat.le_of_ble_eq_true rfl) (Nat.le_of_ble_eq_true rfl)
              · refine x_iconst (M := M_X12_isAhead) dX12_isAhead_102 ?_
                refine x_goto (M := M_X12_isAhead) (tgt := 107) dX12_isAhead_103 (by decide) ?_
                exact x_zret (M := M_X12_isAhead) dX12_isAhead_107 rfl (Or.inr rfl) ⟨by rw [f_X12_isAhead, if_pos q0, if_neg q1, if_pos q2, if_pos q3, if_neg q4, if_pos q5, if_neg q6], rfl⟩ (Nat.le_of_ble_eq_true rfl) (Nat.le_of_ble_eq_true rfl)
      · refine x_iconst (M := M_X12_isAhead) dX12_isAhead_54 ?_
        refine x_goto (M := M_X12_isAhead) (tgt := 70) dX12_isAhead_55 (by decide) ?_
        refine x_istore (M := M_X12_isAhead) dX12_isAhead_70 (by decide) rfl ?_
        refine x_norm (lv' := [some (.long w0), none, some (.long w1), none, some (.long w2), none, some (.long w3), none, some (.long w4), none, some (.long w5), none, some (.long (f_X12_cross w0 w1 w2 w3)), none, some (.long (f_X12_cross w0 w1 w4 w5)), none, some (.int (Int32.ofInt 2)), some (.int (Int32.ofInt 0))]) rfl rfl rfl rfl rfl ?_
        refine x_iload (M := M_X12_isAhead) dX12_isAhead_72 rfl ?_
        refine x_iload (M := M_X12_isAhead) dX12_isAhead_74 rfl ?_
        refine x_icmp_lt (M := M_X12_isAhead) (tgt := 102) dX12_isAhead_76 (by decide) (fun q3 => ?_) (fun q3 => ?_)
        · refine x_iconst (M := M_X12_isAhead) dX12_isAhead_102 ?_
          refine x_goto (M := M_X12_isAhead) (tgt := 107) dX12_isAhead_103 (by decide) ?_
          exact x_zret (M := M_X12_isAhead) dX12_isAhead_107 rfl (Or.inr rfl) ⟨by rw [f_X12_isAhead, if_pos q0, if_neg q1, if_neg q2, if_pos q3], rfl⟩ (Nat.le_of_ble_eq_true rfl) (Nat.le_of_ble_eq_true rfl)
        · refine x_iload (M := M_X12_isAhead) dX12_isAhead_79 rfl ?_
          refine x_iload (M := M_X12_isAhead) dX12_isAhead_81 rfl ?_
          refine x_icmp_ne (M := M_X12_isAhead) (tgt := 106) dX12_isAhead_83 (by decide) (fun q4 => ?_) (fun q4 => ?_)
          · refine x_iconst (M := M_X12_isAhead) dX12_isAhead_106 ?_
            exact x_zret (M := M_X12_isAhead) dX12_isAhead_107 rfl (Or.inl rfl) ⟨by rw [f_X12_isAhead, if_pos q0, if_neg q1, if_neg q2, if_neg q3, if_neg q4], rfl⟩ (Nat.le_of_ble_eq_true rfl) (Nat.le_of_ble_eq_true rfl)
          · refine x_lload (M := M_X12_isAhead) dX12_isAhead_86 rfl ?_
            refine x_lload (M := M_X12_isAhead) dX12_isAhead_88 rfl ?_
            refine x_lload (M := M_X12_isAhead) dX12_isAhead_90 rfl ?_
            refine x_lload (M := M_X12_isAhead) dX12_isAhead_92 rfl ?_
            refine x_callSR (M := M_X12_isAhead) (M' := M_X12_cross) rfl rfl dX12_isAhead_94 m_X12_cross t_3265 t_3266 (p_X12_cross hl) rfl rfl (Nat.le_of_ble_eq_true rfl) (Nat.le_of_ble_eq_true rfl) (Nat.le_of_ble_eq_true rfl) (Nat.le_of_ble_eq_true rfl) ?_
            refine x_lconst (M := M_X12_isAhead) dX12_isAhead_97 ?_
            refine x_lcmp (M := M_X12_isAhead) dX12_isAhead_98 ?_
            refine x_if_ge (M := M_X12_isAhead) (tgt := 106) dX12_isAhead_99 (by decide) (fun q5 => ?_) (fun q5 => ?_)
            · refine x_iconst (M := M_X12_isAhead) dX12_isAhead_106 ?_
              exact x_zret (M := M_X12_isAhead) dX12_isAhead_107 rfl (Or.inl rfl) ⟨by rw [f_X12_isAhead, if_pos q0, if_neg q1, if_neg q2, if_neg q3, if_pos q4, if_pos q5], rfl⟩ (Nat.le_of_ble_eq_true rfl) (Nat.le_of_ble_eq_true rfl)
            · refine x_iconst (M := M_X12_isAhead) dX12_isAhead_102 ?_
              refine x_goto (M := M_X12_isAhead) (tgt := 107) dX12_isAhead_103 (by decide) ?_
              exact x_zret (M := M_X12_isAhead) dX12_isAhead_107 rfl (Or.inr rfl) ⟨by rw [f_X12_isAhead, if_pos q0, if_neg q1, if_neg q2, if_neg q3, if_pos q4, if_neg q5], rfl⟩ (Nat.le_of_ble_eq_true rfl) (Nat.le_of_ble_eq_true rfl)
    · refine x_iconst (M := M_X12_isAhead) dX12_isAhead_40 ?_
      refine x_goto (M := M_X12_isAhead) (tgt := 45) dX12_isAhead_41 (by decide) ?_
      refine x_istore (M := M_X12_isAhead) dX12_isAhead_45 (by decide) rfl ?_
      refine x_norm (lv' := [some (.long w0), none, some (.long w1), none, some (.long w2), none, some (.long w3), none, some (.long w4), none, some (.long w5), none, some (.long (f_X12_cross w0 w1 w2 w3)), none, some (.long (f_X12_cross w0 w1 w4 w5)), none, some (.int (Int32.ofInt 1)), none]) rfl rfl rfl rfl rfl ?_
      refine x_lload (M := M_X12_isAhead) dX12_isAhead_47 rfl ?_
      refine x_lconst (M := M_X12_isAhead) dX12_isAhead_49 ?_
      refine x_lcmp (M := M_X12_isAhead) dX12_isAhead_50 ?_
      refine x_if_ge (M := M_X12_isAhead) (tgt := 58) dX12_isAhead_51 (by decide) (fun q2 => ?_) (fun q2 => ?_)
      · refine x_lload (M := M_X12_isAhead) dX12_isAhead_58 rfl ?_
        refine x_lconst (M := M_X12_isAhead) dX12_isAhead_60 ?_
        refine x_lcmp (M := M_X12_isAhead) dX12_isAhead_61 ?_
        refine x_if_ne (M := M_X12_isAhead) (tgt := 69) dX12_isAhead_62 (by decide) (fun q3 => ?_) (fun q3 => ?_)
        · refine x_iconst (M := M_X12_isAhead) dX12_isAhead_69 ?_
          refine x_istore (M := M_X12_isAhead) dX12_isAhead_70 (by decide) rfl ?_
          refine x_norm (lv' := [some (.long w0), none, some (.long w1), none, some (.long w2), none, some (.long w3), none, some (.long w4), none, some (.long w5), none, some (.long (f_X12_cross w0 w1 w2 w3)), none, some (.long (f_X12_cross w0 w1 w4 w5)), none, some (.int (Int32.ofInt 1)), some (.int (Int32.ofInt 2))]) rfl rfl rfl rfl rfl ?_
          refine x_iload (M := M_X12_isAhead) dX12_isAhead_72 rfl ?_
          refine x_iload (M := M_X12_isAhead) dX12_isAhead_74 rfl ?_
          refine x_icmp_lt (M := M_X12_isAhead) (tgt := 102) dX12_isAhead_76 (by decide) (fun q4 => ?_) (fun q4 => ?_)
          · refine x_iconst (M := M_X12_isAhead) dX12_isAhead_102 ?_
            refine x_goto (M := M_X12_isAhead) (tgt := 107) dX12_isAhead_103 (by decide) ?_
            exact x_zret (M := M_X12_isAhead) dX12_isAhead_107 rfl (Or.inr rfl) ⟨by rw [f_X12_isAhead, if_pos q0, if_pos q1, if_pos q2, if_neg q3, if_pos q4], rfl⟩ (Nat.le_of_ble_eq_true rfl) (Nat.le_of_ble_eq_true rfl)
          · refine x_iload (M := M_X12_isAhead) dX12_isAhead_79 rfl ?_
            refine x_iload (M := M_X12_isAhead) dX12_isAhead_81 rfl ?_
            refine x_icmp_ne (M := M_X12_isAhead) (tgt := 106) dX12_isAhead_83 (by decide) (fun q5 => ?_) (fun q5 => ?_)
            · refine x_iconst (M := M_X12_isAhead) dX12_isAhead_106 ?_
              exact x_zret (M := M_X12_isAhead) dX12_isAhead_107 rfl (Or.inl rfl) ⟨by rw [f_X12_isAhead, if_pos q0, if_pos q1, if_pos q2, if_neg q3, if_neg q4, if_neg q5], rfl⟩ (Nat.le_of_ble_eq_true rfl) (Nat.le_of_ble_eq_true rfl)
            · refine x_lload (M := M_X12_isAhead) dX12_isAhead_86 rfl ?_
              refine x_lload (M := M_X12_isAhead) dX12_isAhead_88 rfl ?_
              refine x_lload (M := M_X12_isAhead) dX12_isAhead_90 rfl ?_
              refine x_lload (M := M_X12_isAhead) dX12_isAhead_92 rfl ?_
              refine x_callSR (M := M_X12_isAhead) (M' := M_X12_cross) rfl rfl dX12_isAhead_94 m_X12_cross t_3265 t_3266 (p_X12_cross hl) rfl rfl (Nat.le_of_ble_eq_true rfl) (Nat.le_of_ble_eq_true rfl) (Nat.le_of_ble_eq_true rfl) (Nat.le_of_ble_eq_true rfl) ?_
              refine x_lconst (M := M_X12_isAhead) dX12_isAhead_97 ?_
              refine x_lcmp (M := M_X12_isAhead) dX12_isAhead_98 ?_
              refine x_if_ge (M := M_X12_isAhead) (tgt := 106) dX12_isAhead_99 (by decide) (fun q6 => ?_) (fun q6 => ?_)
              · refine x_iconst (M := M_X12_isAhead) dX12_isAhead_106 ?_
                exact x_zret (M := M_X12_isAhead) dX12_isAhead_107 rfl (Or.inl rfl) ⟨by rw [f_X12_isAhead, if_pos q0, if_pos q1, if_pos q2, if_neg q3, if_neg q4, if_pos q5, if_pos q6], rfl⟩ (Nat.le_of_ble_eq_true rfl) (Nat.le_of_ble_eq_true rfl)
              · refine x_iconst (M := M_X12_isAhead) dX12_isAhead_102 ?_
                refine x_goto (M := M_X12_isAhead) (tgt := 107) dX12_isAhead_103 (by decide) ?_
                exact x_zret (M := M_X12_isAhead) dX12_isAhead_107 rfl (Or.inr rfl) ⟨by rw [f_X12_isAhead, if_pos q0, if_pos q1, if_pos q2, if_neg q3, if_neg q4, if_pos q5, if_neg q6], rfl⟩ (Nat.le_of_ble_eq_true rfl) (Nat.le_of_ble_eq_true rfl)
        · refine x_iconst (M := M_X12_isAhead) dX12_isAhead_65 ?_
          refine x_goto (M := M_X12_isAhead) (tgt := 70) dX12_isAhead_66 (by decide) ?_
          refine x_istore (M := M_X12_isAhead) dX12_isAhead_70 (by decide) rfl ?_
          refine x_norm (lv' := [some (.long w0), none, some (.long w1), none, some (.long w2), none, some (.long w3), none, some (.long w4), none, some (.long w5), none, some (.long (f_X12_cross w0 w1 w2 w3)), none, some (.long (f_X12_cross w0 w1 w4 w5)), none, some (.int (Int32.ofInt 1)), some (.int (Int32.ofInt 1))]) rfl rfl rfl rfl rfl ?_
          refine x_iload (M := M_X12_isAhead) dX12_isAhead_72 rfl ?_
          refine x_iload (M := M_X12_isAhead) dX12_isAhead_74 rfl ?_
          refine x_icmp_lt (M := M_X12_isAhead) (tgt := 102) dX12_isAhead_76 (by decide) (fun q4 => ?_) (fun q4 => ?_)
          · refine x_iconst (M := M_X12_isAhead) dX12_isAhead_102 ?_
            refine x_goto (M := M_X12_isAhead) (tgt := 107) dX12_isAhead_103 (by decide) ?_
            exact x_zret (M := M_X12_isAhead) dX12_isAhead_107 rfl (Or.inr rfl) ⟨by rw [f_X12_isAhead, if_pos q0, if_pos q1, if_pos q2, if_pos q3, if_pos q4], rfl⟩ (Nat.le_of_ble_eq_true rfl) (Nat.le_of_ble_eq_true rfl)
          · refine x_iload (M := M_X12_isAhead) dX12_isAhead_79 rfl ?_
            refine x_iload (M := M_X12_isAhead) dX12_isAhead_81 rfl ?_
            refine x_icmp_ne (M := M_X12_isAhead) (tgt := 106) dX12_isAhead_83 (by decide) (fun q5 => ?_) (fun q5 => ?_)
            · refine x_iconst (M := M_X12_isAhead) dX12_isAhead_106 ?_
              exact x_zret (M := M_X12_isAhead) dX12_isAhead_107 rfl (Or.inl rfl) ⟨by rw [f_X12_isAhead, if_pos q0, if_pos q1, if_pos q2, if_pos q3, if_neg q4, if_neg q5], rfl⟩ (Nat.le_of_ble_eq_true rfl) (Nat.le_of_ble_eq_true rfl)
            · refine x_lload (M := M_X12_isAhead) dX12_isAhead_86 rfl ?_
              refine x_lload (M := M_X12_isAhead) dX12_isAhead_88 rfl ?_
              refine x_lload (M := M_X12_isAhead) dX12_isAhead_90 rfl ?_
              refine x_lload (M := M_X12_isAhead) dX12_isAhead_92 rfl ?_
              refine x_callSR (M := M_X12_isAhead) (M' := M_X12_cross) rfl rfl dX12_isAhead_94 m_X12_cross t_3265 t_3266 (p_X12_cross hl) rfl rfl (Nat.le_of_ble_eq_true rfl) (Nat.le_of_ble_eq_true rfl) (Nat.le_of_ble_eq_true rfl) (Nat.le_of_ble_eq_true rfl) ?_
              refine x_lconst (M := M_X12_isAhead) dX12_isAhead_97 ?_
              refine x_lcmp (M := M_X12_isAhead) dX12_isAhead_98 ?_
              refine x_if_ge (M := M_X12_isAhead) (tgt := 106) dX12_isAhead_99 (by decide) (fun q6 => ?_) (fun q6 => ?_)
              · refine x_iconst (M := M_X12_isAhead) dX12_isAhead_106 ?_
                exact x_zret (M := M_X12_isAhead) dX12_isAhead_107 rfl (Or.inl rfl) ⟨by rw [f_X12_isAhead, if_pos q0, if_pos q1, if_pos q2, if_pos q3, if_neg q4, if_pos q5, if_pos q6], rfl⟩ (Nat.le_of_ble_eq_true rfl) (Nat.le_of_ble_eq_true rfl)
              · refine x_iconst (M := M_X12_isAhead) dX12_isAhead_102 ?_
                refine x_goto (M := M_X12_isAhead) (tgt := 107) dX12_isAhead_103 (by decide) ?_
                exact x_zret (M := M_X12_isAhead) dX12_isAhead_107 rfl (Or.inr rfl) ⟨by rw [f_X12_isAhead, if_pos q0, if_pos q1, if_pos q2, if_pos q3, if_neg q4, if_pos q5, if_neg q6], rfl⟩ (Nat.le_of_ble_eq_true rfl) (Nat.le_of_ble_eq_true rfl)
      · refine x_iconst (M := M_X12_isAhead) dX12_isAhead_54 ?_
        refine x_goto (M := M_X12_isAhead) (tgt := 70) dX12_isAhead_55 (by decide) ?_
        refine x_istore (M := M_X12_isAhead) dX12_isAhead_70 (by decide) rfl ?_
        refine x_norm (lv' := [some (.long w0), none, some (.long w1), none, some (.long w2), none, some (.long w3), none, some (.long w4), none, some (.long w5), none, some (.long (f_X12_cross w0 w1 w2 w3)), none, some (.long (f_X12_cross w0 w1 w4 w5)), none, some (.int (Int32.ofInt 1)), some (.int (Int32.ofInt 0))]) rfl rfl rfl rfl rfl ?_
        refine x_iload (M := M_X12_isAhead) dX12_isAhead_72 rfl ?_
        refine x_iload (M := M_X12_isAhead) dX12_isAhead_74 rfl ?_
        refine x_icmp_lt (M := M_X12_isAhead) (tgt := 102) dX12_isAhead_76 (by decide) (fun q3 => ?_) (fun q3 => ?_)
        · refine x_iconst (M := M_X12_isAhead) dX12_isAhead_102 ?_
          refine x_goto (M := M_X12_isAhead) (tgt := 107) dX12_isAhead_103 (by decide) ?_
          exact x_zret (M := M_X12_isAhead) dX12_isAhead_107 rfl (Or.inr rfl) ⟨by rw [f_X12_isAhead, if_pos q0, if_pos q1, if_neg q2, if_pos q3], rfl⟩ (Nat.le_of_ble_eq_true rfl) (Nat.le_of_ble_eq_true rfl)
        · refine x_iload (M := M_X12_isAhead) dX12_isAhead_79 rfl ?_
          refine x_iload (M := M_X12_isAhead) dX12_isAhead_81 rfl ?_
          refine x_icmp_ne (M := M_X12_isAhead) (tgt := 106) dX12_isAhead_83 (by decide) (fun q4 => ?_) (fun q4 => ?_)
          · refine x_iconst (M := M_X12_isAhead) dX12_isAhead_106 ?_
            exact x_zret (M := M_X12_isAhead) dX12_isAhead_107 rfl (Or.inl rfl) ⟨by rw [f_X12_isAhead, if_pos q0, if_pos q1, if_neg q2, if_neg q3, if_neg q4], rfl⟩ (Nat.le_of_ble_eq_true rfl) (Nat.le_of_ble_eq_true rfl)
          · refine x_lload (M := M_X12_isAhead) dX12_isAhead_86 rfl ?_
            refine x_lload (M := M_X12_isAhead) dX12_isAhead_88 rfl ?_
            refine x_lload (M := M_X12_isAhead) dX12_isAhead_90 rfl ?_
            refine x_lload (M := M_X12_isAhead) dX12_isAhead_92 rfl ?_
            refine x_callSR (M := M_X12_isAhead) (M' := M_X12_cross) rfl rfl dX12_isAhead_94 m_X12_cross t_3265 t_3266 (p_X12_cross hl) rfl rfl (Nat.le_of_ble_eq_true rfl) (Nat.le_of_ble_eq_true rfl) (Nat.le_of_ble_eq_true rfl) (Nat.le_of_ble_eq_true rfl) ?_
            refine x_lconst (M := M_X12_isAhead) dX12_isAhead_97 ?_
            refine x_lcmp (M := M_X12_isAhead) dX12_isAhead_98 ?_
            refine x_if_ge (M := M_X12_isAhead) (tgt := 106) dX12_isAhead_99 (by decide) (fun q5 => ?_) (fun q5 => ?_)
            · refine x_iconst (M := M_X12_isAhead) dX12_isAhead_106 ?_
              exact x_zret (M := M_X12_isAhead) dX12_isAhead_107 rfl (Or.inl rfl) ⟨by rw [f_X12_isAhead, if_pos q0, if_pos q1, if_neg q2, if_neg q3, if_pos q4, if_pos q5], rfl⟩ (Nat.le_of_ble_eq_true rfl) (Nat.le_of_ble_eq_true rfl)
            · refine x_iconst (M := M_X12_isAhead) dX12_isAhead_102 ?_
              refine x_goto (M := M_X12_isAhead) (tgt := 107) dX12_isAhead_103 (by decide) ?_
              exact x_zret (M := M_X12_isAhead) dX12_isAhead_107 rfl (Or.inr rfl) ⟨by rw [f_X12_isAhead, if_pos q0, if_pos q1, if_neg q2, if_neg q3, if_pos q4, if_neg q5], rfl⟩ (Nat.le_of_ble_eq_true rfl) (Nat.le_of_ble_eq_true rfl)
  · refine x_iconst (M := M_X12_isAhead) dX12_isAhead_29 ?_
    refine x_goto (M := M_X12_isAhead) (tgt := 45) dX12_isAhead_30 (by decide) ?_
    refine x_istore (M := M_X12_isAhead) dX12_isAhead_45 (by decide) rfl ?_
    refine x_norm (lv' := [some (.long w0), none, some (.long w1), none, some (.long w2), none, some (.long w3), none, some (.long w4), none, some (.long w5), none, some (.long (f_X12_cross w0 w1 w2 w3)), none, some (.long (f_X12_cross w0 w1 w4 w5)), none, some (.int (Int32.ofInt 0)), none]) rfl rfl rfl rfl rfl ?_
    refine x_lload (M := M_X12_isAhead) dX12_isAhead_47 rfl ?_
    refine x_lconst (M := M_X12_isAhead) dX12_isAhead_49 ?_
    refine x_lcmp (M := M_X12_isAhead) dX12_isAhead_50 ?_
    refine x_if_ge (M := M_X12_isAhead) (tgt := 58) dX12_isAhead_51 (by decide) (fun q1 => ?_) (fun q1 => ?_)
    · refine x_lload (M := M_X12_isAhead) dX12_isAhead_58 rfl ?_
      refine x_lconst (M := M_X12_isAhead) dX12_isAhead_60 ?_
      refine x_lcmp (M := M_X12_isAhead) dX12_isAhead_61 ?_
      refine x_if_ne (M := M_X12_isAhead) (tgt := 69) dX12_isAhead_62 (by decide) (fun q2 => ?_) (fun q2 => ?_)
      · refine x_iconst (M := M_X12_isAhead) dX12_isAhead_69 ?_
        refine x_istore (M := M_X12_isAhead) dX12_isAhead_70 (by decide) rfl ?_
        refine x_norm (lv' := [some (.long w0), none, some (.long w1), none, some (.long w2), none, some (.long w3), none, some (.long w4), none, some (.long w5), none, some (.long (f_X12_cross w0 w1 w2 w3)), none, some (.long (f_X12_cross w0 w1 w4 w5)), none, some (.int (Int32.ofInt 0)), some (.int (Int32.ofInt 2))]) rfl rfl rfl rfl rfl ?_
        refine x_iload (M := M_X12_isAhead) dX12_isAhead_72 rfl ?_
        refine x_iload (M := M_X12_isAhead) dX12_isAhead_74 rfl ?_
        refine x_icmp_lt (M := M_X12_isAhead) (tgt := 102) dX12_isAhead_76 (by decide) (fun q3 => ?_) (fun q3 => ?_)
        · refine x_iconst (M := M_X12_isAhead) dX12_isAhead_102 ?_
          refine x_goto (M := M_X12_isAhead) (tgt := 107) dX12_isAhead_103 (by decide) ?_
          exact x_zret (M := M_X12_isAhead) dX12_isAhead_107 rfl (Or.inr rfl) ⟨by rw [f_X12_isAhead, if_neg q0, if_pos q1, if_neg q2, if_pos q3], rfl⟩ (Nat.le_of_ble_eq_true rfl) (Nat.le_of_ble_eq_true rfl)
        · refine x_iload (M := M_X12_isAhead) dX12_isAhead_79 rfl ?_
          refine x_iload (M := M_X12_isAhead) dX12_isAhead_81 rfl ?_
          refine x_icmp_ne (M := M_X12_isAhead) (tgt := 106) dX12_isAhead_83 (by decide) (fun q4 => ?_) (fun q4 => ?_)
          · refine x_iconst (M := M_X12_isAhead) dX12_isAhead_106 ?_
            exact x_zret (M := M_X12_isAhead) dX12_isAhead_107 rfl (Or.inl rfl) ⟨by rw [f_X12_isAhead, if_neg q0, if_pos q1, if_neg q2, if_neg q3, if_neg q4], rfl⟩ (Nat.le_of_ble_eq_true rfl) (Nat.le_of_ble_eq_true rfl)
          · refine x_lload (M := M_X12_isAhead) dX12_isAhead_86 rfl ?_
            refine x_lload (M := M_X12_isAhead) dX12_isAhead_88 rfl ?_
            refine x_lload (M := M_X12_isAhead) dX12_isAhead_90 rfl ?_
            refine x_lload (M := M_X12_isAhead) dX12_isAhead_92 rfl ?_
            refine x_callSR (M := M_X12_isAhead) (M' := M_X12_cross) rfl rfl dX12_isAhead_94 m_X12_cross t_3265 t_3266 (p_X12_cross hl) rfl rfl (Nat.le_of_ble_eq_true rfl) (Nat.le_of_ble_eq_true rfl) (Nat.le_of_ble_eq_true rfl) (Nat.le_of_ble_eq_true rfl) ?_
            refine x_lconst (M := M_X12_isAhead) dX12_isAhead_97 ?_
            refine x_lcmp (M := M_X12_isAhead) dX12_isAhead_98 ?_
            refine x_if_ge (M := M_X12_isAhead) (tgt := 106) dX12_isAhead_99 (by decide) (fun q5 => ?_) (fun q5 => ?_)
            · refine x_iconst (M := M_X12_isAhead) dX12_isAhead_106 ?_
              exact x_zret (M := M_X12_isAhead) dX12_isAhead_107 rfl (Or.inl rfl) ⟨by rw [f_X12_isAhead, if_neg q0, if_pos q1, if_neg q2, if_neg q3, if_pos q4, if_pos q5], rfl⟩ (Nat.le_of_ble_eq_true rfl) (Nat.le_of_ble_eq_true rfl)
            · refine x_iconst (M := M_X12_isAhead) dX12_isAhead_102 ?_
              refine x_goto (M := M_X12_isAhead) (tgt := 107) dX12_isAhead_103 (by decide) ?_
              exact x_zret (M := M_X12_isAhead) dX12_isAhead_107 rfl (Or.inr rfl) ⟨by rw [f_X12_isAhead, if_neg q0, if_pos q1, if_neg q2, if_neg q3, if_pos q4, if_neg q5], rfl⟩ (Nat.le_of_ble_eq_true rfl) (Nat.le_of_ble_eq_true rfl)
      · refine x_iconst (M := M_X12_isAhead) dX12_isAhead_65 ?_
        refine x_goto (M := M_X12_isAhead) (tgt := 70) dX12_isAhead_66 (by decide) ?_
        refine x_istore (M := M_X12_isAhead) dX12_isAhead_70 (by decide) rfl ?_
        refine x_norm (lv' := [some (.long w0), none, some (.long w1), none, some (.long w2), none, some (.long w3), none, some (.long w4), none, some (.long w5), none, some (.long (f_X12_cross w0 w1 w2 w3)), none, some (.long (f_X12_cross w0 w1 w4 w5)), none, some (.int (Int32.ofInt 0)), some (.int (Int32.ofInt 1))]) rfl rfl rfl rfl rfl ?_
        refine x_iload (M := M_X12_isAhead) dX12_isAhead_72 rfl ?_
        refine x_iload (M := M_X12_isAhead) dX12_isAhead_74 rfl ?_
        refine x_icmp_lt (M := M_X12_isAhead) (tgt := 102) dX12_isAhead_76 (by decide) (fun q3 => ?_) (fun q3 => ?_)
        · refine x_iconst (M := M_X12_isAhead) dX12_isAhead_102 ?_
          refine x_goto (M := M_X12_isAhead) (tgt := 107) dX12_isAhead_103 (by decide) ?_
          exact x_zret (M := M_X12_isAhead) dX12_isAhead_107 rfl (Or.inr rfl) ⟨by rw [f_X12_isAhead, if_neg q0, if_pos q1, if_pos q2, if_pos q3], rfl⟩ (Nat.le_of_ble_eq_true rfl) (Nat.le_of_ble_eq_true rfl)
        · refine x_iload (M := M_X12_isAhead) dX12_isAhead_79 rfl ?_
          refine x_iload (M := M_X12_isAhead) dX12_isAhead_81 rfl ?_
          refine x_icmp_ne (M := M_X12_isAhead) (tgt := 106) dX12_isAhead_83 (by decide) (fun q4 => ?_) (fun q4 => ?_)
          · refine x_iconst (M := M_X12_isAhead) dX12_isAhead_106 ?_
            exact x_zret (M := M_X12_isAhead) dX12_isAhead_107 rfl (Or.inl rfl) ⟨by rw [f_X12_isAhead, if_neg q0, if_pos q1, if_pos q2, if_neg q3, if_neg q4], rfl⟩ (Nat.le_of_ble_eq_true rfl) (Nat.le_of_ble_eq_true rfl)
          · refine x_lload (M := M_X12_isAhead) dX12_isAhead_86 rfl ?_
            refine x_lload (M := M_X12_isAhead) dX12_isAhead_88 rfl ?_
            refine x_lload (M := M_X12_isAhead) dX12_isAhead_90 rfl ?_
            refine x_lload (M := M_X12_isAhead) dX12_isAhead_92 rfl ?_
            refine x_callSR (M := M_X12_isAhead) (M' := M_X12_cross) rfl rfl dX12_isAhead_94 m_X12_cross t_3265 t_3266 (p_X12_cross hl) rfl rfl (Nat.le_of_ble_eq_true rfl) (Nat.le_of_ble_eq_true rfl) (Nat.le_of_ble_eq_true rfl) (Nat.le_of_ble_eq_true rfl) ?_
            refine x_lconst (M := M_X12_isAhead) dX12_isAhead_97 ?_
            refine x_lcmp (M := M_X12_isAhead) dX12_isAhead_98 ?_
            refine x_if_ge (M := M_X12_isAhead) (tgt := 106) dX12_isAhead_99 (by decide) (fun q5 => ?_) (fun q5 => ?_)
            · refine x_iconst (M := M_X12_isAhead) dX12_isAhead_106 ?_
              exact x_zret (M := M_X12_isAhead) dX12_isAhead_107 rfl (Or.inl rfl) ⟨by rw [f_X12_isAhead, if_neg q0, if_pos q1, if_pos q2, if_neg q3, if_pos q4, if_pos q5], rfl⟩ (Nat.le_of_ble_eq_true rfl) (Nat.le_of_ble_eq_true rfl)
            · refine x_iconst (M := M_X12_isAhead) dX12_isAhead_102 ?_
              refine x_goto (M := M_X12_isAhead) (tgt := 107) dX12_isAhead_103 (by decide) ?_
              exact x_zret (M := M_X12_isAhead) dX12_isAhead_107 rfl (Or.inr rfl) ⟨by rw [f_X12_isAhead, if_neg q0, if_pos q1, if_pos q2, if_neg q3, if_pos q4, if_neg q5], rfl⟩ (Nat.le_of_ble_eq_true rfl) (Nat.le_of_ble_eq_true rfl)
    · refine x_iconst (M := M_X12_isAhead) dX12_isAhead_54 ?_
      refine x_goto (M := M_X12_isAhead) (tgt := 70) dX12_isAhead_55 (by decide) ?_
      refine x_istore (M := M_X12_isAhead) dX12_isAhead_70 (by decide) rfl ?_
      refine x_norm (lv' := [some (.long w0), none, some (.long w1), none, some (.long w2), none, some (.long w3), none, some (.long w4), none, some (.long w5), none, some (.long (f_X12_cross w0 w1 w2 w3)), none, some (.long (f_X12_cross w0 w1 w4 w5)), none, some (.int (Int32.ofInt 0)), some (.int (Int32.ofInt 0))]) rfl rfl rfl rfl rfl ?_
      refine x_iload (M := M_X12_isAhead) dX12_isAhead_72 rfl ?_
      refine x_iload (M := M_X12_isAhead) dX12_isAhead_74 rfl ?_
      refine x_icmp_lt (M := M_X12_isAhead) (tgt := 102) dX12_isAhead_76 (by decide) (fun q2 => ?_) (fun q2 => ?_)
      · refine x_iconst (M := M_X12_isAhead) dX12_isAhead_102 ?_
        refine x_goto (M := M_X12_isAhead) (tgt := 107) dX12_isAhead_103 (by decide) ?_
        exact x_zret (M := M_X12_isAhead) dX12_isAhead_107 rfl (Or.inr rfl) ⟨by rw [f_X12_isAhead, if_neg q0, if_neg q1, if_pos q2], rfl⟩ (Nat.le_of_ble_eq_true rfl) (Nat.le_of_ble_eq_true rfl)
      · refine x_iload (M := M_X12_isAhead) dX12_isAhead_79 rfl ?_
        refine x_iload (M := M_X12_isAhead) dX12_isAhead_81 rfl ?_
        refine x_icmp_ne (M := M_X12_isAhead) (tgt := 106) dX12_isAhead_83 (by decide) (fun q3 => ?_) (fun q3 => ?_)
        · refine x_iconst (M := M_X12_isAhead) dX12_isAhead_106 ?_
          exact x_zret (M := M_X12_isAhead) dX12_isAhead_107 rfl (Or.inl rfl) ⟨by rw [f_X12_isAhead, if_neg q0, if_neg q1, if_neg q2, if_neg q3], rfl⟩ (Nat.le_of_ble_eq_true rfl) (Nat.le_of_ble_eq_true rfl)
        · refine x_lload (M := M_X12_isAhead) dX12_isAhead_86 rfl ?_
          refine x_lload (M := M_X12_isAhead) dX12_isAhead_88 rfl ?_
          refine x_lload (M := M_X12_isAhead) dX12_isAhead_90 rfl ?_
          refine x_lload (M := M_X12_isAhead) dX12_isAhead_92 rfl ?_
          refine x_callSR (M := M_X12_isAhead) (M' := M_X12_cross) rfl rfl dX12_isAhead_94 m_X12_cross t_3265 t_3266 (p_X12_cross hl) rfl rfl (Nat.le_of_ble_eq_true rfl) (Nat.le_of_ble_eq_true rfl) (Nat.le_of_ble_eq_true rfl) (Nat.le_of_ble_eq_true rfl) ?_
          refine x_lconst (M := M_X12_isAhead) dX12_isAhead_97 ?_
          refine x_lcmp (M := M_X12_isAhead) dX12_isAhead_98 ?_
          refine x_if_ge (M := M_X12_isAhead) (tgt := 106) dX12_isAhead_99 (by decide) (fun q4 => ?_) (fun q4 => ?_)
          · refine x_iconst (M := M_X12_isAhead) dX12_isAhead_106 ?_
            exact x_zret (M := M_X12_isAhead) dX12_isAhead_107 rfl (Or.inl rfl) ⟨by rw [f_X12_isAhead, if_neg q0, if_neg q1, if_neg q2, if_pos q3, if_pos q4], rfl⟩ (Nat.le_of_ble_eq_true rfl) (Nat.le_of_ble_eq_true rfl)
          · refine x_iconst (M := M_X12_isAhead) dX12_isAhead_102 ?_
            refine x_goto (M := M_X12_isAhead) (tgt := 107) dX12_isAhead_103 (by decide) ?_
            exact x_zret (M := M_X12_isAhead) dX12_isAhead_107 rfl (Or.inr rfl) ⟨by rw [f_X12_isAhead, if_neg q0, if_neg q1, if_neg q2, if_pos q3, if_neg q4], rfl⟩ (Nat.le_of_ble_eq_true rfl) (Nat.le_of_ble_eq_true rfl)
end PUR
