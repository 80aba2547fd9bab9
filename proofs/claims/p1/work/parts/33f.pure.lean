section PUR
def f_X12_isStraight (c67 : Nat → Int64) (c68 : Nat → Int64) (w0 : Int32) (w1 : Int32) (w2 : Int32) : Int32 := if (f_X12_turn (c67 w0.toNatClampNeg) (c68 w0.toNatClampNeg) (c67 w1.toNatClampNeg) (c68 w1.toNatClampNeg) (c67 w2.toNatClampNeg) (c68 w2.toNatClampNeg)) = 0 then (Int32.ofInt 1) else ((Int32.ofInt 0))
theorem b_X12_isStraight (c67 : Nat → Int64) (c68 : Nat → Int64) (w0 : Int32) (w1 : Int32) (w2 : Int32) : f_X12_isStraight c67 c68 w0 w1 w2 = 0 ∨ f_X12_isStraight c67 c68 w0 w1 w2 = 1 := (ite01 (Or.inr rfl) (Or.inl rfl))
theorem p_X12_isStraight {l : Launch} {E : EE} (hl : l.stackTraces = false) {h : HP} {c67 : Nat → Int64} {c68 : Nat → Int64} {w0 : Int32} {w1 : Int32} {w2 : Int32} {a : Nat} {fs : List Value} (ha : ob h a = some (.inr (15, fs))) {r67 n67 : Nat} (e67 : fs[67]? = some (.ref r67)) (o67 : ob h r67 = some (.inl (1, n67, .inr (.inl c67)))) {r68 n68 : Nat} (e68 : fs[68]? = some (.ref r68)) (o68 : ob h r68 = some (.inl (1, n68, .inr (.inl c68)))) (i0 : vp_in w0 n67) (i1 : vp_in w0 n68) (i2 : vp_in w1 n67) (i3 : vp_in w1 n68) (i4 : vp_in w2 n67) (i5 : vp_in w2 n68) : en_C l E M_X12_isStraight 2 0 0 [.ref a, .int w0, .int w1, .int w2] h (pR (some (.int (f_X12_isStraight c67 c68 w0 w1 w2))) h) := by
  refine en_mk m_X12_isStraight rfl hl (Nat.le_of_ble_eq_true rfl) ?_
  refine x_aload_n (M := M_X12_isStraight) dX12_isStraight_0 rfl ?_
  refine x_getf (M := M_X12_isStraight) (ci := 15) (C := RX12) (T := TX12) (N := 135) (ty := tyX12) cl15 dX12_isStraight_1 ha 67 (by decide) t_2458 e67 ?_
  refine x_iload_n (M := M_X12_isStraight) dX12_isStraight_4 rfl ?_
  refine x_lald (M := M_X12_isStraight) dX12_isStraight_5 o67 i0 ?_
  refine x_aload_n (M := M_X12_isStraight) dX12_isStraight_6 rfl ?_
  refine x_getf (M := M_X12_isStraight) (ci := 15) (C := RX12) (T := TX12) (N := 135) (ty := tyX12) cl15 dX12_isStraight_7 ha 68 (by decide) t_2459 e68 ?_
  refine x_iload_n (M := M_X12_isStraight) dX12_isStraight_10 rfl ?_
  refine x_lald (M := M_X12_isStraight) dX12_isStraight_11 o68 i1 ?_
  refine x_aload_n (M := M_X12_isStraight) dX12_isStraight_12 rfl ?_
  refine x_getf (M := M_X12_isStraight) (ci := 15) (C := RX12) (T := TX12) (N := 135) (ty := tyX12) cl15 dX12_isStraight_13 ha 67 (by decide) t_2458 e67 ?_
  refine x_iload_n (M := M_X12_isStraight) dX12_isStraight_16 rfl ?_
  refine x_lald (M := M_X12_isStraight) dX12_isStraight_17 o67 i2 ?_
  refine x_aload_n (M := M_X12_isStraight) dX12_isStraight_18 rfl ?_
  refine x_getf (M := M_X12_isStraight) (ci := 15) (C := RX12) (T := TX12) (N := 135) (ty := tyX12) cl15 dX12_isStraight_19 ha 68 (by decide) t_2459 e68 ?_
  refine x_iload_n (M := M_X12_isStraight) dX12_isStraight_22 rfl ?_
  refine x_lald (M := M_X12_isStraight) dX12_isStraight_23 o68 i3 ?_
  refine x_aload_n (M := M_X12_isStraight) dX12_isStraight_24 rfl ?_
  refine x_getf (M := M_X12_isStraight) (ci := 15) (C := RX12) (T := TX12) (N := 135) (ty := tyX12) cl15 dX12_isStraight_25 ha 67 (by decide) t_2458 e67 ?_
  refine x_iload_n (M := M_X12_isStraight) dX12_isStraight_28 rfl ?_
  refine x_lald (M := M_X12_isStraight) dX12_isStraight_29 o67 i4 ?_
  refine x_aload_n (M := M_X12_isStraight) dX12_isStraight_30 rfl ?_
  refine x_getf (M := M_X12_isStraight) (ci := 15) (C := RX12) (T := TX12) (N := 135) (ty := tyX12) cl15 dX12_isStraight_31 ha 68 (by decide) t_2459 e68 ?_
  refine x_iload_n (M := M_X12_isStraight) dX12_isStraight_34 rfl ?_
  refine x_lald (M := M_X12_isStraight) dX12_isStraight_35 o68 i5 ?_
  refine x_callSR (M := M_X12_isStraight) (M' := M_X12_turn) rfl rfl dX12_isStraight_36 m_X12_turn t_3262 t_3263 (p_X12_turn hl) rfl rfl (Nat.le_of_ble_eq_true rfl) (Nat.le_of_ble_eq_true rfl) (Nat.le_of_ble_eq_true rfl) (Nat.le_of_ble_eq_true rfl) ?_
  refine x_if_ne (M := M_X12_isStraight) (tgt := 46) dX12_isStraight_39 (by decide) (fun q0 => ?_) (fun q0 => ?_)
  · refine x_iconst (M := M_X12_isStraight) dX12_isStraight_46 ?_
    exact x_zret (M := M_X12_isStraight) dX12_isStraight_47 rfl (Or.inl rfl) ⟨by rw [f_X12_isStraight, if_neg q0], rfl⟩ (Nat.le_of_ble_eq_true rfl) (Nat.le_of_ble_eq_true rfl)
  · refine x_iconst (M := M_X12_isStraight) dX12_isStraight_42 ?_
    refine x_goto (M := M_X12_isStraight) (tgt := 47) dX12_isStraight_43 (by decide) ?_
    exact x_zret (M := M_X12_isStraight) dX12_isStraight_47 rfl (Or.inr rfl) ⟨by rw [f_X12_isStraight, if_pos q0], rfl⟩ (Nat.le_of_ble_eq_true rfl) (Nat.le_of_ble_eq_true rfl)
def f_X12_isEarlier (c93 : Nat → Int32) (c95 : Nat → Int32) (w0 : Int32) (w1 : Int32) : Int32 := if (c93 (c95 w0.toNatClampNeg).toNatClampNeg) < (c93 (c95 w1.toNatClampNeg).toNatClampNeg) then (Int32.ofInt 1) else (if (c93 (c95 w0.toNatClampNeg).toNatClampNeg) = (c93 (c95 w1.toNatClampNeg).toNatClampNeg) then if (c93 ((c95 w1.toNatClampNeg) + (Int32.ofInt 1)).toNatClampNeg) ≤ (c93 ((c95 w0.toNatClampNeg) + (Int32.ofInt 1)).toNatClampNeg) then (Int32.ofInt 0) else ((Int32.ofInt 1)) else ((Int32.ofInt 0)))
theorem b_X12_isEarlier (c93 : Nat → Int32) (c95 : Nat → Int32) (w0 : Int32) (w1 : Int32) : f_X12_isEarlier c93 c95 w0 w1 = 0 ∨ f_X12_isEarlier c93 c95 w0 w1 = 1 := (ite01 (Or.inr rfl) (ite01 (ite01 (Or.inl rfl) (Or.inr rfl)) (Or.inl rfl)))
theorem p_X12_isEarlier {l : Launch} {E : EE} (hl : l.stackTraces = false) {h : HP} {c93 : Nat → Int32} {c95 : Nat → Int32} {w0 : Int32} {w1 : Int32} {a : Nat} {fs : List Value} (ha : ob h a = some (.inr (15, fs))) {r93 n93 : Nat} (e93 : fs[93]? = some (.ref r93)) (o93 : ob h r93 = some (.inl (0, n93, .inl c93))) {r95 n95 : Nat} (e95 : fs[95]? = some (.ref r95)) (o95 : ob h r95 = some (.inl (0, n95, .inl c95))) (i0 : vp_in w0 n95) (i1 : vp_in w1 n95) (i2 : vp_in (c95 w0.toNatClampNeg) n93) (i3 : vp_in (c95 w1.toNatClampNeg) n93) (i4 : (¬ (c93 (c95 w0.toNatClampNeg).toNatClampNeg) < (c93 (c95 w1.toNatClampNeg).toNatClampNeg)) → vp_in (c95 w0.toNatClampNeg) n93) (i5 : (¬ (c93 (c95 w0.toNatClampNeg).toNatClampNeg) < (c93 (c95 w1.toNatClampNeg).toNatClampNeg)) → vp_in (c95 w1.toNatClampNeg) n93) (i6 : (¬ (c93 (c95 w0.toNatClampNeg).toNatClampNeg) < (c93 (c95 w1.toNatClampNeg).toNatClampNeg)) → ((c93 (c95 w0.toNatClampNeg).toNatClampNeg) = (c93 (c95 w1.toNatClampNeg).toNatClampNeg)) → vp_in ((c95 w0.toNatClampNeg) + (Int32.ofInt 1)) n93) (i7 : (¬ (c93 (c95 w0.toNatClampNeg).toNatClampNeg) < (c93 (c95 w1.toNatClampNeg).toNatClampNeg)) → ((c93 (c95 w0.toNatClampNeg).toNatClampNeg) = (c93 (c95 w1.toNatClampNeg).toNatClampNeg)) → vp_in ((c95 w1.toNatClampNeg) + (Int32.ofInt 1)) n93) : en_C l E M_X12_isEarlier 0 0 0 [.ref a, .int w0, .int w1] h (pR (some (.int (f_X12_isEarlier c93 c95 w0 w1))) h) := by
  refine en_mk m_X12_isEarlier rfl hl (Nat.le_of_ble_eq_true rfl) ?_
  refine x_aload_n (M := M_X12_isEarlier) dX12_isEarlier_0 rfl ?_
  refine x_getf (M := M_X12_isEarlier) (ci := 15) (C := RX12) (T := TX12) (N := 135) (ty := tyX12) cl15 dX12_isEarlier_1 ha 95 (by decide) t_2486 e95 ?_
  refine x_iload_n (M := M_X12_isEarlier) dX12_isEarlier_4 rfl ?_
  refine x_iald (M := M_X12_isEarlier) dX12_isEarlier_5 o95 i0 ?_
  refine x_istore_n (M := M_X12_isEarlier) dX12_isEarlier_6 (by decide) rfl ?_
  refine x_norm (lv' := [some (.ref a), some (.int w0), some (.int w1), some (.int (c95 w0.toNatClampNeg)), none]) rfl rfl rfl rfl rfl ?_
  refine x_aload_n (M := M_X12_isEarlier) dX12_isEarlier_7 rfl ?_
  refine x_getf (M := M_X12_isEarlier) (ci := 15) (C := RX12) (T := TX12) (N := 135) (ty := tyX12) cl15 dX12_isEarlier_8 ha 95 (by decide) t_2486 e95 ?_
  refine x_iload_n (M := M_X12_isEarlier) dX12_isEarlier_11 rfl ?_
  refine x_iald (M := M_X12_isEarlier) dX12_isEarlier_12 o95 i1 ?_
  refine x_istore (M := M_X12_isEarlier) dX12_isEarlier_13 (by decide) rfl ?_
  refine x_norm (lv' := [some (.ref a), some (.int w0), some (.int w1), some (.int (c95 w0.toNatClampNeg)), some (.int (c95 w1.toNatClampNeg))]) rfl rfl rfl rfl rfl ?_
  refine x_aload_n (M := M_X12_isEarlier) dX12_isEarlier_15 rfl ?_
  refine x_getf (M := M_X12_isEarlier) (ci := 15) (C := RX12) (T := TX12) (N := 135) (ty := tyX12) cl15 dX12_isEarlier_16 ha 93 (by decide) t_2484 e93 ?_
  refine x_iload_n (M := M_X12_isEarlier) dX12_isEarlier_19 rfl ?_
  refine x_iald (M := M_X12_isEarlier) dX12_isEarlier_20 o93 i2 ?_
  refine x_aload_n (M := M_X12_isEarlier) dX12_isEarlier_21 rfl ?_
  refine x_getf (M := M_X12_isEarlier) (ci := 15) (C := RX12) (T := TX12) (N := 135) (ty := tyX12) cl15 dX12_isEarlier_22 ha 93 (by decide) t_2484 e93 ?_
  refine x_iload (M := M_X12_isEarlier) dX12_isEarlier_25 rfl ?_
  refine x_iald (M := M_X12_isEarlier) dX12_isEarlier_27 o93 i3 ?_
  refine x_icmp_lt (M := M_X12_isEarlier) (tgt := 67) dX12_isEarlier_28 (by decide) (fun q0 => ?_) (fun q0 => ?_)
  · refine x_iconst (M := M_X12_isEarlier) dX12_isEarlier_67 ?_
    refine x_goto (M := M_X12_isEarlier) (tgt := 72) dX12_isEarlier_68 (by decide) ?_
    exact x_zret (M := M_X12_isEarlier) dX12_isEarlier_72 rfl (Or.inr rfl) ⟨by rw [f_X12_isEarlier, if_pos q0], rfl⟩ (Nat.le_of_ble_eq_true rfl) (Nat.le_of_ble_eq_true rfl)
  · refine x_aload_n (M := M_X12_isEarlier) dX12_isEarlier_31 rfl ?_
    refine x_getf (M := M_X12_isEarlier) (ci := 15) (C := RX12) (T := TX12) (N := 135) (ty := tyX12) cl15 dX12_isEarlier_32 ha 93 (by decide) t_2484 e93 ?_
    refine x_iload_n (M := M_X12_isEarlier) dX12_isEarlier_35 rfl ?_
    refine x_iald (M := M_X12_isEarlier) dX12_isEarlier_36 o93 (i4 q0) ?_
    refine x_aload_n (M := M_X12_isEarlier) dX12_isEarlier_37 rfl ?_
    refine x_getf (M := M_X12_isEarlier) (ci := 15) (C := RX12) (T := TX12) (N := 135) (ty := tyX12) cl15 dX12_isEarlier_38 ha 93 (by decide) t_2484 e93 ?_
    refine x_iload (M := M_X12_isEarlier) dX12_isEarlier_41 rfl ?_
    refine x_iald (M := M_X12_isEarlier) dX12_isEarlier_43 o93 (i5 q0) ?_
    refine x_icmp_ne (M := M_X12_isEarlier) (tgt := 71) dX12_isEarlier_44 (by decide) (fun q1 => ?_) (fun q1 => ?_)
    · refine x_iconst (M := M_X12_isEarlier) dX12_isEarlier_71 ?_
      exact x_zret (M := M_X12_isEarlier) dX12_isEarlier_72 rfl (Or.inl rfl) ⟨by rw [f_X12_isEarlier, if_neg q0, if_neg q1], rfl⟩ (Nat.le_of_ble_eq_true rfl) (Nat.le_of_ble_eq_true rfl)
    · refine x_aload_n (M := M_X12_isEarlier) dX12_isEarlier_47 rfl ?_
      refine x_getf (M := M_X12_isEarlier) (ci := 15) (C := RX12) (T := TX12) (N := 135) (ty := tyX12) cl15 dX12_isEarlier_48 ha 93 (by decide) t_2484 e93 ?_
      refine x_iload_n (M := M_X12_isEarlier) dX12_isEarlier_51 rfl ?_
      refine x_iconst (M := M_X12_isEarlier) dX12_isEarlier_52 ?_
      refine x_iadd (M := M_X12_isEarlier) dX12_isEarlier_53 ?_
      refine x_iald (M := M_X12_isEarlier) dX12_isEarlier_54 o93 (i6 q0 q1) ?_
      refine x_aload_n (M := M_X12_isEarlier) dX12_isEarlier_55 rfl ?_
      refine x_getf (M := M_X12_isEarlier) (ci := 15) (C := RX12) (T := TX12) (N := 135) (ty := tyX12) cl15 dX12_isEarlier_56 ha 93 (by decide) t_2484 e93 ?_
      refine x_iload (M := M_X12_isEarlier) dX12_isEarlier_59 rfl ?_
      refine x_iconst (M := M_X12_isEarlier) dX12_isEarlier_61 ?_
      refine x_iadd (M := M_X12_isEarlier) dX12_isEarlier_62 ?_
      refine x_iald (M := M_X12_isEarlier) dX12_isEarlier_63 o93 (i7 q0 q1) ?_
      refine x_icmp_ge (M := M_X12_isEarlier) (tgt := 71) dX12_isEarlier_64 (by decide) (fun q2 => ?_) (fun q2 => ?_)
      · refine x_iconst (M := M_X12_isEarlier) dX12_isEarlier_71 ?_
        exact x_zret (M := M_X12_isEarlier) dX12_isEarlier_72 rfl (Or.inl rfl) ⟨by rw [f_X12_isEarlier, if_neg q0, if_pos q1, if_pos q2], rfl⟩ (Nat.le_of_ble_eq_true rfl) (Nat.le_of_ble_eq_true rfl)
      · refine x_iconst (M := M_X12_isEarlier) dX12_isEarlier_67 ?_
        refine x_goto (M := M_X12_isEarlier) (tgt := 72) dX12_isEarlier_68 (by decide) ?_
        exact x_zret (M := M_X12_isEarlier) dX12_isEarlier_72 rfl (Or.inr rfl) ⟨by rw [f_X12_isEarlier, if_neg q0, if_pos q1, if_neg q2], rfl⟩ (Nat.le_of_ble_eq_true rfl) (Nat.le_of_ble_eq_true rfl)
def f_X12_typeOfKind (w0 : Int32) : Int32 := if w0 = (Int8.ofInt 7).toInt32 then (Int32.ofInt (-1)) else (((w0 - (Int32.ofInt 1)) - (w0 - (Int32.ofInt 1)) / (Int32.ofInt 3) * (Int32.ofInt 3)))
theorem p_X12_typeOfKind {l : Launch} {E : EE} (hl : l.stackTraces = false) {h : HP} {w0 : Int32} : en_C l E M_X12_typeOfKind 0 0 0 [.int w0] h (pR (some (.int (f_X12_typeOfKind w0))) h) := by
  refine en_mk m_X12_typeOfKind rfl hl (Nat.le_of_ble_eq_true rfl) ?_
  refine x_iload_n (M := M_X12_typeOfKind) dX12_typeOfKind_0 rfl ?_
  refine x_bipush (M := M_X12_typeOfKind) dX12_typeOfKind_1 ?_
  refine x_icmp_ne (M := M_X12_typeOfKind) (tgt := 10) dX12_typeOfKind_3 (by decide) (fun q0 => ?_) (fun q0 => ?_)
  · refine x_iload_n (M := M_X12_typeOfKind) dX12_typeOfKind_10 rfl ?_
    refine x_iconst (M := M_X12_typeOfKind) dX12_typeOfKind_11 ?_
    refine x_isub (M := M_X12_typeOfKind) dX12_typeOfKind_12 ?_
    refine x_iconst (M := M_X12_typeOfKind) dX12_typeOfKind_13 ?_
    refine x_irem (M := M_X12_typeOfKind) dX12_typeOfKind_14 (by decide +kernel) ?_
    exact x_iret (M := M_X12_typeOfKind) dX12_typeOfKind_15 rfl ⟨by rw [f_X12_typeOfKind, if_neg q0], rfl⟩ (Nat.le_of_ble_eq_true rfl) (Nat.le_of_ble_eq_true rfl)
  · refine x_iconst (M := M_X12_typeOfKind) dX12_typeOfKind_6 ?_
    refine x_goto (M := M_X12_typeOfKind) (tgt := 15) dX12_typeOfKind_7 (by decide) ?_
    exact x_iret (M := M_X12_typeOfKind) dX12_typeOfKind_15 rfl ⟨by rw [f_X12_typeOfKind, if_pos q0], rfl⟩ (Nat.le_of_ble_eq_true rfl) (Nat.le_of_ble_eq_true rfl)
def F_X12_lineEnds (fs : List Value) (c105 : Nat → Int32) (c106 : Nat → Int32) (w0 : Int32) (w1 : Int32) (w2 : Int32) : List Value := fs
def A105_X12_lineEnds (c105 : Nat → Int32) (c106 : Nat → Int32) (w0 : Int32) (w1 : Int32) (w2 : Int32) : Nat → Int32 := if (Int16.ofInt 2100).toInt32 < ((c106 w0.toNatClampNeg) + (Int32.ofInt 2)) then c105 else (if w2 = 0 then c105 else ((upd (upd c105 (((Int16.ofInt 2100).toInt32 * w0) + (c106 w0.toNatClampNeg)).toNatClampNeg w1) ((((Int16.ofInt 2100).toInt32 * w0) + (c106 w0.toNatClampNeg)) + (Int32.ofInt 1)).toNatClampNeg ((w1 + w2) - (Int32.ofInt 1)))))
def A106_X12_lineEnds (c105 : Nat → Int32) (c106 : Nat → Int32) (w0 : Int32) (w1 : Int32) (w2 : Int32) : Nat → Int32 := if (Int16.ofInt 2100).toInt32 < ((c106 w0.toNatClampNeg) + (Int32.ofInt 2)) then c106 else (if w2 = 0 then c106 else ((upd c106 w0.toNatClampNeg ((c106 w0.toNatClampNeg) + (Int32.ofInt 2)))))
theorem l_X12_lineEnds {fs : List Value} {c105 : Nat → Int32} {c106 : Nat → Int32} {w0 : Int32} {w1 : Int32} {w2 : Int32} : (F_X12_lineEnds fs c105 c106 w0 w1 w2).length = fs.length := by
  unfold F_X12_lineEnds
  first | rfl | simp only [List.length_set]
theorem k_X12_lineEnds {fs : List Value} {c105 : Nat → Int32} {c106 : Nat → Int32} {w0 : Int32} {w1 : Int32} {w2 : Int32} {k : Nat} (hk : k ∉ ([] : List Nat)) : (F_X12_lineEnds fs c105 c106 w0 w1 w2)[k]? = fs[k]? := by
  clear hk
  unfold F_X12_lineEnds
  first | rfl | simp only []
theorem p_X12_lineEnds {l : Launch} {E : EE} (hl : l.stackTraces = false) {h : HP} {c105 : Nat → Int32} {c106 : Nat → Int32} {w0 : Int32} {w1 : Int32} {w2 : Int32} {a : Nat} {fs : List Value} (ha : ob h a = some (.inr (15, fs))) {r105 n105 : Nat} (e105 : fs[105]? = some (.ref r105)) (o105 : ob h r105 = some (.inl (0, n105, .inl c105))) {r106 n106 : Nat} (e106 : fs[106]? = some (.ref r106)) (o106 : ob h r106 = some (.inl (0, n106, .inl c106))) (d105_106 : r105 ≠ r106) (i0 : vp_in w0 n106) (i1 : (¬ (Int16.ofInt 2100).toInt32 < ((c106 w0.toNatClampNeg) + (Int32.ofInt 2))) → (¬ w2 = 0) → vp_in w0 n106) (i2 : (¬ (Int16.ofInt 2100).toInt32 < ((c106 w0.toNatClampNeg) + (Int32.ofInt 2))) → (¬ w2 = 0) → vp_in (((Int16.ofInt 2100).toInt32 * w0) + (c106 w0.toNatClampNeg)) n105) (i3 : (¬ (Int16.ofInt 2100).toInt32 < ((c106 w0.toNatClampNeg) + (Int32.ofInt 2))) → (¬ w2 = 0) → vp_in w0 n106) (i4 : (¬ (Int16.ofInt 2100).toInt32 < ((c106 w0.toNatClampNeg) + (Int32.ofInt 2))) → (¬ w2 = 0) → vp_in ((((Int16.ofInt 2100).toInt32 * w0) + (c106 w0.toNatClampNeg)) + (Int32.ofInt 1)) n105) (i5 : (¬ (Int16.ofInt 2100).toInt32 < ((c106 w0.toNatClampNeg) + (Int32.ofInt 2))) → (¬ w2 = 0) → vp_in w0 n106) (i6 : (¬ (Int16.ofInt 2100).toInt32 < ((c106 w0.toNatClampNeg) + (Int32.ofInt 2))) → (¬ w2 = 0) → vp_in w0 n106) : en_C l E M_X12_lineEnds 0 0 0 [.ref a, .int w0, .int w1, .int w2] h (pR none (stt (stt (stt h a (.inr (15, F_X12_lineEnds fs c105 c106 w0 w1 w2))) r105 (.inl (0, n105, .inl (A105_X12_lineEnds c105 c106 w0 w1 w2)))) r106 (.inl (0, n106, .inl (A106_X12_lineEnds c105 c106 w0 w1 w2))))) := by
  refine en_mk m_X12_lineEnds rfl hl (Nat.le_of_ble_eq_true rfl) ?_
  refine x_heap (h' := (stt (stt (stt h a (.inr (15, fs))) r105 (.inl (0, n105, .inl c105))) r106 (.inl (0, n106, .inl c106)))) (by rw [stt_id ha, stt_id o105, stt_id o106]) ?_
  refine x_aload_n (M := M_X12_lineEnds) dX12_lineEnds_0 rfl ?_
  refine x_getf (M := M_X12_lineEnds) (ci := 15) (C := RX12) (T := TX12) (N := 135) (ty := tyX12) cl15 dX12_lineEnds_1 (ob_up (ob_df ha o106).symm (ob_at o106).1 (ob_up (ob_df ha o105).symm (ob_at o105).1 (ob_self ha))) 106 (by decide) t_2497 e106 ?_
  refine x_iload_n (M := M_X12_lineEnds) dX12_lineEnds_4 rfl ?_
  refine x_iald (M := M_X12_lineEnds) dX12_lineEnds_5 (ob_self (ob_up d105_106 (ob_at o105).1 (ob_oth ha o106))) i0 ?_
  refine x_iconst (M := M_X12_lineEnds) dX12_lineEnds_6 ?_
  refine x_iadd (M := M_X12_lineEnds) dX12_lineEnds_7 ?_
  refine x_sipush (M := M_X12_lineEnds) dX12_lineEnds_8 ?_
  refine x_icmp_gt (M := M_X12_lineEnds) (tgt := 18) dX12_lineEnds_11 (by decide) (fun q0 => ?_) (fun q0 => ?_)
  · exact x_vret (M := M_X12_lineEnds) dX12_lineEnds_18 rfl ⟨rfl, by rw [F_X12_lineEnds, A105_X12_lineEnds, if_pos q0, A106_X12_lineEnds, if_pos q0]⟩ (Nat.le_of_ble_eq_true rfl) (Nat.le_of_ble_eq_true rfl)
  · refine x_iload_n (M := M_X12_lineEnds) dX12_lineEnds_14 rfl ?_
    refine x_if_ne (M := M_X12_lineEnds) (tgt := 19) dX12_lineEnds_15 (by decide) (fun q1 => ?_) (fun q1 => ?_)
    · refine x_aload_n (M := M_X12_lineEnds) dX12_lineEnds_19 rfl ?_
      refine x_getf (M := M_X12_lineEnds) (ci := 15) (C := RX12) (T := TX12) (N := 135) (ty := tyX12) cl15 dX12_lineEnds_20 (ob_up (ob_df ha o106).symm (ob_at o106).1 (ob_up (ob_df ha o105).symm (ob_at o105).1 (ob_self ha))) 105 (by decide) t_2496 e105 ?_
      refine x_sipush (M := M_X12_lineEnds) dX12_lineEnds_23 ?_
      refine x_iload_n (M := M_X12_lineEnds) dX12_lineEnds_26 rfl ?_
      refine x_imul (M := M_X12_lineEnds) dX12_lineEnds_27 ?_
      refine x_aload_n (M := M_X12_lineEnds) dX12_lineEnds_28 rfl ?_
      refine x_getf (M := M_X12_lineEnds) (ci := 15) (C := RX12) (T := TX12) (N := 135) (ty := tyX12) cl15 dX12_lineEnds_29 (ob_up (ob_df ha o106).symm (ob_at o106).1 (ob_up (ob_df ha o105).symm (ob_at o105).1 (ob_self ha))) 106 (by decide) t_2497 e106 ?_
      refine x_iload_n (M := M_X12_lineEnds) dX12_lineEnds_32 rfl ?_
      refine x_iald (M := M_X12_lineEnds) dX12_lineEnds_33 (ob_self (ob_up d105_106 (ob_at o105).1 (ob_oth ha o106))) (i1 q0 q1) ?_
      refine x_iadd (M := M_X12_lineEnds) dX12_lineEnds_34 ?_
      refine x_iload_n (M := M_X12_lineEnds) dX12_lineEnds_35 rfl ?_
      refine x_iast (M := M_X12_lineEnds) dX12_lineEnds_36 (ob_up d105_106.symm (ob_at o106).1 (ob_self (ob_oth ha o105))) (i2 q0 q1) ?_
      refine x_heap (h' := (stt (stt (stt h a (.inr (15, fs))) r105 (.inl (0, n105, .inl (upd c105 (((Int16.ofInt 2100).toInt32 * w0) + (c106 w0.toNatClampNeg)).toNatClampNeg w1)))) r106 (.inl (0, n106, .inl c106)))) (by rw [stt_sw (x := r106) (y := r105) d105_106.symm (ob_at o106).1 (ob_at o105).1, stt_stt (a := r105)]) ?_
      refine x_aload_n (M := M_X12_lineEnds) dX12_lineEnds_37 rfl ?_
      refine x_getf (M := M_X12_lineEnds) (ci := 15) (C := RX12) (T := TX12) (N := 135) (ty := tyX12) cl15 dX12_lineEnds_38 (ob_up (ob_df ha o106).symm (ob_at o106).1 (ob_up (ob_df ha o105).symm (ob_at o105).1 (ob_self ha))) 105 (by decide) t_2496 e105 ?_
      refine x_sipush (M := M_X12_lineEnds) dX12_lineEnds_41 ?_
      refine x_iload_n (M := M_X12_lineEnds) dX12_lineEnds_44 rfl ?_
      refine x_imul (M := M_X12_lineEnds) dX12_lineEnds_45 ?_
      refine x_aload_n (M := M_X12_lineEnds) dX12_lineEnds_46 rfl ?_
      refine x_getf (M := M_X12_lineEnds) (ci := 15) (C := RX12) (T := TX12) (N := 135) (ty := tyX12) cl15 dX12_lineEnds_47 (ob_up (ob_df ha o106).symm (ob_at o106).1 (ob_up (ob_df ha o105).symm (ob_at o105).1 (ob_self ha))) 106 (by decide) t_2497 e106 ?_
      refine x_iload_n (M := M_X12_lineEnds) dX12_lineEnds_50 rfl ?_
      refine x_iald (M := M_X12_lineEnds) dX12_lineEnds_51 (ob_self (ob_up d105_106 (ob_at o105).1 (ob_oth ha o106))) (i3 q0 q1) ?_
      refine x_iadd (M := M_X12_lineEnds) dX12_lineEnds_52 ?_
      refine x_iconst (M := M_X12_lineEnds) dX12_lineEnds_53 ?_
      refine x_iadd (M := M_X12_lineEnds) dX12_lineEnds_54 ?_
      refine x_iload_n (M := M_X12_lineEnds) dX12_lineEnds_55 rfl ?_
      refine x_iload_n (M := M_X12_lineEnds) dX12_lineEnds_56 rfl ?_
      refine x_iadd (M := M_X12_lineEnds) dX12_lineEnds_57 ?_
      refine x_iconst (M := M_X12_lineEnds) dX12_lineEnds_58 ?_
      refine x_isub (M := M_X12_lineEnds) dX12_lineEnds_59 ?_
      refine x_iast (M := M_X12_lineEnds) dX12_lineEnds_60 (ob_up d105_106.symm (ob_at o106).1 (ob_self (ob_oth ha o105))) (i4 q0 q1) ?_
      refine x_heap (h' := (stt (stt (stt h a (.inr (15, fs))) r105 (.inl (0, n105, .inl (upd (upd c105 (((Int16.ofInt 2100).toInt32 * w0) + (c106 w0.toNatClampNeg)).toNatClampNeg w1) ((((Int16.ofInt 2100).toInt32 * w0) + (c106 w0.toNatClampNeg)) + (Int32.ofInt 1)).toNatClampNeg ((w1 + w2) - (Int32.ofInt 1)))))) r106 (.inl (0, n106, .inl c106)))) (by rw [stt_sw (x := r106) (y := r105) d105_106.symm (ob_at o106).1 (ob_at o105).1, stt_stt (a := r105)]) ?_
      refine x_aload_n (M := M_X12_lineEnds) dX12_lineEnds_61 rfl ?_
      refine x_getf (M := M_X12_lineEnds) (ci := 15) (C := RX12) (T := TX12) (N := 135) (ty := tyX12) cl15 dX12_lineEnds_62 (ob_up (ob_df ha o106).symm (ob_at o106).1 (ob_up (ob_df ha o105).symm (ob_at o105).1 (ob_self ha))) 106 (by decide) t_2497 e106 ?_
      refine x_iload_n (M := M_X12_lineEnds) dX12_lineEnds_65 rfl ?_
      refine x_dup2 (M := M_X12_lineEnds) dX12_lineEnds_66 rfl rfl ?_
      refine x_iald (M := M_X12_lineEnds) dX12_lineEnds_67 (ob_self (ob_up d105_106 (ob_at o105).1 (ob_oth ha o106))) (i5 q0 q1) ?_
      refine x_iconst (M := M_X12_lineEnds) dX12_lineEnds_68 ?_
      refine x_iadd (M := M_X12_lineEnds) dX12_lineEnds_69 ?_
      refine x_iast (M := M_X12_lineEnds) dX12_lineEnds_70 (ob_self (ob_up d105_106 (ob_at o105).1 (ob_oth ha o106))) (i6 q0 q1) ?_
      refine x_heap (h' := (stt (stt (stt h a (.inr (15, fs))) r105 (.inl (0, n105, .inl (upd (upd c105 (((Int16.ofInt 2100).toInt32 * w0) + (c106 w0.toNatClampNeg)).toNatClampNeg w1) ((((Int16.ofInt 2100).toInt32 * w0) + (c106 w0.toNatClampNeg)) + (Int32.ofInt 1)).toNatClampNeg ((w1 + w2) - (Int32.ofInt 1)))))) r106 (.inl (0, n106, .inl (upd c106 w0.toNatClampNeg ((c106 w0.toNatClampNeg) + (Int32.ofInt 2))))))) (by rw [stt_stt (a := r106)]) ?_
      exact x_vret (M := M_X12_lineEnds) dX12_lineEnds_71 rfl ⟨rfl, by rw [F_X12_lineEnds, A105_X12_lineEnds, if_neg q0, if_neg q1, A106_X12_lineEnds, if_neg q0, if_neg q1]⟩ (Nat.le_of_ble_eq_true rfl) (Nat.le_of_ble_eq_true rfl)
    · exact x_vret (M := M_X12_lineEnds) dX12_lineEnds_18 rfl ⟨rfl, by rw [F_X12_lineEnds, A105_X12_lineEnds, if_neg q0, if_pos q1, A106_X12_lineEnds, if_neg q0, if_pos q1]⟩ (Nat.le_of_ble_eq_true rfl) (Nat.le_of_ble_eq_true rfl)
def F_X12_mark (fs : List Value) (c107 : Nat → Int32) (w0 : Int32) (w1 : Int32) (w2 : Int32) : List Value := fs
def A107_X12_mark (c107 : Nat → Int32) (w0 : Int32) (w1 : Int32) (w2 : Int32) : Nat → Int32 := if w2 ≤ (c107 (((Int32.ofInt 3) * w0) + w1).toNatClampNeg) then (upd c107 (((Int32.ofInt 3) * w0) + w1).toNatClampNeg (c107 (((Int32.ofInt 3) * w0) + w1).toNatClampNeg)) else ((upd c107 (((Int32.ofInt 3) * w0) + w1).toNatClampNeg w2))
theorem l_X12_mark {fs : List Value} {c107 : Nat → Int32} {w0 : Int32} {w1 : Int32} {w2 : Int32} : (F_X12_mark fs c107 w0 w1 w2).length = fs.length := by
  unfold F_X12_mark
  first | rfl | simp only [List.length_set]
theorem k_X12_mark {fs : List Value} {c107 : Nat → Int32} {w0 : Int32} {w1 : Int32} {w2 : Int32} {k : Nat} (hk : k ∉ ([] : List Nat)) : (F_X12_mark fs c107 w0 w1 w2)[k]? = fs[k]? := by
  clear hk
  unfold F_X12_mark
  first | rfl | simp only []
theorem p_X12_mark {l : Launch} {E : EE} (hl : l.stackTraces = false) {h : HP} {c107 : Nat → Int32} {w0 : Int32} {w1 : Int32} {w2 : Int32} {a : Nat} {fs : List Value} (ha : ob h a = some (.inr (15, fs))) {r107 n107 : Nat} (e107 : fs[107]? = some (.ref r107)) (o107 : ob h r107 = some (.inl (0, n107, .inl c107))) (i0 : vp_in (((Int32.ofInt 3) * w0) + w1) n107) (i1 : (w2 ≤ (c107 (((Int32.ofInt 3) * w0) + w1).toNatClampNeg)) → vp_in (((Int32.ofInt 3) * w0) + w1) n107) (i2 : (w2 ≤ (c107 (((Int32.ofInt 3) * w0) + w1).toNatClampNeg)) → vp_in (((Int32.ofInt 3) * w0) + w1) n107) (i3 : (¬ w2 ≤ (c107 (((Int32.ofInt 3) * w0) + w1).toNatClampNeg)) → vp_in (((Int32.ofInt 3) * w0) + w1) n107) : en_C l E M_X12_mark 0 0 0 [.ref a, .int w0, .int w1, .int w2] h (pR none (stt (stt h a (.inr (15, F_X12_mark fs c107 w0 w1 w2))) r107 (.inl (0, n107, .inl (A107_X12_mark c107 w0 w1 w2))))) := by
  refine en_mk m_X12_mark rfl hl (Nat.le_of_ble_eq_true rfl) ?_
  refine x_heap (h' := (stt (stt h a (.inr (15, fs))) r107 (.inl (0, n107, .inl c107)))) (by rw [stt_id ha, stt_id o107]) ?_
  refine x_iconst (M := M_X12_mark) dX12_mark_0 ?_
  refine x_iload_n (M := M_X12_mark) dX12_mark_1 rfl ?_
  refine x_imul (M := M_X12_mark) dX12_mark_2 ?_
  refine x_iload_n (M := M_X12_mark) dX12_mark_3 rfl ?_
  refine x_iadd (M := M_X12_mark) dX12_mark_4 ?_
  refine x_istore (M := M_X12_mark) dX12_mark_5 (by decide) rfl ?_
  refine x_norm (lv' := [some (.ref a), some (.int w0), some (.int w1), some (.int w2), some (.int (((Int32.ofInt 3) * w0) + w1))]) rfl rfl rfl rfl rfl ?_
  refine x_aload_n (M := M_X12_mark) dX12_mark_7 rfl ?_
  refine x_getf (M := M_X12_mark) (ci := 15) (C := RX12) (T := TX12) (N := 135) (ty := tyX12) cl15 dX12_mark_8 (ob_up (ob_df ha o107).symm (ob_at o107).1 (ob_self ha)) 107 (by decide) t_2498 e107 ?_
  refine x_iload (M := M_X12_mark) dX12_mark_11 rfl ?_
  refine x_aload_n (M := M_X12_mark) dX12_mark_13 rfl ?_
  refine x_getf (M := M_X12_mark) (ci := 15) (C := RX12) (T := TX12) (N := 135) (ty := tyX12) cl15 dX12_mark_14 (ob_up (ob_df ha o107).symm (ob_at o107).1 (ob_self ha)) 107 (by decide) t_2498 e107 ?_
  refine x_iload (M := M_X12_mark) dX12_mark_17 rfl ?_
  refine x_iald (M := M_X12_mark) dX12_mark_19 (ob_self (ob_oth ha o107)) i0 ?_
  refine x_iload_n (M := M_X12_mark) dX12_mark_20 rfl ?_
  refine x_icmp_ge (M := M_X12_mark) (tgt := 28) dX12_mark_21 (by decide) (fun q0 => ?_) (fun q0 => ?_)
  · refine x_aload_n (M := M_X12_mark) dX12_mark_28 rfl ?_
    refine x_getf (M := M_X12_mark) (ci := 15) (C := RX12) (T := TX12) (N := 135) (ty := tyX12) cl15 dX12_mark_29 (ob_up (ob_df ha o107).symm (ob_at o107).1 (ob_self ha)) 107 (by decide) t_2498 e107 ?_
    refine x_iload (M := M_X12_mark) dX12_mark_32 rfl ?_
    refine x_iald (M := M_X12_mark) dX12_mark_34 (ob_self (ob_oth ha o107)) (i1 q0) ?_
    refine x_iast (M := M_X12_mark) dX12_mark_35 (ob_self (ob_oth ha o107)) (i2 q0) ?_
    refine x_heap (h' := (stt (stt h a (.inr (15, fs))) r107 (.inl (0, n107, .inl (upd c107 (((Int32.ofInt 3) * w0) + w1).toNatClampNeg (c107 (((Int32.ofInt 3) * w0) + w1).toNatClampNeg)))))) (by rw [stt_stt (a := r107)]) ?_
    exact x_vret (M := M_X12_mark) dX12_mark_36 rfl ⟨rfl, by rw [F_X12_mark, A107_X12_mark, if_pos q0]⟩ (Nat.le_of_ble_eq_true rfl) (Nat.le_of_ble_eq_true rfl)
  · refine x_iload_n (M := M_X12_mark) dX12_mark_24 rfl ?_
    refine x_goto (M := M_X12_mark) (tgt := 35) dX12_mark_25 (by decide) ?_
    refine x_iast (M := M_X12_mark) dX12_mark_35 (ob_self (ob_oth ha o107)) (i3 q0) ?_
    refine x_heap (h' := (stt (stt h a (.inr (15, fs))) r107 (.inl (0, n107, .inl (upd c107 (((Int32.ofInt 3) * w0) + w1).toNatClampNeg w2))))) (by rw [stt_stt (a := r107)]) ?_
    exact x_vret (M := M_X12_mark) dX12_mark_36 rfl ⟨rfl, by rw [F_X12_mark, A107_X12_mark, if_neg q0]⟩ (Nat.le_of_ble_eq_true rfl) (Nat.le_of_ble_eq_true rfl)
def f_X12_dimension (c11 : Nat → Int32) (c100 : Nat → Int32) (c101 : Nat → Int32) (c103 : Nat → Int32) (c104 : Nat → Int32) (w0 : Int32) : Int32 := if (c101 w0.toNatClampNeg) = 0 then if (c11 (c100 w0.toNatClampNeg).toNatClampNeg) ≤ 0 then (Int32.ofInt (-1)) else ((Int32.ofInt 0)) else (if (c101 w0.toNatClampNeg) = (Int32.ofInt 1) then if (c103 w0.toNatClampNeg) ≤ 0 then (Int32.ofInt (-1)) else ((Int32.ofInt 1)) else (if (c104 w0.toNatClampNeg) = 0 then (Int32.ofInt (-1)) else ((Int32.ofInt 2))))
theorem p_X12_dimension {l : Launch} {E : EE} (hl : l.stackTraces = false) {h : HP} {c11 : Nat → Int32} {c100 : Nat → Int32} {c101 : Nat → Int32} {c103 : Nat → Int32} {c104 : Nat → Int32} {w0 : Int32} {a : Nat} {fs : List Value} (ha : ob h a = some (.inr (15, fs))) {r11 n11 : Nat} (e11 : fs[11]? = some (.ref r11)) (o11 : ob h r11 = some (.inl (0, n11, .inl c11))) {r100 n100 : Nat} (e100 : fs[100]? = some (.ref r100)) (o100 : ob h r100 = some (.inl (0, n100, .inl c100))) {r101 n101 : Nat} (e101 : fs[101]? = some (.ref r101)) (o101 : ob h r101 = some (.inl (0, n101, .inl c101))) {r103 n103 : Nat} (e103 : fs[103]? = some (.ref r103)) (o103 : ob h r103 = some (.inl (0, n103, .inl c103))) {r104 n104 : Nat} (e104 : fs[104]? = some (.ref r104)) (o104 : ob h r104 = some (.inl (3, n104, .inl c104))) (i0 : vp_in w0 n101) (i1 : (¬ (c101 w0.toNatClampNeg) = 0) → vp_in w0 n101) (i2 : (¬ (c101 w0.toNatClampNeg) = 0) → (¬ (c101 w0.toNatClampNeg) = (Int32.ofInt 1)) → vp_in w0 n104) (i3 : (¬ (c101 w0.toNatClampNeg) = 0) → ((c101 w0.toNatClampNeg) = (Int32.ofInt 1)) → vp_in w0 n103) (i4 : ((c101 w0.toNatClampNeg) = 0) → vp_in w0 n100) (i5 : ((c101 w0.toNatClampNeg) = 0) → vp_in (c100 w0.toNatClampNeg) n11) : en_C l E M_X12_dimension 0 0 0 [.ref a, .int w0] h (pR (some (.int (f_X12_dimension c11 c100 c101 c103 c104 w0))) h) := by
  refine en_mk m_X12_dimension rfl hl (Nat.le_of_ble_eq_true rfl) ?_
  refine x_aload_n (M := M_X12_dimension) dX12_dimension_0 rfl ?_
  refine x_getf (M := M_X12_dimension) (ci := 15) (C := RX12) (T := TX12) (N := 135) (ty := tyX12) cl15 dX12_dimension_1 ha 101 (by decide) t_2492 e101 ?_
  refine x_iload_n (M := M_X12_dimension) dX12_dimension_4 rfl ?_
  refine x_iald (M := M_X12_dimension) dX12_dimension_5 o101 i0 ?_
  refine x_if_ne (M := M_X12_dimension) (tgt := 29) dX12_dimension_6 (by decide) (fun q0 => ?_) (fun q0 => ?_)
  · refine x_aload_n (M := M_X12_dimension) dX12_dimension_29 rfl ?_
    refine x_getf (M := M_X12_dimension) (ci := 15) (C := RX12) (T := TX12) (N := 135) (ty := tyX12) cl15 dX12_dimension_30 ha 101 (by decide) t_2492 e101 ?_
    refine x_iload_n (M := M_X12_dimension) dX12_dimension_33 rfl ?_
    refine x_iald (M := M_X12_dimension) dX12_dimension_34 o101 (i1 q0) ?_
    refine x_iconst (M := M_X12_dimension) dX12_dimension_35 ?_
    refine x_icmp_ne (M := M_X12_dimension) (tgt := 54) dX12_dimension_36 (by decide) (fun q1 => ?_) (fun q1 => ?_)
    · refine x_aload_n (M := M_X12_dimension) dX12_dimension_54 rfl ?_
      refine x_getf (M := M_X12_dimension) (ci := 15) (C := RX12) (T := TX12) (N := 135) (ty := tyX12) cl15 dX12_dimension_55 ha 104 (by decide) t_2495 e104 ?_
      refine x_iload_n (M := M_X12_dimension) dX12_dimension_58 rfl ?_
      refine x_zald (M := M_X12_dimension) dX12_dimension_59 o104 (i2 q0 q1) ?_
      refine x_if_eq (M := M_X12_dimension) (tgt := 67) dX12_dimension_60 (by decide) (fun q2 => ?_) (fun q2 => ?_)
      · refine x_iconst (M := M_X12_dimension) dX12_dimension_67 ?_
        exact x_iret (M := M_X12_dimension) dX12_dimension_68 rfl ⟨by rw [f_X12_dimension, if_neg q0, if_neg q1, if_pos q2], rfl⟩ (Nat.le_of_ble_eq_true rfl) (Nat.le_of_ble_eq_true rfl)
      · refine x_iconst (M := M_X12_dimension) dX12_dimension_63 ?_
        refine x_goto (M := M_X12_dimension) (tgt := 68) dX12_dimension_64 (by decide) ?_
        exact x_iret (M := M_X12_dimension) dX12_dimension_68 rfl ⟨by rw [f_X12_dimension, if_neg q0, if_neg q1, if_neg q2], rfl⟩ (Nat.le_of_ble_eq_true rfl) (Nat.le_of_ble_eq_true rfl)
    · refine x_aload_n (M := M_X12_dimension) dX12_dimension_39 rfl ?_
      refine x_getf (M := M_X12_dimension) (ci := 15) (C := RX12) (T := TX12) (N := 135) (ty := tyX12) cl15 dX12_dimension_40 ha 103 (by decide) t_2494 e103 ?_
      refine x_iload_n (M := M_X12_dimension) dX12_dimension_43 rfl ?_
      refine x_iald (M := M_X12_dimension) dX12_dimension_44 o103 (i3 q0 q1) ?_
      refine x_if_le (M := M_X12_dimension) (tgt := 52) dX12_dimension_45 (by decide) (fun q2 => ?_) (fun q2 => ?_)
      · refine x_iconst (M := M_X12_dimension) dX12_dimension_52 ?_
        exact x_iret (M := M_X12_dimension) dX12_dimension_53 rfl ⟨by rw [f_X12_dimension, if_neg q0, if_pos q1, if_pos q2], rfl⟩ (Nat.le_of_ble_eq_true rfl) (Nat.le_of_ble_eq_true rfl)
      · refine x_iconst (M := M_X12_dimension) dX12_dimension_48 ?_
        refine x_goto (M := M_X12_dimension) (tgt := 53) dX12_dimension_49 (by decide) ?_
        exact x_iret (M := M_X12_dimension) dX12_dimension_53 rfl ⟨by rw [f_X12_dimension, if_neg q0, if_pos q1, if_neg q2], rfl⟩ (Nat.le_of_ble_eq_true rfl) (Nat.le_of_ble_eq_true rfl)
  · refine x_aload_n (M := M_X12_dimension) dX12_dimension_9 rfl ?_
    refine x_getf (M := M_X12_dimension) (ci := 15) (C := RX12) (T := TX12) (N := 135) (ty := tyX12) cl15 dX12_dimension_10 ha 11 (by decide) t_2402 e11 ?_
    refine x_aload_n (M := M_X12_dimension) dX12_dimension_13 rfl ?_
    refine x_getf (M := M_X12_dimension) (ci := 15) (C := RX12) (T := TX12) (N := 135) (ty := tyX12) cl15 dX12_dimension_14 ha 100 (by decide) t_2491 e100 ?_
    refine x_iload_n (M := M_X12_dimension) dX12_dimension_17 rfl ?_
    refine x_iald (M := M_X12_dimension) dX12_dimension_18 o100 (i4 q0) ?_
    refine x_iald (M := M_X12_dimension) dX12_dimension_19 o11 (i5 q0) ?_
    refine x_if_le (M := M_X12_dimension) (tgt := 27) dX12_dimension_20 (by decide) (fun q1 => ?_) (fun q1 => ?_)
    · refine x_iconst (M := M_X12_dimension) dX12_dimension_27 ?_
      exact x_iret (M := M_X12_dimension) dX12_dimension_28 rfl ⟨by rw [f_X12_dimension, if_pos q0, if_pos q1], rfl⟩ (Nat.le_of_ble_eq_true rfl) (Nat.le_of_ble_eq_true rfl)
    · refine x_iconst (M := M_X12_dimension) dX12_dimension_23 ?_
      refine x_goto (M := M_X12_dimension) (tgt := 28) dX12_dimension_24 (by decide) ?_
      exact x_iret (M := M_X12_dimension) dX12_dimension_28 rfl ⟨by rw [f_X12_dimension, if_pos q0, if_neg q1], rfl⟩ (Nat.le_of_ble_eq_true rfl) (Nat.le_of_ble_eq_true rfl)
def f_X12_m (c107 : Nat → Int32) (w0 : Int32) : Int32 := if (c107 w0.toNatClampNeg) < 0 then (Int32.ofInt 0) else ((Int32.ofInt 1))
theorem b_X12_m (c107 : Nat → Int32) (w0 : Int32) : f_X12_m c107 w0 = 0 ∨ f_X12_m c107 w0 = 1 := (ite01 (Or.inl rfl) (Or.inr rfl))
theorem p_X12_m {l : Launch} {E : EE} (hl : l.stackTraces = false) {h : HP} {c107 : Nat → Int32} {w0 : Int32} {a : Nat} {fs : List Value} (ha : ob h a = some (.inr (15, fs))) {r107 n107 : Nat} (e107 : fs[107]? = some (.ref r107)) (o107 : ob h r107 = some (.inl (0, n107, .inl c107))) (i0 : vp_in w0 n107) : en_C l E M_X12_m 0 0 0 [.ref a, .int w0] h (pR (some (.int (f_X12_m c107 w0))) h) := by
  refine en_mk m_X12_m rfl hl (Nat.le_of_ble_eq_true rfl) ?_
  refine x_aload_n (M := M_X12_m) dX12_m_0 rfl ?_
  refine x_getf (M := M_X12_m) (ci := 15) (C := RX12) (T := TX12) (N := 135) (ty := tyX12) cl15 dX12_m_1 ha 107 (by decide) t_2498 e107 ?_
  refine x_iload_n (M := M_X12_m) dX12_m_4 rfl ?_
  refine x_iald (M := M_X12_m) dX12_m_5 o107 i0 ?_
  refine x_if_lt (M := M_X12_m) (tgt := 13) dX12_m_6 (by decide) (fun q0 => ?_) (fun q0 => ?_)
  · refine x_iconst (M := M_X12_m) dX12_m_13 ?_
    exact x_zret (M := M_X12_m) dX12_m_14 rfl (Or.inl rfl) ⟨by rw [f_X12_m, if_pos q0], rfl⟩ (Nat.le_of_ble_eq_true rfl) (Nat.le_of_ble_eq_true rfl)
  · refine x_iconst (M := M_X12_m) dX12_m_9 ?_
    refine x_goto (M := M_X12_m) (tgt := 14) dX12_m_10 (by decide) ?_
    exact x_zret (M := M_X12_m) dX12_m_14 rfl (Or.inr rfl) ⟨by rw [f_X12_m, if_neg q0], rfl⟩ (Nat.le_of_ble_eq_true rfl) (Nat.le_of_ble_eq_true rfl)
def f_X12_turnOf (c117 : Nat → Int64) (c118 : Nat → Int64) (w0 : Int32) (w1 : Int32) (w2 : Int32) : Int32 := (f_X12_turn (c117 w0.toNatClampNeg) (c118 w0.toNatClampNeg) (c117 w1.toNatClampNeg) (c118 w1.toNatClampNeg) (c117 w2.toNatClampNeg) (c118 w2.toNatClampNeg))
theorem p_X12_turnOf {l : Launch} {E : EE} (hl : l.stackTraces = false) {h : HP} {c117 : Nat → Int64} {c118 : Nat → Int64} {w0 : Int32} {w1 : Int32} {w2 : Int32} {a : Nat} {fs : List Value} (ha : ob h a = some (.inr (15, fs))) {r117 n117 : Nat} (e117 : fs[117]? = some (.ref r117)) (o117 : ob h r117 = some (.inl (1, n117, .inr (.inl c117)))) {r118 n118 : Nat} (e118 : fs[118]? = some (.ref r118)) (o118 : ob h r118 = some (.inl (1, n118, .inr (.inl c118)))) (i0 : vp_in w0 n117) (i1 : vp_in w0 n118) (i2 : vp_in w1 n117) (i3 : vp_in w1 n118) (i4 : vp_in w2 n117) (i5 : vp_in w2 n118) : en_C l E M_X12_turnOf 2 0 0 [.ref a, .int w0, .int w1, .int w2] h (pR (some (.int (f_X12_turnOf c117 c118 w0 w1 w2))) h) := by
  refine en_mk m_X12_turnOf rfl hl (Nat.le_of_ble_eq_true rfl) ?_
  refine x_aload_n (M := M_X12_turnOf) dX12_turnOf_0 rfl ?_
  refine x_getf (M := M_X12_turnOf) (ci := 15) (C := RX12) (T := TX12) (N := 135) (ty := tyX12) cl15 dX12_turnOf_1 ha 117 (by decide) t_2508 e117 ?_
  refine x_iload_n (M := M_X12_turnOf) dX12_turnOf_4 rfl ?_
  refine x_lald (M := M_X12_turnOf) dX12_turnOf_5 o117 i0 ?_
  refine x_aload_n (M := M_X12_turnOf) dX12_turnOf_6 rfl ?_
  refine x_getf (M := M_X12_turnOf) (ci := 15) (C := RX12) (T := TX12) (N := 135) (ty := tyX12) cl15 dX12_turnOf_7 ha 118 (by decide) t_2509 e118 ?_
  refine x_iload_n (M := M_X12_turnOf) dX12_turnOf_10 rfl ?_
  refine x_lald (M := M_X12_turnOf) dX12_turnOf_11 o118 i1 ?_
  refine x_aload_n (M := M_X12_turnOf) dX12_turnOf_12 rfl ?_
  refine x_getf (M := M_X12_turnOf) (ci := 15) (C := RX12) (T := TX12) (N := 135) (ty := tyX12) cl15 dX12_turnOf_13 ha 117 (by decide) t_2508 e117 ?_
  refine x_iload_n (M := M_X12_turnOf) dX12_turnOf_16 rfl ?_
  refine x_lald (M := M_X12_turnOf) dX12_turnOf_17 o117 i2 ?_
  refine x_aload_n (M := M_X12_turnOf) dX12_turnOf_18 rfl ?_
  refine x_getf (M := M_X12_turnOf) (ci := 15) (C := RX12) (T := TX12) (N := 135) (ty := tyX12) cl15 dX12_turnOf_19 ha 118 (by decide) t_2509 e118 ?_
  refine x_iload_n (M := M_X12_turnOf) dX12_turnOf_22 rfl ?_
  refine x_lald (M := M_X12_turnOf) dX12_turnOf_23 o118 i3 ?_
  refine x_aload_n (M := M_X12_turnOf) dX12_turnOf_24 rfl ?_
  refine x_getf (M := M_X12_turnOf) (ci := 15) (C := RX12) (T := TX12) (N := 135) (ty := tyX12) cl15 dX12_turnOf_25 ha 117 (by decide) t_2508 e117 ?_
  refine x_iload_n (M := M_X12_turnOf) dX12_turnOf_28 rfl ?_
  refine x_lald (M := M_X12_turnOf) dX12_turnOf_29 o117 i4 ?_
  refine x_aload_n (M := M_X12_turnOf) dX12_turnOf_30 rfl ?_
  refine x_getf (M := M_X12_turnOf) (ci := 15) (C := RX12) (T := TX12) (N := 135) (ty := tyX12) cl15 dX12_turnOf_31 ha 118 (by decide) t_2509 e118 ?_
  refine x_iload_n (M := M_X12_turnOf) dX12_turnOf_34 rfl ?_
  refine x_lald (M := M_X12_turnOf) dX12_turnOf_35 o118 i5 ?_
  refine x_callSR (M := M_X12_turnOf) (M' := M_X12_turn) rfl rfl dX12_turnOf_36 m_X12_turn t_3262 t_3263 (p_X12_turn hl) rfl rfl (Nat.le_of_ble_eq_true rfl) (Nat.le_of_ble_eq_true rfl) (Nat.le_of_ble_eq_true rfl) (Nat.le_of_ble_eq_true rfl) ?_
  exact x_iret (M := M_X12_turnOf) dX12_turnOf_39 rfl ⟨rfl, rfl⟩ (Nat.le_of_ble_eq_true rfl) (Nat.le_of_ble_eq_true rfl)
def f_X12_isLess (c117 : Nat → Int64) (c118 : Nat → Int64) (w0 : Int32) (w1 : Int32) : Int32 := (f_X12_isBefore (c117 w0.toNatClampNeg) (c118 w0.toNatClampNeg) (c117 w1.toNatClampNeg) (c118 w1.toNatClampNeg))
theorem b_X12_isLess (c117 : Nat → Int64) (c118 : Nat → Int64) (w0 : Int32) (w1 : Int32) : f_X12_isLess c117 c118 w0 w1 = 0 ∨ f_X12_isLess c117 c118 w0 w1 = 1 := (b_X12_isBefore _ _ _ _)
theorem p_X12_isLess {l : Launch} {E : EE} (hl : l.stackTraces = false) {h : HP} {c117 : Nat → Int64} {c118 : Nat → Int64} {w0 : Int32} {w1 : Int32} {a : Nat} {fs : List Value} (ha : ob h a = some (.inr (15, fs))) {r117 n117 : Nat} (e117 : fs[117]? = some (.ref r117)) (o117 : ob h r117 = some (.inl (1, n117, .inr (.inl c117)))) {r118 n118 : Nat} (e118 : fs[118]? = some (.ref r118)) (o118 : ob h r118 = some (.inl (1, n118, .inr (.inl c118)))) (i0 : vp_in w0 n117) (i1 : vp_in w0 n118) (i2 : vp_in w1 n117) (i3 : vp_in w1 n118) : en_C l E M_X12_isLess 1 0 0 [.ref a, .int w0, .int w1] h (pR (some (.int (f_X12_isLess c117 c118 w0 w1))) h) := by
  refine en_mk m_X12_isLess rfl hl (Nat.le_of_ble_eq_true rfl) ?_
  refine x_aload_n (M := M_X12_isLess) dX12_isLess_0 rfl ?_
  refine x_getf (M := M_X12_isLess) (ci := 15) (C := RX12) (T := TX12) (N := 135) (ty := tyX12) cl15 dX12_isLess_1 ha 117 (by decide) t_2508 e117 ?_
  refine x_iload_n (M := M_X12_isLess) dX12_isLess_4 rfl ?_
  refine x_lald (M := M_X12_isLess) dX12_isLess_5 o117 i0 ?_
  refine x_aload_n (M := M_X12_isLess) dX12_isLess_6 rfl ?_
  refine x_getf (M := M_X12_isLess) (ci := 15) (C := RX12) (T := TX12) (N := 135) (ty := tyX12) cl15 dX12_isLess_7 ha 118 (by decide) t_2509 e118 ?_
  refine x_iload_n (M := M_X12_isLess) dX12_isLess_10 rfl ?_
  refine x_lald (M := M_X12_isLess) dX12_isLess_11 o118 i1 ?_
  refine x_aload_n (M := M_X12_isLess) dX12_isLess_12 rfl ?_
  refine x_getf (M := M_X12_isLess) (ci := 15) (C := RX12) (T := TX12) (N := 135) (ty := tyX12) cl15 dX12_isLess_13 ha 117 (by decide) t_2508 e117 ?_
  refine x_iload_n (M := M_X12_isLess) dX12_isLess_16 rfl ?_
  refine x_lald (M := M_X12_isLess) dX12_isLess_17 o117 i2 ?_
  refine x_aload_n (M := M_X12_isLess) dX12_isLess_18 rfl ?_
  refine x_getf (M := M_X12_isLess) (ci := 15) (C := RX12) (T := TX12) (N := 135) (ty := tyX12) cl15 dX12_isLess_19 ha 118 (by decide) t_2509 e118 ?_
  refine x_iload_n (M := M_X12_isLess) dX12_isLess_22 rfl ?_
  refine x_lald (M := M_X12_isLess) dX12_isLess_23 o118 i3 ?_
  refine x_callSR (M := M_X12_isLess) (M' := M_X12_isBefore) rfl rfl dX12_isLess_24 m_X12_isBefore t_3275 t_3276 (p_X12_isBefore hl) rfl rfl (Nat.le_of_ble_eq_true rfl) (Nat.le_of_ble_eq_true rfl) (Nat.le_of_ble_eq_true rfl) (Nat.le_of_ble_eq_true rfl) ?_
  exact x_zret (M := M_X12_isLess) dX12_isLess_27 rfl (b_X12_isBefore _ _ _ _) ⟨rfl, rfl⟩ (Nat.le_of_ble_eq_true rfl) (Nat.le_of_ble_eq_true rfl)
def f_X12_wayTo (c117 : Nat → Int64) (c118 : Nat → Int64) (w0 : Int32) (w1 : Int32) : Int64 := if 0 ≤ (lg_cmp ((c117 w1.toNatClampNeg) - (c117 w0.toNatClampNeg)) (Int64.ofNat ((0 : Fin 2) : Nat))) then if 0 ≤ (lg_cmp ((c118 w1.toNatClampNeg) - (c118 w0.toNatClampNeg)) (Int64.ofNat ((0 : Fin 2) : Nat))) then (((c117 w1.toNatClampNeg) - (c117 w0.toNatClampNeg)) + ((c118 w1.toNatClampNeg) - (c118 w0.toNatClampNeg))) else ((((c117 w1.toNatClampNeg) - (c117 w0.toNatClampNeg)) + (-((c118 w1.toNatClampNeg) - (c118 w0.toNatClampNeg))))) else (if 0 ≤ (lg_cmp ((c118 w1.toNatClampNeg) - (c118 w0.toNatClampNeg)) (Int64.ofNat ((0 : Fin 2) : Nat))) then ((-((c117 w1.toNatClampNeg) - (c117 w0.toNatClampNeg))) + ((c118 w1.toNatClampNeg) - (c118 w0.toNatClampNeg))) else (((-((c117 w1.toNatClampNeg) - (c117 w0.toNatClampNeg))) + (-((c118 w1.toNatClampNeg) - (c118 w0.toNatClampNeg))))))
theorem p_X12_wayTo {l : Launch} {E : EE} (hl : l.stackTraces = false) {h : HP} {c117 : Nat → Int64} {c118 : Nat → Int64} {w0 : Int32} {w1 : Int32} {a : Nat} {fs : List Value} (ha : ob h a = some (.inr (15, fs))) {r117 n117 : Nat} (e117 : fs[117]? = some (.ref r117)) (o117 : ob h r117 = some (.inl (1, n117, .inr (.inl c117)))) {r118 n118 : Nat} (e118 : fs[118]? = some (.ref r118)) (o118 : ob h r118 = some (.inl (1, n118, .inr (.inl c118)))) (i0 : vp_in w1 n117) (i1 : vp_in w0 n117) (i2 : vp_in w1 n118) (i3 : vp_in w0 n118) : en_C l E M_X12_wayTo 0 0 0 [.ref a, .int w0, .int w1] h (pR (some (.long (f_X12_wayTo c117 c118 w0 w1))) h) := by
  refine en_mk m_X12_wayTo rfl hl (Nat.le_of_ble_eq_true rfl) ?_
  refine x_aload_n (M := M_X12_wayTo) dX12_wayTo_0 rfl ?_
  refine x_getf (M := M_X12_wayTo) (ci := 15) (C := RX12) (T := TX12) (N := 135) (ty := tyX12) cl15 dX12_wayTo_1 ha 117 (by decide) t_2508 e117 ?_
  refine x_iload_n (M := M_X12_wayTo) dX12_wayTo_4 rfl ?_
  refine x_lald (M := M_X12_wayTo) dX12_wayTo_5 o117 i0 ?_
  refine x_aload_n (M := M_X12_wayTo) dX12_wayTo_6 rfl ?_
  refine x_getf (M := M_X12_wayTo) (ci := 15) (C := RX12) (T := TX12) (N := 135) (ty := tyX12) cl15 dX12_wayTo_7 ha 117 (by decide) t_2508 e117 ?_
  refine x_iload_n (M := M_X12_wayTo) dX12_wayTo_10 rfl ?_
  refine x_lald (M := M_X12_wayTo) dX12_wayTo_11 o117 i1 ?_
  refine x_lsub (M := M_X12_wayTo) dX12_wayTo_12 ?_
  refine x_lstore_n (M := M_X12_wayTo) dX12_wayTo_13 (by decide) rfl ?_
  refine x_norm (lv' := [some (.ref a), some (.int w0), some (.int w1), some (.long ((c117 w1.toNatClampNeg) - (c117 w0.toNatClampNeg))), none, none, none]) rfl rfl rfl rfl rfl ?_
  refine x_aload_n (M := M_X12_wayTo) dX12_wayTo_14 rfl ?_
  refine x_getf (M := M_X12_wayTo) (ci := 15) (C := RX12) (T := TX12) (N := 135) (ty := tyX12) cl15 dX12_wayTo_15 ha 118 (by decide) t_2509 e118 ?_
  refine x_iload_n (M := M_X12_wayTo) dX12_wayTo_18 rfl ?_
  refine x_lald (M := M_X12_wayTo) dX12_wayTo_19 o118 i2 ?_
  refine x_aload_n (M := M_X12_wayTo) dX12_wayTo_20 rfl ?_
  refine x_getf (M := M_X12_wayTo) (ci := 15) (C := RX12) (T := TX12) (N := 135) (ty := tyX12) cl15 dX12_wayTo_21 ha 118 (by decide) t_2509 e118 ?_
  refine x_iload_n (M := M_X12_wayTo) dX12_wayTo_24 rfl ?_
  refine x_lald (M := M_X12_wayTo) dX12_wayTo_25 o118 i3 ?_
  refine x_lsub (M := M_X12_wayTo) dX12_wayTo_26 ?_
  refine x_lstore (M := M_X12_wayTo) dX12_wayTo_27 (by decide) rfl ?_
  refine x_norm (lv' := [some (.ref a), some (.int w0), some (.int w1), some (.long ((c117 w1.toNatClampNeg) - (c117 w0.toNatClampNeg))), none, some (.long ((c118 w1.toNatClampNeg) - (c118 w0.toNatClampNeg))), none]) rfl rfl rfl rfl rfl ?_
  refine x_lload_n (M := M_X12_wayTo) dX12_wayTo_29 rfl ?_
  refine x_lconst (M := M_X12_wayTo) dX12_wayTo_30 ?_
  refine x_lcmp (M := M_X12_wayTo) dX12_wayTo_31 ?_
  refine x_if_ge (M := M_X12_wayTo) (tgt := 40) dX12_wayTo_32 (by decide) (fun q0 => ?_) (fun q0 => ?_)
  · refine x_lload_n (M := M_X12_wayTo) dX12_wayTo_40 rfl ?_
    refine x_lload (M := M_X12_wayTo) dX12_wayTo_41 rfl ?_
    refine x_lconst (M := M_X12_wayTo) dX12_wayTo_43 ?_
    refine x_lcmp (M := M_X12_wayTo) dX12_wayTo_44 ?_
    refine x_if_ge (M := M_X12_wayTo) (tgt := 54) dX12_wayTo_45 (by decide) (fun q1 => ?_) (fun q1 => ?_)
    · refine x_lload (M := M_X12_wayTo) dX12_wayTo_54 rfl ?_
      refine x_ladd (M := M_X12_wayTo) dX12_wayTo_56 ?_
      exact x_lret (M := M_X12_wayTo) dX12_wayTo_57 rfl ⟨by rw [f_X12_wayTo, if_pos q0, if_pos q1], rfl⟩ (Nat.le_of_ble_eq_true rfl) (Nat.le_of_ble_eq_true rfl)
    · refine x_lload (M := M_X12_wayTo) dX12_wayTo_48 rfl ?_
      refine x_lneg (M := M_X12_wayTo) dX12_wayTo_50 ?_
      refine x_goto (M := M_X12_wayTo) (tgt := 56) dX12_wayTo_51 (by decide) ?_
      refine x_ladd (M := M_X12_wayTo) dX12_wayTo_56 ?_
      exact x_lret (M := M_X12_wayTo) dX12_wayTo_57 rfl ⟨by rw [f_X12_wayTo, if_pos q0, if_neg q1], rfl⟩ (Nat.le_of_ble_eq_true rfl) (Nat.le_of_ble_eq_true rfl)
  · refine x_lload_n (M := M_X12_wayTo) dX12_wayTo_35 rfl ?_
    refine x_lneg (M := M_X12_wayTo) dX12_wayTo_36 ?_
    refine x_goto (M := M_X12_wayTo) (tgt := 41) dX12_wayTo_37 (by decide) ?_
    refine x_lload (M := M_X12_wayTo) dX12_wayTo_41 rfl ?_
    refine x_lconst (M := M_X12_wayTo) dX12_wayTo_43 ?_
    refine x_lcmp (M := M_X12_wayTo) dX12_wayTo_44 ?_
    refine x_if_ge (M := M_X12_wayTo) (tgt := 54) dX12_wayTo_45 (by decide) (fun q1 => ?_) (fun q1 => ?_)
    · refine x_lload (M := M_X12_wayTo) dX12_wayTo_54 rfl ?_
      refine x_ladd (M := M_X12_wayTo) dX12_wayTo_56 ?_
      exact x_lret (M := M_X12_wayTo) dX12_wayTo_57 rfl ⟨by rw [f_X12_wayTo, if_neg q0, if_pos q1], rfl⟩ (Nat.le_of_ble_eq_true rfl) (Nat.le_of_ble_eq_true rfl)
    · refine x_lload (M := M_X12_wayTo) dX12_wayTo_48 rfl ?_
      refine x_lneg (M := M_X12_wayTo) dX12_wayTo_50 ?_
      refine x_goto (M := M_X12_wayTo) (tgt := 56) dX12_wayTo_51 (by decide) ?_
      refine x_ladd (M := M_X12_wayTo) dX12_wayTo_56 ?_
      exact x_lret (M := M_X12_wayTo) dX12_wayTo_57 rfl ⟨by rw [f_X12_wayTo, if_neg q0, if_neg q1], rfl⟩ (Nat.le_of_ble_eq_true rfl) (Nat.le_of_ble_eq_true rfl)
def f_X12_isLater (c128 : Nat → Int32) (c129 : Nat → Int32) (c130 : Nat → Int32) (w0 : Int32) (w1 : Int32) (w2 : Int32) (w3 : Int32) : Int32 := if (c128 w0.toNatClampNeg) = w1 then if (c129 w0.toNatClampNeg) = w2 then if (c130 w0.toNatClampNeg) ≤ w3 then (Int32.ofInt 0) else ((Int32.ofInt 1)) else (if (c129 w0.toNatClampNeg) ≤ w2 then (Int32.ofInt 0) else ((Int32.ofInt 1))) else (if (c128 w0.toNatClampNeg) ≤ w1 then (Int32.ofInt 0) else ((Int32.ofInt 1)))
theorem b_X12_isLater (c128 : Nat → Int32) (c129 : Nat → Int32) (c130 : Nat → Int32) (w0 : Int32) (w1 : Int32) (w2 : Int32) (w3 : Int32) : f_X12_isLater c128 c129 c130 w0 w1 w2 w3 = 0 ∨ f_X12_isLater c128 c129 c130 w0 w1 w2 w3 = 1 := (ite01 (ite01 (ite01 (Or.inl rfl) (Or.inr rfl)) (ite01 (Or.inl rfl) (Or.inr rfl))) (ite01 (Or.inl rfl) (Or.inr rfl)))
theorem p_X12_isLater {l : Launch} {E : EE} (hl : l.stackTraces = false) {h : HP} {c128 : Nat → Int32} {c129 : Nat → Int32} {c130 : Nat → Int32} {w0 : Int32} {w1 : Int32} {w2 : Int32} {w3 : Int32} {a : Nat} {fs : List Value} (ha : ob h a = some (.inr (15, fs))) {r128 n128 : Nat} (e128 : fs[128]? = some (.ref r128)) (o128 : ob h r128 = some (.inl (0, n128, .inl c128))) {r129 n129 : Nat} (e129 : fs[129]? = some (.ref r129)) (o129 : ob h r129 = some (.inl (0, n129, .inl c129))) {r130 n130 : Nat} (e130 : fs[130]? = some (.ref r130)) (o130 : ob h r130 = some (.inl (0, n130, .inl c130))) (i0 : vp_in w0 n128) (i1 : ((c128 w0.toNatClampNeg) = w1) → vp_in w0 n129) (i2 : ((c128 w0.toNatClampNeg) = w1) → ((c129 w0.toNatClampNeg) = w2) → vp_in w0 n130) (i3 : ((c128 w0.toNatClampNeg) = w1) → (¬ (c129 w0.toNatClampNeg) = w2) → vp_in w0 n129) (i4 : (¬ (c128 w0.toNatClampNeg) = w1) → vp_in w0 n128) : en_C l E M_X12_isLater 0 0 0 [.ref a, .int w0, .int w1, .int w2, .int w3] h (pR (some (.int (f_X12_isLater c128 c129 c130 w0 w1 w2 w3))) h) := by
  refine en_mk m_X12_isLater rfl hl (Nat.le_of_ble_eq_true rfl) ?_
  refine x_aload_n (M := M_X12_isLater) dX12_isLater_0 rfl ?_
  refine x_getf (M := M_X12_isLater) (ci := 15) (C := RX12) (T := TX12) (N := 135) (ty := tyX12) cl15 dX12_isLater_1 ha 128 (by decide) t_2519 e128 ?_
  refine x_iload_n (M := M_X12_isLater) dX12_isLater_4 rfl ?_
  refine x_iald (M := M_X12_isLater) dX12_isLater_5 o128 i0 ?_
  refine x_iload_n (M := M_X12_isLater) dX12_isLater_6 rfl ?_
  refine x_icmp_eq (M := M_X12_isLater) (tgt := 26) dX12_isLater_7 (by decide) (fun q0 => ?_) (fun q0 => ?_)
  · refine x_aload_n (M := M_X12_isLater) dX12_isLater_26 rfl ?_
    refine x_getf (M := M_X12_isLater) (ci := 15) (C := RX12) (T := TX12) (N := 135) (ty := tyX12) cl15 dX12_isLater_27 ha 129 (by decide) t_2520 e129 ?_
    refine x_iload_n (M := M_X12_isLater) dX12_isLater_30 rfl ?_
    refine x_iald (M := M_X12_isLater) dX12_isLater_31 o129 (i1 q0) ?_
    refine x_iload_n (M := M_X12_isLater) dX12_isLater_32 rfl ?_
    refine x_icmp_eq (M := M_X12_isLater) (tgt := 54) dX12_isLater_33 (by decide) (fun q1 => ?_) (fun q1 => ?_)
    · refine x_aload_n (M := M_X12_isLater) dX12_isLater_54 rfl ?_
      refine x_getf (M := M_X12_isLater) (ci := 15) (C := RX12) (T := TX12) (N := 135) (ty := tyX12) cl15 dX12_isLater_55 ha 130 (by decide) t_2521 e130 ?_
      refine x_iload_n (M := M_X12_isLater) dX12_isLater_58 rfl ?_
      refine x_iald (M := M_X12_isLater) dX12_isLater_59 o130 (i2 q0 q1) ?_
      refine x_iload (M := M_X12_isLater) dX12_isLater_60 rfl ?_
      refine x_icmp_le (M := M_X12_isLater) (tgt := 69) dX12_isLater_62 (by decide) (fun q2 => ?_) (fun q2 => ?_)
      · refine x_iconst (M := M_X12_isLater) dX12_isLater_69 ?_
        exact x_zret (M := M_X12_isLater) dX12_isLater_70 rfl (Or.inl rfl) ⟨by rw [f_X12_isLater, if_pos q0, if_pos q1, if_pos q2], rfl⟩ (Nat.le_of_ble_eq_true rfl) (Nat.le_of_ble_eq_true rfl)
      · refine x_iconst (M := M_X12_isLater) dX12_isLater_65 ?_
        refine x_goto (M := M_X12_isLater) (tgt := 70) dX12_isLater_66 (by decide) ?_
        exact x_zret (M := M_X12_isLater) dX12_isLater_70 rfl (Or.inr rfl) ⟨by rw [f_X12_isLater, if_pos q0, if_pos q1, if_neg q2], rfl⟩ (Nat.le_of_ble_eq_true rfl) (Nat.le_of_ble_eq_true rfl)
    · refine x_aload_n (M := M_X12_isLater) dX12_isLater_36 rfl ?_
      refine x_getf (M := M_X12_isLater) (ci := 15) (C := RX12) (T := TX12) (N := 135) (ty := tyX12) cl15 dX12_isLater_37 ha 129 (by decide) t_2520 e129 ?_
      refine x_iload_n (M := M_X12_isLater) dX12_isLater_40 rfl ?_
      refine x_iald (M := M_X12_isLater) dX12_isLater_41 o129 (i3 q0 q1) ?_
      refine x_iload_n (M := M_X12_isLater) dX12_isLater_42 rfl ?_
      refine x_icmp_le (M := M_X12_isLater) (tgt := 50) dX12_isLater_43 (by decide) (fun q2 => ?_) (fun q2 => ?_)
      · refine x_iconst (M := M_X12_isLater) dX12_isLater_50 ?_
        refine x_goto (M := M_X12_isLater) (tgt := 70) dX12_isLater_51 (by decide) ?_
        exact x_zret (M := M_X12_isLater) dX12_isLater_70 rfl (Or.inl rfl) ⟨by rw [f_X12_isLater, if_pos q0, if_neg q1, if_pos q2], rfl⟩ (Nat.le_of_ble_eq_true rfl) (Nat.le_of_ble_eq_true rfl)
      · refine x_iconst (M := M_X12_isLater) dX12_isLater_46 ?_
        refine x_goto (M := M_X12_isLater) (tgt := 70) dX12_isLater_47 (by decide) ?_
        exact x_zret (M := M_X12_isLater) dX12_isLater_70 rfl (Or.inr rfl) ⟨by rw [f_X12_isLater, if_pos q0, if_neg q1, if_neg q2], rfl⟩ (Nat.le_of_ble_eq_true rfl) (Nat.le_of_ble_eq_true rfl)
  · refine x_aload_n (M := M_X12_isLater) dX12_isLater_10 rfl ?_
    refine x_getf (M := M_X12_isLater) (ci := 15) (C := RX12) (T := TX12) (N := 135) (ty := tyX12) cl15 dX12_isLater_11 ha 128 (by decide) t_2519 e128 ?_
    refine x_iload_n (M := M_X12_isLater) dX12_isLater_14 rfl ?_
    refine x_iald (M := M_X12_isLater) dX12_isLater_15 o128 (i4 q0) ?_
    refine x_iload_n (M := M_X12_isLater) dX12_isLater_16 rfl ?_
    refine x_icmp_le (M := M_X12_isLater) (tgt := 24) dX12_isLater_17 (by decide) (fun q1 => ?_) (fun q1 => ?_)
    · refine x_iconst (M := M_X12_isLater) dX12_isLater_24 ?_
      exact x_zret (M := M_X12_isLater) dX12_isLater_25 rfl (Or.inl rfl) ⟨by rw [f_X12_isLater, if_neg q0, if_pos q1], rfl⟩ (Nat.le_of_ble_eq_true rfl) (Nat.le_of_ble_eq_true rfl)
    · refine x_iconst (M := M_X12_isLater) dX12_isLater_20 ?_
      refine x_goto (M := M_X12_isLater) (tgt := 25) dX12_isLater_21 (by decide) ?_
      exact x_zret (M := M_X12_isLater) dX12_isLater_25 rfl (Or.inr rfl) ⟨by rw [f_X12_isLater, if_neg q0, if_neg q1], rfl⟩ (Nat.le_of_ble_eq_true rfl) (Nat.le_of_ble_eq_true rfl)
def F_X12_waitFor (fs : List Value) (g125 : Int32) (c123 : Nat → Int32) (c124 : Nat → Int32) (w0 : Int32) (w1 : Int32) : List Value := (fs.set 125 (.int (g125 + (Int32.ofInt 1))))
def A123_X12_waitFor (g125 : Int32) (c123 : Nat → Int32) (c124 : Nat → Int32) (w0 : Int32) (w1 : Int32) : Nat → Int32 := (upd c123 g125.toNatClampNeg w0)
def A124_X12_waitFor (g125 : Int32) (c123 : Nat → Int32) (c124 : Nat → Int32) (w0 : Int32) (w1 : Int32) : Nat → Int32 := (upd c124 g125.toNatClampNeg w1)
theorem l_X12_waitFor {fs : List Value} {g125 : Int32} {c123 : Nat → Int32} {c124 : Nat → Int32} {w0 : Int32} {w1 : Int32} : (F_X12_waitFor fs g125 c123 c124 w0 w1).length = fs.length := by
  unfold F_X12_waitFor
  first | rfl | simp only [List.length_set]
theorem k_X12_waitFor {fs : List Value} {g125 : Int32} {c123 : Nat → Int32} {c124 : Nat → Int32} {w0 : Int32} {w1 : Int32} {k : Nat} (hk : k ∉ ([125] : List Nat)) : (F_X12_waitFor fs g125 c123 c124 w0 w1)[k]? = fs[k]? := by
  simp only [List.mem_cons, List.not_mem_nil, or_false, not_or] at hk
  unfold F_X12_waitFor
  first | rfl | simp only [List.getElem?_set_ne (by omega : 125 ≠ k)]
def V125_X12_waitFor (g125 : Int32) (c123 : Nat → Int32) (c124 : Nat → Int32) (w0 : Int32) (w1 : Int32) : Int32 := (g125 + (Int32.ofInt 1))
theorem v125_X12_waitFor {fs : List Value} {g125 : Int32} {c123 : Nat → Int32} {c124 : Nat → Int32} {w0 : Int32} {w1 : Int32} (hn : fs.length = 135) (e125 : fs[125]? = some (.int g125)) : (F_X12_waitFor fs g125 c123 c124 w0 w1)[125]? = some (.int (V125_X12_waitFor g125 c123 c124 w0 w1)) := by
  unfold F_X12_waitFor V125_X12_waitFor
  exact (gs_eq (by simp only [List.length_set, hn]; decide))
theorem p_X12_waitFor {l : Launch} {E : EE} (hl : l.stackTraces = false) {h : HP} {g125 : Int32} {c123 : Nat → Int32} {c124 : Nat → Int32} {w0 : Int32} {w1 : Int32} {a : Nat} {fs : List Value} (ha : ob h a = some (.inr (15, fs))) (hn : fs.length = 135) (e125 : fs[125]? = some (.int g125)) {r123 n123 : Nat} (e123 : fs[123]? = some (.ref r123)) (o123 : ob h r123 = some (.inl (0, n123, .inl c123))) {r124 n124 : Nat} (e124 : fs[124]? = some (.ref r124)) (o124 : ob h r124 = some (.inl (0, n124, .inl c124))) (d123_124 : r123 ≠ r124) (i0 : vp_in g125 n123) (i1 : vp_in g125 n124) : en_C l E M_X12_waitFor 0 0 0 [.ref a, .int w0, .int w1] h (pR none (stt (stt (stt h a (.inr (15, F_X12_waitFor fs g125 c123 c124 w0 w1))) r123 (.inl (0, n123, .inl (A123_X12_waitFor g125 c123 c124 w0 w1)))) r124 (.inl (0, n124, .inl (A124_X12_waitFor g125 c123 c124 w0 w1))))) := by
  refine en_mk m_X12_waitFor rfl hl (Nat.le_of_ble_eq_true rfl) ?_
  refine x_heap (h' := (stt (stt (stt h a (.inr (15, fs))) r123 (.inl (0, n123, .inl c123))) r124 (.inl (0, n124, .inl c124)))) (by rw [stt_id ha, stt_id o123, stt_id o124]) ?_
  refine x_aload_n (M := M_X12_waitFor) dX12_waitFor_0 rfl ?_
  refine x_getf (M := M_X12_waitFor) (ci := 15) (C := RX12) (T := TX12) (N := 135) (ty := tyX12) cl15 dX12_waitFor_1 (ob_up (ob_df ha o124).symm (ob_at o124).1 (ob_up (ob_df ha o123).symm (ob_at o123).1 (ob_self ha))) 123 (by decide) t_2514 e123 ?_
  refine x_aload_n (M := M_X12_waitFor) dX12_waitFor_4 rfl ?_
  refine x_getf (M := M_X12_waitFor) (ci := 15) (C := RX12) (T := TX12) (N := 135) (ty := tyX12) cl15 dX12_waitFor_5 (ob_up (ob_df ha o124).symm (ob_at o124).1 (ob_up (ob_df ha o123).symm (ob_at o123).1 (ob_self ha))) 125 (by decide) t_2516 e125 ?_
  refine x_iload_n (M := M_X12_waitFor) dX12_waitFor_8 rfl ?_
  refine x_iast (M := M_X12_waitFor) dX12_waitFor_9 (ob_up d123_124.symm (ob_at o124).1 (ob_self (ob_oth ha o123))) i0 ?_
  refine x_heap (h' := (stt (stt (stt h a (.inr (15, fs))) r123 (.inl (0, n123, .inl (upd c123 g125.toNatClampNeg w0)))) r124 (.inl (0, n124, .inl c124)))) (by rw [stt_sw (x := r124) (y := r123) d123_124.symm (ob_at o124).1 (ob_at o123).1, stt_stt (a := r123)]) ?_
  refine x_aload_n (M := M_X12_waitFor) dX12_waitFor_10 rfl ?_
  refine x_getf (M := M_X12_waitFor) (ci := 15) (C := RX12) (T := TX12) (N := 135) (ty := tyX12) cl15 dX12_waitFor_11 (ob_up (ob_df ha o124).symm (ob_at o124).1 (ob_up (ob_df ha o123).symm (ob_at o123).1 (ob_self ha))) 124 (by decide) t_2515 e124 ?_
  refine x_aload_n (M := M_X12_waitFor) dX12_waitFor_14 rfl ?_
  refine x_getf (M := M_X12_waitFor) (ci := 15) (C := RX12) (T := TX12) (N := 135) (ty := tyX12) cl15 dX12_waitFor_15 (ob_up (ob_df ha o124).symm (ob_at o124).1 (ob_up (ob_df ha o123).symm (ob_at o123).1 (ob_self ha))) 125 (by decide) t_2516 e125 ?_
  refine x_iload_n (M := M_X12_waitFor) dX12_waitFor_18 rfl ?_
  refine x_iast (M := M_X12_waitFor) dX12_waitFor_19 (ob_self (ob_up d123_124 (ob_at o123).1 (ob_oth ha o124))) i1 ?_
  refine x_heap (h' := (stt (stt (stt h a (.inr (15, fs))) r123 (.inl (0, n123, .inl (upd c123 g125.toNatClampNeg w0)))) r124 (.inl (0, n124, .inl (upd c124 g125.toNatClampNeg w1))))) (by rw [stt_stt (a := r124)]) ?_
  refine x_aload_n (M := M_X12_waitFor) dX12_waitFor_20 rfl ?_
  refine x_dup (M := M_X12_waitFor) dX12_waitFor_21 rfl ?_
  refine x_getf (M := M_X12_waitFor) (ci := 15) (C := RX12) (T := TX12) (N := 135) (ty := tyX12) cl15 dX12_waitFor_22 (ob_up (ob_df ha o124).symm (ob_at o124).1 (ob_up (ob_df ha o123).symm (ob_at o123).1 (ob_self ha))) 125 (by decide) t_2516 e125 ?_
  refine x_iconst (M := M_X12_waitFor) dX12_waitFor_25 ?_
  refine x_iadd (M := M_X12_waitFor) dX12_waitFor_26 ?_
  refine x_put (M := M_X12_waitFor) (ci := 15) (C := RX12) (T := TX12) (N := 135) (ty := tyX12) cl15 dX12_waitFor_27 (ob_up (ob_df ha o124).symm (ob_at o124).1 (ob_up (ob_df ha o123).symm (ob_at o123).1 (ob_self ha))) 125 (by decide) t_2516 (Or.inl rfl) (by simp only [List.length_set, hn]; decide) rfl ?_
  refine x_heap (h' := (stt (stt (stt h a (.inr (15, (fs.set 125 (.int (g125 + (Int32.ofInt 1))))))) r123 (.inl (0, n123, .inl (upd c123 g125.toNatClampNeg w0)))) r124 (.inl (0, n124, .inl (upd c124 g125.toNatClampNeg w1))))) (by rw [stt_sw (x := r124) (y := a) (ob_df ha o124).symm (ob_at o124).1 (ob_at ha).1, stt_sw (x := r123) (y := a) (ob_df ha o123).symm (ob_at o123).1 (ob_at ha).1, stt_stt (a := a)]) ?_
  exact x_vret (M := M_X12_waitFor) dX12_waitFor_30 rfl ⟨rfl, by rw [F_X12_waitFor, A123_X12_waitFor, A124_X12_waitFor]⟩ (Nat.le_of_ble_eq_true rfl) (Nat.le_of_ble_eq_true rfl)
def F_X12_dotSpot (fs : List Value) (c11 : Nat → Int32) (c12 : Nat → Int32) (c13 : Nat → Int32) (c117 : Nat → Int64) (c118 : Nat → Int64) (w0 : Int32) : List Value := (F_X12_dot fs c11 c12 c13 (c117 w0.toNatClampNeg) (c118 w0.toNatClampNeg))
def A11_X12_dotSpot (c11 : Nat → Int32) (c12 : Nat → Int32) (c13 : Nat → Int32) (c117 : Nat → Int64) (c118 : Nat → Int64) (w0 : Int32) : Nat → Int32 := (A11_X12_dot c11 c12 c13 (c117 w0.toNatClampNeg) (c118 w0.toNatClampNeg))
def A12_X12_dotSpot (c11 : Nat → Int32) (c12 : Nat → Int32) (c13 : Nat → Int32) (c117 : Nat → Int64) (c118 : Nat → Int64) (w0 : Int32) : Nat → Int32 := (A12_X12_dot c11 c12 c13 (c117 w0.toNatClampNeg) (c118 w0.toNatClampNeg))
def A13_X12_dotSpot (c11 : Nat → Int32) (c12 : Nat → Int32) (c13 : Nat → Int32) (c117 : Nat → Int64) (c118 : Nat → Int64) (w0 : Int32) : Nat → Int32 := (A13_X12_dot c11 c12 c13 (c117 w0.toNatClampNeg) (c118 w0.toNatClampNeg))
theorem l_X12_dotSpot {fs : List Value} {c11 : Nat → Int32} {c12 : Nat → Int32} {c13 : Nat → Int32} {c117 : Nat → Int64} {c118 : Nat → Int64} {w0 : Int32} : (F_X12_dotSpot fs c11 c12 c13 c117 c118 w0).length = fs.length := by
  unfold F_X12_dotSpot
  first | rfl | simp only [List.length_set, l_X12_dot]
theorem k_X12_dotSpot {fs : List Value} {c11 : Nat → Int32} {c12 : Nat → Int32} {c13 : Nat → Int32} {c117 : Nat → Int64} {c118 : Nat → Int64} {w0 : Int32} {k : Nat} (hk : k ∉ ([] : List Nat)) : (F_X12_dotSpot fs c11 c12 c13 c117 c118 w0)[k]? = fs[k]? := by
  clear hk
  unfold F_X12_dotSpot
  first | rfl | simp only [k_X12_dot (k := k) (by simp <;> omega)]
theorem p_X12_dotSpot {l : Launch} {E : EE} (hl : l.stackTraces = false) {h : HP} {c11 : Nat → Int32} {c12 : Nat → Int32} {c13 : Nat → Int32} {c117 : Nat → Int64} {c118 : Nat → Int64} {w0 : Int32} {a : Nat} {fs : List Value} (ha : ob h a = some (.inr (15, fs))) {r11 n11 : Nat} (e11 : fs[11]? = some (.ref r11)) (o11 : ob h r11 = some (.inl (0, n11, .inl c11))) {r12 n12 : Nat} (e12 : fs[12]? = some (.ref r12)) (o12 : ob h r12 = some (.inl (0, n12, .inl c12))) {r13 n13 : Nat} (e13 : fs[13]? = some (.ref r13)) (o13 : ob h r13 = some (.inl (0, n13, .inl c13))) {r117 n117 : Nat} (e117 : fs[117]? = some (.ref r117)) (o117 : ob h r117 = some (.inl (1, n117, .inr (.inl c117)))) {r118 n118 : Nat} (e118 : fs[118]? = some (.ref r118)) (o118 : ob h r118 = some (.inl (1, n118, .inr (.inl c118)))) (d11_12 : r11 ≠ r12) (d11_13 : r11 ≠ r13) (d11_117 : r11 ≠ r117) (d11_118 : r11 ≠ r118) (d12_13 : r12 ≠ r13) (d12_117 : r12 ≠ r117) (d12_118 : r12 ≠ r118) (d13_117 : r13 ≠ r117) (d13_118 : r13 ≠ r118) (i0 : vp_in w0 n117) (i1 : vp_in w0 n118) (i2 : (vp_in ((Int8.ofInt 32).toInt32) n11)) (i3 : (vp_in ((65536 : Int32) + (c11 ((Int8.ofInt 32).toInt32).toNatClampNeg)) n12)) (i4 : (vp_in ((Int8.ofInt 32).toInt32) n11)) (i5 : (vp_in ((65536 : Int32) + (c11 ((Int8.ofInt 32).toInt32).toNatClampNeg)) n13)) (i6 : (vp_in ((Int8.ofInt 32).toInt32) n11)) (i7 : (vp_in ((Int8.ofInt 32).toInt32) n11)) : en_C l E M_X12_dotSpot 1 0 0 [.ref a, .int w0] h (pR none (stt (stt (stt (stt h a (.inr (15, F_X12_dotSpot fs c11 c12 c13 c117 c118 w0))) r11 (.inl (0, n11, .inl (A11_X12_dotSpot c11 c12 c13 c117 c118 w0)))) r12 (.inl (0, n12, .inl (A12_X12_dotSpot c11 c12 c13 c117 c118 w0)))) r13 (.inl (0, n13, .inl (A13_X12_dotSpot c11 c12 c13 c117 c118 w0))))) := by
  refine en_mk m_X12_dotSpot rfl hl (Nat.le_of_ble_eq_true rfl) ?_
  refine x_heap (h' := (stt (stt (stt (stt h a (.inr (15, fs))) r11 (.inl (0, n11, .inl c11))) r12 (.inl (0, n12, .inl c12))) r13 (.inl (0, n13, .inl c13)))) (by rw [stt_id ha, stt_id o11, stt_id o12, stt_id o13]) ?_
  refine x_aload_n (M := M_X12_dotSpot) dX12_dotSpot_0 rfl ?_
  refine x_aload_n (M := M_X12_dotSpot) dX12_dotSpot_1 rfl ?_
  refine x_getf (M := M_X12_dotSpot) (ci := 15) (C := RX12) (T := TX12) (N := 135) (ty := tyX12) cl15 dX12_dotSpot_2 (ob_up (ob_df ha o13).symm (ob_at o13).1 (ob_up (ob_df ha o12).symm (ob_at o12).1 (ob_up (ob_df ha o11).symm (ob_at o11).1 (ob_self ha)))) 117 (by decide) t_2508 e117 ?_
  refine x_iload_n (M := M_X12_dotSpot) dX12_dotSpot_5 rfl ?_
  refine x_lald (M := M_X12_dotSpot) dX12_dotSpot_6 (ob_up d13_117 (ob_at o13).1 (ob_up d12_117 (ob_at o12).1 (ob_up d11_117 (ob_at o11).1 (ob_oth ha o117)))) i0 ?_
  refine x_aload_n (M := M_X12_dotSpot) dX12_dotSpot_7 rfl ?_
  refine x_getf (M := M_X12_dotSpot) (ci := 15) (C := RX12) (T := TX12) (N := 135) (ty := tyX12) cl15 dX12_dotSpot_8 (ob_up (ob_df ha o13).symm (ob_at o13).1 (ob_up (ob_df ha o12).symm (ob_at o12).1 (ob_up (ob_df ha o11).symm (ob_at o11).1 (ob_self ha)))) 118 (by decide) t_2509 e118 ?_
  refine x_iload_n (M := M_X12_dotSpot) dX12_dotSpot_11 rfl ?_
  refine x_lald (M := M_X12_dotSpot) dX12_dotSpot_12 (ob_up d13_118 (ob_at o13).1 (ob_up d12_118 (ob_at o12).1 (ob_up d11_118 (ob_at o11).1 (ob_oth ha o118)))) i1 ?_
  refine x_callVR (M := M_X12_dotSpot) (M' := M_X12_dot) rfl rfl dX12_dotSpot_13 m_X12_dot t_2938 t_2940 s_178 (p_X12_dot hl (ob_up (ob_df ha o13).symm (ob_at o13).1 (ob_up (ob_df ha o12).symm (ob_at o12).1 (ob_up (ob_df ha o11).symm (ob_at o11).1 (ob_self ha)))) e11 (ob_up d11_13.symm (ob_at o13).1 (ob_up d11_12.symm (ob_at o12).1 (ob_self (ob_oth ha o11)))) e12 (ob_up d12_13.symm (ob_at o13).1 (ob_self (ob_up d11_12 (ob_at o11).1 (ob_oth ha o12)))) e13 (ob_self (ob_up d12_13 (ob_at o12).1 (ob_up d11_13 (ob_at o11).1 (ob_oth ha o13)))) d11_12 d11_13 d12_13 i2 i3 i4 i5 i6 i7) rfl rfl (ob_up (ob_df ha o13).symm (ob_at o13).1 (ob_up (ob_df ha o12).symm (ob_at o12).1 (ob_up (ob_df ha o11).symm (ob_at o11).1 (ob_self ha)))) rfl (Nat.le_of_ble_eq_true rfl) (Nat.le_of_ble_eq_true rfl) (Nat.le_of_ble_eq_true rfl) (Nat.le_of_ble_eq_true rfl) ?_
  refine x_heap (h' := (stt (stt (stt (stt h a (.inr (15, (F_X12_dot fs c11 c12 c13 (c117 w0.toNatClampNeg) (c118 w0.toNatClampNeg))))) r11 (.inl (0, n11, .inl (A11_X12_dot c11 c12 c13 (c117 w0.toNatClampNeg) (c118 w0.toNatClampNeg))))) r12 (.inl (0, n12, .inl (A12_X12_dot c11 c12 c13 (c117 w0.toNatClampNeg) (c118 w0.toNatClampNeg))))) r13 (.inl (0, n13, .inl (A13_X12_dot c11 c12 c13 (c117 w0.toNatClampNeg) (c118 w0.toNatClampNeg)))))) (by rw [stt_sw (x := r13) (y := a) (ob_df ha o13).symm (ob_at o13).1 (ob_at ha).1, stt_sw (x := r12) (y := a) (ob_df ha o12).symm (ob_at o12).1 (ob_at ha).1, stt_sw (x := r11) (y := a) (ob_df ha o11).symm (ob_at o11).1 (ob_at ha).1, stt_stt (a := a), stt_sw (x := r13) (y := r11) d11_13.symm (ob_at o13).1 (ob_at o11).1, stt_sw (x := r12) (y := r11) d11_12.symm (ob_at o12).1 (ob_at o11).1, stt_stt (a := r11), stt_sw (x := r13) (y := r12) d12_13.symm (ob_at o13).1 (ob_at o12).1, stt_stt (a := r12), stt_stt (a := r13)]) ?_
  exact x_vret (M := M_X12_dotSpot) dX12_dotSpot_16 rfl ⟨rfl, by rw [F_X12_dotSpot, A11_X12_dotSpot, A12_X12_dotSpot, A13_X12_dotSpot]⟩ (Nat.le_of_ble_eq_true rfl) (Nat.le_of_ble_eq_true rfl)
def f_J13_compare_74951 (w0 : Int64) (w1 : Int64) : Int32 := if 0 ≤ (lg_cmp w0 w1) then if (lg_cmp w0 w1) = 0 then (Int32.ofInt 0) else ((Int32.ofInt 1)) else ((Int32.ofInt (-1)))
theorem p_J13_compare_74951 {l : Launch} {E : EE} (hl : l.stackTraces = false) {h : HP} {w0 : Int64} {w1 : Int64} : en_C l E M_J13_compare_74951 0 0 0 [.long w0, .long w1] h (pR (some (.int (f_J13_compare_74951 w0 w1))) h) := by
  refine en_mk m_J13_compare_74951 rfl hl (Nat.le_of_ble_eq_true rfl) ?_
  refine x_lload_n (M := M_J13_compare_74951) dJ13_compare_74951_0 rfl ?_
  refine x_lload_n (M := M_J13_compare_74951) dJ13_compare_74951_1 rfl ?_
  refine x_lcmp (M := M_J13_compare_74951) dJ13_compare_74951_2 ?_
  refine x_if_ge (M := M_J13_compare_74951) (tgt := 10) dJ13_compare_74951_3 (by decide) (fun q0 => ?_) (fun q0 => ?_)
  · refine x_lload_n (M := M_J13_compare_74951) dJ13_compare_74951_10 rfl ?_
    refine x_lload_n (M := M_J13_compare_74951) dJ13_compare_74951_11 rfl ?_
    refine x_lcmp (M := M_J13_compare_74951) dJ13_compare_74951_12 ?_
    refine x_if_ne (M := M_J13_compare_74951) (tgt := 20) dJ13_compare_74951_13 (by decide) (fun q1 => ?_) (fun q1 => ?_)
    · refine x_iconst (M := M_J13_compare_74951) dJ13_compare_74951_20 ?_
      exact x_iret (M := M_J13_compare_74951) dJ13_compare_74951_21 rfl ⟨by rw [f_J13_compare_74951, if_pos q0, if_neg q1], rfl⟩ (Nat.le_of_ble_eq_true rfl) (Nat.le_of_ble_eq_true rfl)
    · refine x_iconst (M := M_J13_compare_74951) dJ13_compare_74951_16 ?_
      refine x_goto (M := M_J13_compare_74951) (tgt := 21) dJ13_compare_74951_17 (by decide) ?_
      exact x_iret (M := M_J13_compare_74951) dJ13_compare_74951_21 rfl ⟨by rw [f_J13_compare_74951, if_pos q0, if_pos q1], rfl⟩ (Nat.le_of_ble_eq_true rfl) (Nat.le_of_ble_eq_true rfl)
  · refine x_iconst (M := M_J13_compare_74951) dJ13_compare_74951_6 ?_
    refine x_goto (M := M_J13_compare_74951) (tgt := 21) dJ13_compare_74951_7 (by decide) ?_
    exact x_iret (M := M_J13_compare_74951) dJ13_compare_74951_21 rfl ⟨by rw [f_J13_compare_74951, if_neg q0], rfl⟩ (Nat.le_of_ble_eq_true rfl) (Nat.le_of_ble_eq_true rfl)
def f_X2_triangleKey (w0 : Int64) (w1 : Int64) (w2 : Int64) : Int64 := if 0 ≤ (lg_cmp w1 w0) then if 0 ≤ (lg_cmp w2 w0) then (f_X2_triangleKeyFrom w0 w1 w2) else (if 0 ≤ (lg_cmp w2 w1) then (f_X2_triangleKeyFrom w0 w1 w2) else ((f_X2_triangleKeyFrom w2 w0 w1))) else (if 0 ≤ (lg_cmp w1 w2) then if 0 ≤ (lg_cmp w2 w0) then (f_X2_triangleKeyFrom w0 w1 w2) else (if 0 ≤ (lg_cmp w2 w1) then (f_X2_triangleKeyFrom w0 w1 w2) else ((f_X2_triangleKeyFrom w2 w0 w1))) else ((f_X2_triangleKeyFrom w1 w2 w0)))
theorem p_X2_triangleKey {l : Launch} {E : EE} (hl : l.stackTraces = false) {h : HP} {w0 : Int64} {w1 : Int64} {w2 : Int64} : en_C l E M_X2_triangleKey 1 0 0 [.long w0, .long w1, .long w2] h (pR (some (.long (f_X2_triangleKey w0 w1 w2))) h) := by
  refine en_mk m_X2_triangleKey rfl hl (Nat.le_of_ble_eq_true rfl) ?_
  refine x_lload_n (M := M_X2_triangleKey) dX2_triangleKey_0 rfl ?_
  refine x_lload_n (M := M_X2_triangleKey) dX2_triangleKey_1 rfl ?_
  refine x_lcmp (M := M_X2_triangleKey) dX2_triangleKey_2 ?_
  refine x_if_ge (M := M_X2_triangleKey) (tgt := 21) dX2_triangleKey_3 (by decide) (fun q0 => ?_) (fun q0 => ?_)
  · refine x_lload (M := M_X2_triangleKey) dX2_triangleKey_21 rfl ?_
    refine x_lload_n (M := M_X2_triangleKey) dX2_triangleKey_23 rfl ?_
    refine x_lcmp (M := M_X2_triangleKey) dX2_triangleKey_24 ?_
    refine x_if_ge (M := M_X2_triangleKey) (tgt := 45) dX2_triangleKey_25 (by decide) (fun q1 => ?_) (fun q1 => ?_)
    · refine x_lload_n (M := M_X2_triangleKey) dX2_triangleKey_45 rfl ?_
      refine x_lload_n (M := M_X2_triangleKey) dX2_triangleKey_46 rfl ?_
      refine x_lload (M := M_X2_triangleKey) dX2_triangleKey_47 rfl ?_
      refine x_callSR (M := M_X2_triangleKey) (M' := M_X2_triangleKeyFrom) rfl rfl dX2_triangleKey_49 m_X2_triangleKeyFrom t_2177 t_2178 (p_X2_triangleKeyFrom hl) rfl rfl (Nat.le_of_ble_eq_true rfl) (Nat.le_of_ble_eq_true rfl) (Nat.le_of_ble_eq_true rfl) (Nat.le_of_ble_eq_true rfl) ?_
      exact x_lret (M := M_X2_triangleKey) dX2_triangleKey_52 rfl ⟨by rw [f_X2_triangleKey, if_pos q0, if_pos q1], rfl⟩ (Nat.le_of_ble_eq_true rfl) (Nat.le_of_ble_eq_true rfl)
    · refine x_lload (M := M_X2_triangleKey) dX2_triangleKey_28 rfl ?_
      refine x_lload_n (M := M_X2_triangleKey) dX2_triangleKey_30 rfl ?_
      refine x_lcmp (M := M_X2_triangleKey) dX2_triangleKey_31 ?_
      refine x_if_ge (M := M_X2_triangleKey) (tgt := 45) dX2_triangleKey_32 (by decide) (fun q2 => ?_) (fun q2 => ?_)
      · refine x_lload_n (M := M_X2_triangleKey) dX2_triangleKey_45 rfl ?_
        refine x_lload_n (M := M_X2_triangleKey) dX2_triangleKey_46 rfl ?_
        refine x_lload (M := M_X2_triangleKey) dX2_triangleKey_47 rfl ?_
        refine x_callSR (M := M_X2_triangleKey) (M' := M_X2_triangleKeyFrom) rfl rfl dX2_triangleKey_49 m_X2_triangleKeyFrom t_2177 t_2178 (p_X2_triangleKeyFrom hl) rfl rfl (Nat.le_of_ble_eq_true rfl) (Nat.le_of_ble_eq_true rfl) (Nat.le_of_ble_eq_true rfl) (Nat.le_of_ble_eq_true rfl) ?_
        exact x_lret (M := M_X2_triangleKey) dX2_triangleKey_52 rfl ⟨by rw [f_X2_triangleKey, if_pos q0, if_neg q1, if_pos q2], rfl⟩ (Nat.le_of_ble_eq_true rfl) (Nat.le_of_ble_eq_true rfl)
      · refine x_lload (M := M_X2_triangleKey) dX2_triangleKey_35 rfl ?_
        refine x_lload_n (M := M_X2_triangleKey) dX2_triangleKey_37 rfl ?_
        refine x_lload_n (M := M_X2_triangleKey) dX2_triangleKey_38 rfl ?_
        refine x_callSR (M := M_X2_triangleKey) (M' := M_X2_triangleKeyFrom) rfl rfl dX2_triangleKey_39 m_X2_triangleKeyFrom t_2177 t_2178 (p_X2_triangleKeyFrom hl) rfl rfl (Nat.le_of_ble_eq_true rfl) (Nat.le_of_ble_eq_true rfl) (Nat.le_of_ble_eq_true rfl) (Nat.le_of_ble_eq_true rfl) ?_
        refine x_goto (M := M_X2_triangleKey) (tgt := 52) dX2_triangleKey_42 (by decide) ?_
        exact x_lret (M := M_X2_triangleKey) dX2_triangleKey_52 rfl ⟨by rw [f_X2_triangleKey, if_pos q0, if_neg q1, if_neg q2], rfl⟩ (Nat.le_of_ble_eq_true rfl) (Nat.le_of_ble_eq_true rfl)
  · refine x_lload_n (M := M_X2_triangleKey) dX2_triangleKey_6 rfl ?_
    refine x_lload (M := M_X2_triangleKey) dX2_triangleKey_7 rfl ?_
    refine x_lcmp (M := M_X2_triangleKey) dX2_triangleKey_9 ?_
    refine x_if_ge (M := M_X2_triangleKey) (tgt := 21) dX2_triangleKey_10 (by decide) (fun q1 => ?_) (fun q1 => ?_)
    · refine x_lload (M := M_X2_triangleKey) dX2_triangleKey_21 rfl ?_
      refine x_lload_n (M := M_X2_triangleKey) dX2_triangleKey_23 rfl ?_
      refine x_lcmp (M := M_X2_triangleKey) dX2_triangleKey_24 ?_
      refine x_if_ge (M := M_X2_triangleKey) (tgt := 45) dX2_triangleKey_25 (by decide) (fun q2 => ?_) (fun q2 => ?_)
      · refine x_lload_n (M := M_X2_triangleKey) dX2_triangleKey_45 rfl ?_
        refine x_lload_n (M := M_X2_triangleKey) dX2_triangleKey_46 rfl ?_
        refine x_lload (M := M_X2_triangleKey) dX2_triangleKey_47 rfl ?_
        refine x_callSR (M := M_X2_triangleKey) (M' := M_X2_triangleKeyFrom) rfl rfl dX2_triangleKey_49 m_X2_triangleKeyFrom t_2177 t_2178 (p_X2_triangleKeyFrom hl) rfl rfl (Nat.le_of_ble_eq_true rfl) (Nat.le_of_ble_eq_true rfl) (Nat.le_of_ble_eq_true rfl) (Nat.le_of_ble_eq_true rfl) ?_
        exact x_lret (M := M_X2_triangleKey) dX2_triangleKey_52 rfl ⟨by rw [f_X2_triangleKey, if_neg q0, if_pos q1, if_pos q2], rfl⟩ (Nat.le_of_ble_eq_true rfl) (Nat.le_of_ble_eq_true rfl)
      · refine x_lload (M := M_X2_triangleKey) dX2_triangleKey_28 rfl ?_
        refine x_lload_n (M := M_X2_triangleKey) dX2_triangleKey_30 rfl ?_
        refine x_lcmp (M := M_X2_triangleKey) dX2_triangleKey_31 ?_
        refine x_if_ge (M := M_X2_triangleKey) (tgt := 45) dX2_triangleKey_32 (by decide) (fun q3 => ?_) (fun q3 => ?_)
        · refine x_lload_n (M := M_X2_triangleKey) dX2_triangleKey_45 rfl ?_
          refine x_lload_n (M := M_X2_triangleKey) dX2_triangleKey_46 rfl ?_
          refine x_lload (M := M_X2_triangleKey) dX2_triangleKey_47 rfl ?_
          refine x_callSR (M := M_X2_triangleKey) (M' := M_X2_triangleKeyFrom) rfl rfl dX2_triangleKey_49 m_X2_triangleKeyFrom t_2177 t_2178 (p_X2_triangleKeyFrom hl) rfl rfl (Nat.le_of_ble_eq_true rfl) (Nat.le_of_ble_eq_true rfl) (Nat.le_of_ble_eq_true rfl) (Nat.le_of_ble_eq_true rfl) ?_
          exact x_lret (M := M_X2_triangleKey) dX2_triangleKey_52 rfl ⟨by rw [f_X2_triangleKey, if_neg q0, if_pos q1, if_neg q2, if_pos q3], rfl⟩ (Nat.le_of_ble_eq_true rfl) (Nat.le_of_ble_eq_true rfl)
        · refine x_lload (M := M_X2_triangleKey) dX2_triangleKey_35 rfl ?_
          refine x_lload_n (M := M_X2_triangleKey) dX2_triangleKey_37 rfl ?_
          refine x_lload_n (M := M_X2_triangleKey) dX2_triangleKey_38 rfl ?_
          refine x_callSR (M := M_X2_triangleKey) (M' := M_X2_triangleKeyFrom) rfl rfl dX2_triangleKey_39 m_X2_triangleKeyFrom t_2177 t_2178 (p_X2_triangleKeyFrom hl) rfl rfl (Nat.le_of_ble_eq_true rfl) (Nat.le_of_ble_eq_true rfl) (Nat.le_of_ble_eq_true rfl) (Nat.le_of_ble_eq_true rfl) ?_
          refine x_goto (M := M_X2_triangleKey) (tgt := 52) dX2_triangleKey_42 (by decide) ?_
          exact x_lret (M := M_X2_triangleKey) dX2_triangleKey_52 rfl ⟨by rw [f_X2_triangleKey, if_neg q0, if_pos q1, if_neg q2, if_neg q3], rfl⟩ (Nat.le_of_ble_eq_true rfl) (Nat.le_of_ble_eq_true rfl)
    · refine x_lload_n (M := M_X2_triangleKey) dX2_triangleKey_13 rfl ?_
      refine x_lload (M := M_X2_triangleKey) dX2_triangleKey_14 rfl ?_
      refine x_lload_n (M := M_X2_triangleKey) dX2_triangleKey_16 rfl ?_
      refine x_callSR (M := M_X2_triangleKey) (M' := M_X2_triangleKeyFrom) rfl rfl dX2_triangleKey_17 m_X2_triangleKeyFrom t_2177 t_2178 (p_X2_triangleKeyFrom hl) rfl rfl (Nat.le_of_ble_eq_true rfl) (Nat.le_of_ble_eq_true rfl) (Nat.le_of_ble_eq_true rfl) (Nat.le_of_ble_eq_true rfl) ?_
      exact x_lret (M := M_X2_triangleKey) dX2_triangleKey_20 rfl ⟨by rw [f_X2_triangleKey, if_neg q0, if_neg q1], rfl⟩ (Nat.le_of_ble_eq_true rfl) (Nat.le_of_ble_eq_true rfl)
def f_X9_unexpected (g5 : Int32) (g6 : Int32) (c1 : Nat → Int32) : Int32 := if (f_X9_signAt g5 c1 g6) < 0 then if (Int32.ofInt 1) = 0 then (f_X9_fail g6 (Int32.ofInt 1)) else ((f_X9_fail g6 (Int32.ofInt 3))) else (if (f_X9_isLetter (f_X9_signAt g5 c1 g6)) = 0 then if (f_X9_beginsNumber (f_X9_signAt g5 c1 g6)) = 0 then if (f_X9_signAt g5 c1 g6) = (Int8.ofInt 40).toInt32 then if (Int32.ofInt 1) = 0 then (f_X9_fail g6 (Int32.ofInt 1)) else ((f_X9_fail g6 (Int32.ofInt 3))) else (if (f_X9_signAt g5 c1 g6) = (Int8.ofInt 41).toInt32 then if (Int32.ofInt 1) = 0 then (f_X9_fail g6 (Int32.ofInt 1)) else ((f_X9_fail g6 (Int32.ofInt 3))) else (if (f_X9_signAt g5 c1 g6) = (Int8.ofInt 44).toInt32 then if (Int32.ofInt 1) = 0 then (f_X9_fail g6 (Int32.ofInt 1)) else ((f_X9_fail g6 (Int32.ofInt 3))) else (if (Int32.ofInt 0) = 0 then (f_X9_fail g6 (Int32.ofInt 1)) else ((f_X9_fail g6 (Int32.ofInt 3)))))) else (if (Int32.ofInt 1) = 0 then (f_X9_fail g6 (Int32.ofInt 1)) else ((f_X9_fail g6 (Int32.ofInt 3)))) else (if (Int32.ofInt 1) = 0 then (f_X9_fail g6 (Int32.ofInt 1)) else ((f_X9_fail g6 (Int32.ofInt 3)))))
theorem b_X9_unexpected (g5 : Int32) (g6 : Int32) (c1 : Nat → Int32) : f_X9_unexpected g5 g6 c1 = 0 ∨ f_X9_unexpected g5 g6 c1 = 1 := (ite01 (ite01 (b_X9_fail _ _) (b_X9_fail _ _)) (ite01 (ite01 (ite01 (ite01 (b_X9_fail _ _) (b_X9_fail _ _)) (ite01 (ite01 (b_X9_fail _ _) (b_X9_fail _ _)) (ite01 (ite01 (b_X9_fail _ _) (b_X9_fail _ _)) (ite01 (b_X9_fail _ _) (b_X9_fail _ _))))) (ite01 (b_X9_fail _ _) (b_X9_fail _ _))) (ite01 (b_X9_fail _ _) (b_X9_fail _ _))))
def F_X9_unexpected (fs : List Value) (g5 : Int32) (g6 : Int32) (c1 : Nat → Int32) : List Value := if (f_X9_signAt g5 c1 g6) < 0 then if (Int32.ofInt 1) = 0 then (F_X9_fail fs g6 (Int32.ofInt 1)) else ((F_X9_fail fs g6 (Int32.ofInt 3))) else (if (f_X9_isLetter (f_X9_signAt g5 c1 g6)) = 0 then if (f_X9_beginsNumber (f_X9_signAt g5 c1 g6)) = 0 then if (f_X9_signAt g5 c1 g6) = (Int8.ofInt 40).toInt32 then if (Int32.ofInt 1) = 0 then (F_X9_fail fs g6 (Int32.ofInt 1)) else ((F_X9_fail fs g6 (Int32.ofInt 3))) else (if (f_X9_signAt g5 c1 g6) = (Int8.ofInt 41).toInt32 then if (Int32.ofInt 1) = 0 then (F_X9_fail fs g6 (Int32.ofInt 1)) else ((F_X9_fail fs g6 (Int32.ofInt 3))) else (if (f_X9_signAt g5 c1 g6) = (Int8.ofInt 44).toInt32 then if (Int32.ofInt 1) = 0 then (F_X9_fail fs g6 (Int32.ofInt 1)) else ((F_X9_fail fs g6 (Int32.ofInt 3))) else (if (Int32.ofInt 0) = 0 then (F_X9_fail fs g6 (Int32.ofInt 1)) else ((F_X9_fail fs g6 (Int32.ofInt 3)))))) else (if (Int32.ofInt 1) = 0 then (F_X9_fail fs g6 (Int32.ofInt 1)) else ((F_X9_fail fs g6 (Int32.ofInt 3)))) else (if (Int32.ofInt 1) = 0 then (F_X9_fail fs g6 (Int32.ofInt 1)) else ((F_X9_fail fs g6 (Int32.ofInt 3)))))
theorem l_X9_unexpected {fs : List Value} {g5 : Int32} {g6 : Int32} {c1 : Nat → Int32} : (F_X9_unexpected fs g5 g6 c1).length = fs.length := by
  unfold F_X9_unexpected
  repeat' split
  all_goals first | rfl | simp only [List.length_set, l_X9_fail]
theorem k_X9_unexpected {fs : List Value} {g5 : Int32} {g6 : Int32} {c1 : Nat → Int32} {k : Nat} (hk : k ∉ ([10, 11] : List Nat)) : (F_X9_unexpected fs g5 g6 c1)[k]? = fs[k]? := by
  simp only [List.mem_cons, List.not_mem_nil, or_false, not_or] at hk
  unfold F_X9_unexpected
  repeat' split
  all_goals first | rfl | simp only [List.getElem?_set_ne (by omega : 10 ≠ k), List.getElem?_set_ne (by omega : 11 ≠ k), k_X9_fail (k := k) (by simp <;> omega)]
def V10_X9_unexpected (g5 : Int32) (g6 : Int32) (c1 : Nat → Int32) : Int32 := if (f_X9_signAt g5 c1 g6) < 0 then if (Int32.ofInt 1) = 0 then (V10_X9_fail g6 (Int32.ofInt 1)) else ((V10_X9_fail g6 (Int32.ofInt 3))) else (if (f_X9_isLetter (f_X9_signAt g5 c1 g6)) = 0 then if (f_X9_beginsNumber (f_X9_signAt g5 c1 g6)) = 0 then if (f_X9_signAt g5 c1 g6) = (Int8.ofInt 40).toInt32 then if (Int32.ofInt 1) = 0 then (V10_X9_fail g6 (Int32.ofInt 1)) else ((V10_X9_fail g6 (Int32.ofInt 3))) else (if (f_X9_signAt g5 c1 g6) = (Int8.ofInt 41).toInt32 then if (Int32.ofInt 1) = 0 then (V10_X9_fail g6 (Int32.ofInt 1)) else ((V10_X9_fail g6 (Int32.ofInt 3))) else (if (f_X9_signAt g5 c1 g6) = (Int8.ofInt 44).toInt32 then if (Int32.ofInt 1) = 0 then (V10_X9_fail g6 (Int32.ofInt 1)) else ((V10_X9_fail g6 (Int32.ofInt 3))) else (if (Int32.ofInt 0) = 0 then (V10_X9_fail g6 (Int32.ofInt 1)) else ((V10_X9_fail g6 (Int32.ofInt 3)))))) else (if (Int32.ofInt 1) = 0 then (V10_X9_fail g6 (Int32.ofInt 1)) else ((V10_X9_fail g6 (Int32.ofInt 3)))) else (if (Int32.ofInt 1) = 0 then (V10_X9_fail g6 (Int32.ofInt 1)) else ((V10_X9_fail g6 (Int32.ofInt 3)))))
theorem v10_X9_unexpected {fs : List Value} {g5 : Int32} {g6 : Int32} {c1 : Nat → Int32} (hn : fs.length = 12) (e5 : fs[5]? = some (.int g5)) (e6 : fs[6]? = some (.int g6)) : (F_X9_unexpected fs g5 g6 c1)[10]? = some (.int (V10_X9_unexpected g5 g6 c1)) := by
  unfold F_X9_unexpected V10_X9_unexpected
  exact (gi (gi (v10_X9_fail hn e6) (v10_X9_fail hn e6)) (gi (gi (gi (gi (v10_X9_fail hn e6) (v10_X9_fail hn e6)) (gi (gi (v10_X9_fail hn e6) (v10_X9_fail hn e6)) (gi (gi (v10_X9_fail hn e6) (v10_X9_fail hn e6)) (gi (v10_X9_fail hn e6) (v10_X9_fail hn e6))))) (gi (v10_X9_fail hn e6) (v10_X9_fail hn e6))) (gi (v10_X9_fail hn e6) (v10_X9_fail hn e6))))
def V11_X9_unexpected (g5 : Int32) (g6 : Int32) (c1 : Nat → Int32) : Int32 := if (f_X9_signAt g5 c1 g6) < 0 then if (Int32.ofInt 1) = 0 then (V11_X9_fail g6 (Int32.ofInt 1)) else ((V11_X9_fail g6 (Int32.ofInt 3))) else (if (f_X9_isLetter (f_X9_signAt g5 c1 g6)) = 0 then if (f_X9_beginsNumber (f_X9_signAt g5 c1 g6)) = 0 then if (f_X9_signAt g5 c1 g6) = (Int8.ofInt 40).toInt32 then if (Int32.ofInt 1) = 0 then (V11_X9_fail g6 (Int32.ofInt 1)) else ((V11_X9_fail g6 (Int32.ofInt 3))) else (if (f_X9_signAt g5 c1 g6) = (Int8.ofInt 41).toInt32 then if (Int32.ofInt 1) = 0 then (V11_X9_fail g6 (Int32.ofInt 1)) else ((V11_X9_fail g6 (Int32.ofInt 3))) else (if (f_X9_signAt g5 c1 g6) = (Int8.ofInt 44).toInt32 then if (Int32.ofInt 1) = 0 then (V11_X9_fail g6 (Int32.ofInt 1)) else ((V11_X9_fail g6 (Int32.ofInt 3))) else (if (Int32.ofInt 0) = 0 then (V11_X9_fail g6 (Int32.ofInt 1)) else ((V11_X9_fail g6 (Int32.ofInt 3)))))) else (if (Int32.ofInt 1) = 0 then (V11_X9_fail g6 (Int32.ofInt 1)) else ((V11_X9_fail g6 (Int32.ofInt 3)))) else (if (Int32.ofInt 1) = 0 then (V11_X9_fail g6 (Int32.ofInt 1)) else ((V11_X9_fail g6 (Int32.ofInt 3)))))
theorem v11_X9_unexpected {fs : List Value} {g5 : Int32} {g6 : Int32} {c1 : Nat → Int32} (hn : fs.length = 12) (e5 : fs[5]? = some (.int g5)) (e6 : fs[6]? = some (.int g6)) : (F_X9_unexpected fs g5 g6 c1)[11]? = some (.int (V11_X9_unexpected g5 g6 c1)) := by
  unfold F_X9_unexpected V11_X9_unexpected
  exact (gi (gi (v11_X9_fail hn e6) (v11_X9_fail hn e6)) (gi (gi (gi (gi (v11_X9_fail hn e6) (v11_X9_fail hn e6)) (gi (gi (v11_X9_fail hn e6) (v11_X9_fail hn e6)) (gi (gi (v11_X9_fail hn e6) (v11_X9_fail hn e6)) (gi (v11_X9_fail hn e6) (v11_X9_fail hn e6))))) (gi (v11_X9_fail hn e6) (v11_X9_fail hn e6))) (gi (v11_X9_fail hn e6) (v11_X9_fail hn e6))))
set_option maxHeartbeats 8000000 in
set_option maxRecDepth 20000 in
theorem p_X9_unexpected {l : Launch} {E : EE} (hl : l.stackTraces = false) {h : HP} {g5 : Int32} {g6 : Int32} {c1 : Nat → Int32} {a : Nat} {fs : List Value} (ha : ob h a = some (.inr (12, fs))) (hn : fs.length = 12) (e5 : fs[5]? = some (.int g5)) (e6 : fs[6]? = some (.int g6)) {r1 n1 : Nat} (e1 : fs[1]? = some (.ref r1)) (o1 : ob h r1 = some (.inl (2, n1, .inl c1))) (i0 : ((¬ g6 < 0) → (¬ g5 ≤ g6) → vp_in g6 n1)) : en_C l E M_X9_unexpected 1 0 0 [.ref a] h (pR (some (.int (f_X9_unexpected g5 g6 c1))) (stt h a (.inr (12, F_X9_unexpected fs g5 g6 c1)))) := by
  refine en_mk m_X9_unexpected rfl hl (Nat.le_of_ble_eq_true rfl) ?_
  refine x_heap (h' := (stt h a (.inr (12, fs)))) (by rw [stt_id ha]) ?_
  refine x_aload_n (M := M_X9_unexpected) dX9_unexpected_0 rfl ?_
  refine x_aload_n (M := M_X9_unexpected) dX9_unexpected_1 rfl ?_
  refine x_getf (M := M_X9_unexpected) (ci := 12) (C := RX9) (T := TX9) (N := 12) (ty := tyX9) cl12 dX9_unexpected_2 (ob_self ha) 6 (by decide) t_111 e6 ?_
  refine x_callVR (M := M_X9_unexpected) (M' := M_X9_signAt) rfl rfl dX9_unexpected_5 m_X9_signAt t_783 t_785 s_5 (p_X9_signAt hl (ob_self ha) e5 e1 (ob_oth ha o1) i0) rfl rfl (ob_self ha) rfl (Nat.le_of_ble_eq_true rfl) (Nat.le_of_ble_eq_true rfl) (Nat.le_of_ble_eq_true rfl) (Nat.le_of_ble_eq_true rfl) ?_
  refine x_istore_n (M := M_X9_unexpected) dX9_unexpected_8 (by decide) rfl ?_
  refine x_norm (lv' := [some (.ref a), some (.int (f_X9_signAt g5 c1 g6)), none]) rfl rfl rfl rfl rfl ?_
  refine x_iload_n (M := M_X9_unexpected) dX9_unexpected_9 rfl ?_
  refine x_if_lt (M := M_X9_unexpected) (tgt := 45) dX9_unexpected_10 (by decide) (fun q0 => ?_) (fun q0 => ?_)
  · refine x_iconst (M := M_X9_unexpected) dX9_unexpected_45 ?_
    refine x_goto (M := M_X9_unexpected) (tgt := 50) dX9_unexpected_46 (by decide) ?_
    refine x_istore_n (M := M_X9_unexpected) dX9_unexpected_50 (by decide) rfl ?_
    refine x_norm (lv' := [some (.ref a), some (.int (f_X9_signAt g5 c1 g6)), some (.int (Int32.ofInt 1))]) rfl rfl rfl rfl rfl ?_
    refine x_aload_n (M := M_X9_unexpected) dX9_unexpected_51 rfl ?_
    refine x_iload_n (M := M_X9_unexpected) dX9_unexpected_52 rfl ?_
    refine x_if_eq (M := M_X9_unexpected) (tgt := 60) dX9_unexpected_53 (by decide) (fun q1 => ?_) (fun q1 => ?_)
    · refine x_iconst (M := M_X9_unexpected) dX9_unexpected_60 ?_
      refine x_callVR (M := M_X9_unexpected) (M' := M_X9_fail) rfl rfl dX9_unexpected_61 m_X9_fail t_797 t_799 s_7 (p_X9_fail hl (ob_self ha) hn e6) rfl rfl (ob_self ha) rfl (Nat.le_of_ble_eq_true rfl) (Nat.le_of_ble_eq_true rfl) (Nat.le_of_ble_eq_true rfl) (Nat.le_of_ble_eq_true rfl) ?_
      refine x_heap (h' := (stt h a (.inr (12, (F_X9_fail fs g6 (Int32.ofInt 1)))))) (by rw [stt_stt (a := a)]) ?_
      exact x_zret (M := M_X9_unexpected) dX9_unexpected_64 rfl (b_X9_fail _ _) ⟨by rw [f_X9_unexpected, if_pos q0, if_pos q1], by rw [F_X9_unexpected, if_pos q0, if_pos q1]⟩ (Nat.le_of_ble_eq_true rfl) (Nat.le_of_ble_eq_true rfl)
    · refine x_iconst (M := M_X9_unexpected) dX9_unexpected_56 ?_
      refine x_goto (M := M_X9_unexpected) (tgt := 61) dX9_unexpected_57 (by decide) ?_
      refine x_callVR (M := M_X9_unexpected) (M' := M_X9_fail) rfl rfl dX9_unexpected_61 m_X9_fail t_797 t_799 s_7 (p_X9_fail hl (ob_self ha) hn e6) rfl rfl (ob_self ha) rfl (Nat.le_of_ble_eq_true rfl) (Nat.le_of_ble_eq_true rfl) (Nat.le_of_ble_eq_true rfl) (Nat.le_of_ble_eq_true rfl) ?_
      refine x_heap (h' := (stt h a (.inr (12, (F_X9_fail fs g6 (Int32.ofInt 3)))))) (by rw [stt_stt (a := a)]) ?_
      exact x_zret (M := M_X9_unexpected) dX9_unexpected_64 rfl (b_X9_fail _ _) ⟨by rw [f_X9_unexpected, if_pos q0, if_neg q1], by rw [F_X9_unexpected, if_pos q0, if_neg q1]⟩ (Nat.le_of_ble_eq_true rfl) (Nat.le_of_ble_eq_true rfl)
  · refine x_iload_n (M := M_X9_unexpected) dX9_unexpected_13 rfl ?_
    refine x_callSR (M := M_X9_unexpected) (M' := M_X9_isLetter) rfl rfl dX9_unexpected_14 m_X9_isLetter t_787 t_788 (p_X9_isLetter hl) rfl rfl (Nat.le_of_ble_eq_true rfl) (Nat.le_of_ble_eq_true rfl) (Nat.le_of_ble_eq_true rfl) (Nat.le_of_ble_eq_true rfl) ?_
    refine x_if_ne (M := M_X9_unexpected) (tgt := 45) dX9_unexpected_17 (by decide) (fun q1 => ?_) (fun q1 => ?_)
    · refine x_iconst (M := M_X9_unexpected) dX9_unexpected_45 ?_
      refine x_goto (M := M_X9_unexpected) (tgt := 50) dX9_unexpected_46 (by decide) ?_
      refine x_istore_n (M := M_X9_unexpected) dX9_unexpected_50 (by decide) rfl ?_
      refine x_norm (lv' := [some (.ref a), some (.int (f_X9_signAt g5 c1 g6)), some (.int (Int32.ofInt 1))]) rfl rfl rfl rfl rfl ?_
      refine x_aload_n (M := M_X9_unexpected) dX9_unexpected_51 rfl ?_
      refine x_iload_n (M := M_X9_unexpected) dX9_unexpected_52 rfl ?_
      refine x_if_eq (M := M_X9_unexpected) (tgt := 60) dX9_unexpected_53 (by decide) (fun q2 => ?_) (fun q2 => ?_)
      · refine x_iconst (M := M_X9_unexpected) dX9_unexpected_60 ?_
        refine x_callVR (M := M_X9_unexpected) (M' := M_X9_fail) rfl rfl dX9_unexpected_61 m_X9_fail t_797 t_799 s_7 (p_X9_fail hl (ob_self ha) hn e6) rfl rfl (ob_self ha) rfl (Nat.le_of_ble_eq_true rfl) (Nat.le_of_ble_eq_true rfl) (Nat.le_of_ble_eq_true rfl) (Nat.le_of_ble_eq_true rfl) ?_
        refine x_heap (h' := (stt h a (.inr (12, (F_X9_fail fs g6 (Int32.ofInt 1)))))) (by rw [stt_stt (a := a)]) ?_
        exact x_zret (M := M_X9_unexpected) dX9_unexpected_64 rfl (b_X9_fail _ _) ⟨by rw [f_X9_unexpected, if_neg q0, if_neg q1, if_pos q2], by rw [F_X9_unexpected, if_neg q0, if_neg q1, if_pos q2]⟩ (Nat.le_of_ble_eq_true rfl) (Nat.le_of_ble_eq_true rfl)
      · refine x_iconst (M := M_X9_unexpected) dX9_unexpected_56 ?_
        refine x_goto (M := M_X9_unexpected) (tgt := 61) dX9_unexpected_57 (by decide) ?_
        refine x_callVR (M := M_X9_unexpected) (M' := M_X9_fail) rfl rfl dX9_unexpected_61 m_X9_fail t_797 t_799 s_7 (p_X9_fail hl (ob_self ha) hn e6) rfl rfl (ob_self ha) rfl (Nat.le_of_ble_eq_true rfl) (Nat.le_of_ble_eq_true rfl) (Nat.le_of_ble_eq_true rfl) (Nat.le_of_ble_eq_true rfl) ?_
        refine x_heap (h' := (stt h a (.inr (12, (F_X9_fail fs g6 (Int32.ofInt 3)))))) (by rw [stt_stt (a := a)]) ?_
        exact x_zret (M := M_X9_unexpected) dX9_unexpected_64 rfl (b_X9_fail _ _) ⟨by rw [f_X9_unexpected, if_neg q0, if_neg q1, if_neg q2], by rw [F_X9_unexpected, if_neg q0, if_neg q1, if_neg q2]⟩ (Nat.le_of_ble_eq_true rfl) (Nat.le_of_ble_eq_true rfl)
    · refine x_iload_n (M := M_X9_unexpected) dX9_unexpected_20 rfl ?_
      refine x_callSR (M := M_X9_unexpected) (M' := M_X9_beginsNumber) rfl rfl dX9_unexpected_21 m_X9_beginsNumber t_794 t_795 (p_X9_beginsNumber hl) rfl rfl (Nat.le_of_ble_eq_true rfl) (Nat.le_of_ble_eq_true rfl) (Nat.le_of_ble_eq_true rfl) (Nat.le_of_ble_eq_true rfl) ?_
      refine x_if_ne (M := M_X9_unexpected) (tgt := 45) dX9_unexpected_24 (by decide) (fun q2 => ?_) (fun q2 => ?_)
      · refine x_iconst (M := M_X9_unexpected) dX9_unexpected_45 ?_
        refine x_goto (M := M_X9_unexpected) (tgt := 50) dX9_unexpected_46 (by decide) ?_
        refine x_istore_n (M := M_X9_unexpected) dX9_unexpected_50 (by decide) rfl ?_
        refine x_norm (lv' := [some (.ref a), some (.int (f_X9_signAt g5 c1 g6)), some (.int (Int32.ofInt 1))]) rfl rfl rfl rfl rfl ?_
        refine x_aload_n (M := M_X9_unexpected) dX9_unexpected_51 rfl ?_
        refine x_iload_n (M := M_X9_unexpected) dX9_unexpected_52 rfl ?_
        refine x_if_eq (M := M_X9_unexpected) (tgt := 60) dX9_unexpected_53 (by decide) (fun q3 => ?_) (fun q3 => ?_)
        · refine x_iconst (M := M_X9_unexpected) dX9_unexpected_60 ?_
          refine x_callVR (M := M_X9_unexpected) (M' := M_X9_fail) rfl rfl dX9_unexpected_61 m_X9_fail t_797 t_799 s_7 (p_X9_fail hl (ob_self ha) hn e6) rfl rfl (ob_self ha) rfl (Nat.le_of_ble_eq_true rfl) (Nat.le_of_ble_eq_true rfl) (Nat.le_of_ble_eq_true rfl) (Nat.le_of_ble_eq_true rfl) ?_
          refine x_heap (h' := (stt h a (.inr (12, (F_X9_fail fs g6 (Int32.ofInt 1)))))) (by rw [stt_stt (a := a)]) ?_
          exact x_zret (M := M_X9_unexpected) dX9_unexpected_64 rfl (b_X9_fail _ _) ⟨by rw [f_X9_unexpected, if_neg q0, if_pos q1, if_neg q2, if_pos q3], by rw [F_X9_unexpected, if_neg q0, if_pos q1, if_neg q2, if_pos q3]⟩ (Nat.le_of_ble_eq_true rfl) (Nat.le_of_ble_eq_true rfl)
        · refine x_iconst (M := M_X9_unexpected) dX9_unexpected_56 ?_
          refine x_goto (M := M_X9_unexpected) (tgt := 61) dX9_unexpected_57 (by decide) ?_
          refine x_callVR (M := M_X9_unexpected) (M' := M_X9_fail) rfl rfl dX9_unexpected_61 m_X9_fail t_797 t_799 s_7 (p_X9_fail hl (ob_self ha) hn e6) rfl rfl (ob_self ha) rfl (Nat.le_of_ble_eq_true rfl) (Nat.le_of_ble_eq_true rfl) (Nat.le_of_ble_eq_true rfl) (Nat.le_of_ble_eq_true rfl) ?_
          refine x_heap (h' := (stt h a (.inr (12, (F_X9_fail fs g6 (Int32.ofInt 3)))))) (by rw [stt_stt (a := a)]) ?_
          exact x_zret (M := M_X9_unexpected) dX9_unexpected_64 rfl (b_X9_fail _ _) ⟨by rw [f_X9_unexpected, if_neg q0, if_pos q1, if_neg q2, if_neg q3], by rw [F_X9_unexpected, if_neg q0, if_pos q1, if_neg q2, if_neg q3]⟩ (Nat.le_of_ble_eq_true rfl) (Nat.le_of_ble_eq_true rfl)
      · refine x_iload_n (M := M_X9_unexpected) dX9_unexpected_27 rfl ?_
        refine x_bipush (M := M_X9_unexpected) dX9_unexpected_28 ?_
        refine x_icmp_eq (M := M_X9_unexpected) (tgt := 45) dX9_unexpected_30 (by decide) (fun q3 => ?_) (fun q3 => ?_)
        · refine x_iconst (M := M_X9_unexpected) dX9_unexpected_45 ?_
          refine x_goto (M := M_X9_unexpected) (tgt := 50) dX9_unexpected_46 (by decide) ?_
          refine x_istore_n (M := M_X9_unexpected) dX9_unexpected_50 (by decide) rfl ?_
          refine x_norm (lv' := [some (.ref a), some (.int (f_X9_signAt g5 c1 g6)), some (.int (Int32.ofInt 1))]) rfl rfl rfl rfl rfl ?_
          refine x_aload_n (M := M_X9_unexpected) dX9_unexpected_51 rfl ?_
          refine x_iload_n (M := M_X9_unexpected) dX9_unexpected_52 rfl ?_
          refine x_if_eq (M := M_X9_unexpected) (tgt := 60) dX9_unexpected_53 (by decide) (fun q4 => ?_) (fun q4 => ?_)
          · refine x_iconst (M := M_X9_unexpected) dX9_unexpected_60 ?_
            refine x_callVR (M := M_X9_unexpected) (M' := M_X9_fail) rfl rfl dX9_unexpected_61 m_X9_fail t_797 t_799 s_7 (p_X9_fail hl (ob_self ha) hn e6) rfl rfl (ob_self ha) rfl (Nat.le_of_ble_eq_true rfl) (Nat.le_of_ble_eq_true rfl) (Nat.le_of_ble_eq_true rfl) (Nat.le_of_ble_eq_true rfl) ?_
            refine x_heap (h' := (stt h a (.inr (12, (F_X9_fail fs g6 (Int32.ofInt 1)))))) (by rw [stt_stt (a := a)]) ?_
            exact x_zret (M := M_X9_unexpected) dX9_unexpected_64 rfl (b_X9_fail _ _) ⟨by rw [f_X9_unexpected, if_neg q0, if_pos q1, if_pos q2, if_pos q3, if_pos q4], by rw [F_X9_unexpected, if_neg q0, if_pos q1, if_pos q2, if_pos q3, if_pos q4]⟩ (Nat.le_of_ble_eq_true rfl) (Nat.le_of_ble_eq_true rfl)
          · refine x_iconst (M := M_X9_unexpected) dX9_unexpected_56 ?_
            refine x_goto (M := M_X9_unexpected) (tgt := 61) dX9_unexpected_57 (by decide) ?_
            refine x_callVR (M := M_X9_unexpected) (M' := M_X9_fail) rfl rfl dX9_unexpected_61 m_X9_fail t_797 t_799 s_7 (p_X9_fail hl (ob_self ha) hn e6) rfl rfl (ob_self ha) rfl (Nat.le_of_ble_eq_true rfl) (Nat.le_of_ble_eq_true rfl) (Nat.le_of_ble_eq_true rfl) (Nat.le_of_ble_eq_true rfl) ?_
            refine x_heap (h' := (stt h a (.inr (12, (F_X9_fail fs g6 (Int32.ofInt 3)))))) (by rw [stt_stt (a := a)]) ?_
            exact x_zret (M := M_X9_unexpected) dX9_unexpected_64 rfl (b_X9_fail _ _) ⟨by rw [f_X9_unexpected, if_neg q0, if_pos q1, if_pos q2, if_pos q3, if_neg q4], by rw [F_X9_unexpected, if_neg q0, if_pos q1, if_pos q2, if_pos q3, if_neg q4]⟩ (Nat.le_of_ble_eq_true rfl) (Nat.le_of_ble_eq_true rfl)
        · refine x_iload_n (M := M_X9_unexpected) dX9_unexpected_33 rfl ?_
          refine x_bipush (M := M_X9_unexpected) dX9_unexpected_34 ?_
          refine x_icmp_eq (M := M_X9_unexpected) (tgt := 45) dX9_unexpected_36 (by decide) (fun q4 => ?_) (fun q4 => ?_)
          · refine x_iconst (M := M_X9_unexpected) dX9_unexpected_45 ?_
            refine x_goto (M := M_X9_unexpected) (tgt := 50) dX9_unexpected_46 (by decide) ?_
            refine x_istore_n (M := M_X9_unexpected) dX9_unexpected_50 (by decide) rfl ?_
            refine x_norm (lv' := [some (.ref a), some (.int (f_X9_signAt g5 c1 g6)), some (.int (Int32.ofInt 1))]) rfl rfl rfl rfl rfl ?_
            refine x_aload_n (M := M_X9_unexpected) dX9_unexpected_51 rfl ?_
            refine x_iload_n (M := M_X9_unexpected) dX9_unexpected_52 rfl ?_
            refine x_if_eq (M := M_X9_unexpected) (tgt := 60) dX9_unexpected_53 (by decide) (fun q5 => ?_) (fun q5 => ?_)
            · refine x_iconst (M := M_X9_unexpected) dX9_unexpected_60 ?_
              refine x_callVR (M := M_X9_unexpected) (M' := M_X9_fail) rfl rfl dX9_unexpected_61 m_X9_fail t_797 t_799 s_7 (p_X9_fail hl (ob_self ha) hn e6) rfl rfl (ob_self ha) rfl (Nat.le_of_ble_eq_true rfl) (Nat.le_of_ble_eq_true rfl) (Nat.le_of_ble_eq_true rfl) (Nat.le_of_ble_eq_true rfl) ?_
              refine x_heap (h' := (stt h a (.inr (12, (F_X9_fail fs g6 (Int32.ofInt 1)))))) (by rw [stt_stt (a := a)]) ?_
              exact x_zret (M := M_X9_unexpected) dX9_unexpected_64 rfl (b_X9_fail _ _) ⟨by rw [f_X9_unexpected, if_neg q0, if_pos q1, if_pos q2, if_neg q3, if_pos q4, if_pos q5], by rw [F_X9_unexpected, if_neg q0, if_pos q1, if_pos q2, if_neg q3, if_pos q4, if_pos q5]⟩ (Nat.le_of_ble_eq_true rfl) (Nat.le_of_ble_eq_true rfl)
            · refine x_iconst (M := M_X9_unexpected) dX9_unexpected_56 ?_
              refine x_goto (M := M_X9_unexpected) (tgt := 61) dX9_unexpected_57 (by decide) ?_
              refine x_callVR (M := M_X9_unexpected) (M' := M_X9_fail) rfl rfl dX9_unexpected_61 m_X9_fail t_797 t_799 s_7 (p_X9_fail hl (ob_self ha) hn e6) rfl rfl (ob_self ha) rfl (Nat.le_of_ble_eq_true rfl) (Nat.le_of_ble_eq_true rfl) (Nat.le_of_ble_eq_true rfl) (Nat.le_of_ble_eq_true rfl) ?_
              refine x_heap (h' := (stt h a (.inr (12, (F_X9_fail fs g6 (Int32.ofInt 3)))))) (by rw [stt_stt (a := a)]) ?_
              exact x_zret (M := M_X9_unexpected) dX9_unexpected_64 rfl (b_X9_fail _ _) ⟨by rw [f_X9_unexpected, if_neg q0, if_pos q1, if_pos q2, if_neg q3, if_pos q4, if_neg q5], by rw [F_X9_unexpected, if_neg q0, if_pos q1, if_pos q2, if_neg q3, if_pos q4, if_neg q5]⟩ (Nat.le_of_ble_eq_true rfl) (Nat.le_of_ble_eq_true rfl)
          · refine x_iload_n (M := M_X9_unexpected) dX9_unexpected_39 rfl ?_
            refine x_bipush (M := M_X9_unexpected) dX9_unexpected_40 ?_
            refine x_icmp_ne (M := M_X9_unexpected) (tgt := 49) dX9_unexpected_42 (by decide) (fun q5 => ?_) (fun q5 => ?_)
            · refine x_iconst (M := M_X9_unexpected) dX9_unexpected_49 ?_
              refine x_istore_n (M := M_X9_unexpected) dX9_unexpected_50 (by decide) rfl ?_
              refine x_norm (lv' := [some (.ref a), some (.int (f_X9_signAt g5 c1 g6)), some (.int (Int32.ofInt 0))]) rfl rfl rfl rfl rfl ?_
              refine x_aload_n (M := M_X9_unexpected) dX9_unexpected_51 rfl ?_
              refine x_iload_n (M := M_X9_unexpected) dX9_unexpected_52 rfl ?_
              refine x_if_eq (M := M_X9_unexpected) (tgt := 60) dX9_unexpected_53 (by decide) (fun q6 => ?_) (fun q6 => ?_)
              · refine x_iconst (M := M_X9_unexpected) dX9_unexpected_60 ?_
                refine x_callVR (M := M_X9_unexpected) (M' := M_X9_fail) rfl rfl dX9_unexpected_61 m_X9_fail t_797 t_799 s_7 (p_X9_fail hl (ob_self ha) hn e6) rfl rfl (ob_self ha) rfl (Nat.le_of_ble_eq_true rfl) (Nat.le_of_ble_eq_true rfl) (Nat.le_of_ble_eq_true rfl) (Nat.le_of_ble_eq_true rfl) ?_
                refine x_heap (h' := (stt h a (.inr (12, (F_X9_fail fs g6 (Int32.ofInt 1)))))) (by rw [stt_stt (a := a)]) ?_
                exact x_zret (M := M_X9_unexpected) dX9_unexpected_64 rfl (b_X9_fail _ _) ⟨by rw [f_X9_unexpected, if_neg q0, if_pos q1, if_pos q2, if_neg q3, if_neg q4, if_neg q5, if_pos q6], by rw [F_X9_unexpected, if_neg q0, if_pos q1, if_pos q2, if_neg q3, if_neg q4, if_neg q5, if_pos q6]⟩ (Nat.le_of_ble_eq_true rfl) (Nat.le_of_ble_eq_true rfl)
              · refine x_iconst (M := M_X9_unexpected) dX9_unexpected_56 ?_
                refine x_goto (M := M_X9_unexpected) (tgt := 61) dX9_unexpected_57 (by decide) ?_
                refine x_callVR (M := M_X9_unexpected) (M' := M_X9_fail) rfl rfl dX9_unexpected_61 m_X9_fail t_797 t_799 s_7 (p_X9_fail hl (ob_self ha) hn e6) rfl rfl (ob_self ha) rfl (Nat.le_of_ble_eq_true rfl) (Nat.le_of_ble_eq_true rfl) (Nat.le_of_ble_eq_true rfl) (Nat.le_of_ble_eq_true rfl) ?_
                refine x_heap (h' := (stt h a (.inr (12, (F_X9_fail fs g6 (Int32.ofInt 3)))))) (by rw [stt_stt (a := a)]) ?_
                exact x_zret (M := M_X9_unexpected) dX9_unexpected_64 rfl (b_X9_fail _ _) ⟨by rw [f_X9_unexpected, if_neg q0, if_pos q1, if_pos q2, if_neg q3, if_neg q4, if_neg q5, if_neg q6], by rw [F_X9_unexpected, if_neg q0, if_pos q1, if_pos q2, if_neg q3, if_neg q4, if_neg q5, if_neg q6]⟩ (Nat.le_of_ble_eq_true rfl) (Nat.le_of_ble_eq_true rfl)
            · refine x_iconst (M := M_X9_unexpected) dX9_unexpected_45 ?_
              refine x_goto (M := M_X9_unexpected) (tgt := 50) dX9_unexpected_46 (by decide) ?_
              refine x_istore_n (M := M_X9_unexpected) dX9_unexpected_50 (by decide) rfl ?_
              refine x_norm (lv' := [some (.ref a), some (.int (f_X9_signAt g5 c1 g6)), some (.int (Int32.ofInt 1))]) rfl rfl rfl rfl rfl ?_
              refine x_aload_n (M := M_X9_unexpected) dX9_unexpected_51 rfl ?_
              refine x_iload_n (M := M_X9_unexpected) dX9_unexpected_52 rfl ?_
              refine x_if_eq (M := M_X9_unexpected) (tgt := 60) dX9_unexpected_53 (by decide) (fun q6 => ?_) (fun q6 => ?_)
              · refine x_iconst (M := M_X9_unexpected) dX9_unexpected_60 ?_
                refine x_callVR (M := M_X9_unexpected) (M' := M_X9_fail) rfl rfl dX9_unexpected_61 m_X9_fail t_797 t_799 s_7 (p_X9_fail hl (ob_self ha) hn e6) rfl rfl (ob_self ha) rfl (Nat.le_of_ble_eq_true rfl) (Nat.le_of_ble_eq_true rfl) (Nat.le_of_ble_eq_true rfl) (Nat.le_of_ble_eq_true rfl) ?_
                refine x_heap (h' := (stt h a (.inr (12, (F_X9_fail fs g6 (Int32.ofInt 1)))))) (by rw [stt_stt (a := a)]) ?_
                exact x_zret (M := M_X9_unexpected) dX9_unexpected_64 rfl (b_X9_fail _ _) ⟨by rw [f_X9_unexpected, if_neg q0, if_pos q1, if_pos q2, if_neg q3, if_neg q4, if_pos q5, if_pos q6], by rw [F_X9_unexpected, if_neg q0, if_pos q1, if_pos q2, if_neg q3, if_neg q4, if_pos q5, if_pos q6]⟩ (Nat.le_of_ble_eq_true rfl) (Nat.le_of_ble_eq_true rfl)
              · refine x_iconst (M := M_X9_unexpected) dX9_unexpected_56 ?_
                refine x_goto (M := M_X9_unexpected) (tgt := 61) dX9_unexpected_57 (by decide) ?_
                refine x_callVR (M := M_X9_unexpected) (M' := M_X9_fail) rfl rfl dX9_unexpected_61 m_X9_fail t_797 t_799 s_7 (p_X9_fail hl (ob_self ha) hn e6) rfl rfl (ob_self ha) rfl (Nat.le_of_ble_eq_true rfl) (Nat.le_of_ble_eq_true rfl) (Nat.le_of_ble_eq_true rfl) (Nat.le_of_ble_eq_true rfl) ?_
                refine x_heap (h' := (stt h a (.inr (12, (F_X9_fail fs g6 (Int32.ofInt 3)))))) (by rw [stt_stt (a := a)]) ?_
                exact x_zret (M := M_X9_unexpected) dX9_unexpected_64 rfl (b_X9_fail _ _) ⟨by rw [f_X9_unexpected, if_neg q0, if_pos q1, if_pos q2, if_neg q3, if_neg q4, if_pos q5, if_neg q6], by rw [F_X9_unexpected, if_neg q0, if_pos q1, if_pos q2, if_neg q3, if_neg q4, if_pos q5, if_neg q6]⟩ (Nat.le_of_ble_eq_true rfl) (Nat.le_of_ble_eq_true rfl)
def f_X11_turnOf (w0 : Int64) (w1 : Int64) (w2 : Int64) (w3 : Int64) (w4 : Int64) (w5 : Int64) : Int32 := (f_J13_compare_74951 ((w2 - w0) * (w5 - w1)) ((w3 - w1) * (w4 - w0)))
theorem p_X11_turnOf {l : Launch} {E : EE} (hl : l.stackTraces = false) {h : HP} {w0 : Int64} {w1 : Int64} {w2 : Int64} {w3 : Int64} {w4 : Int64} {w5 : Int64} : en_C l E M_X11_turnOf 1 0 0 [.long w0, .long w1, .long w2, .long w3, .long w4, .long w5] h (pR (some (.int (f_X11_turnOf w0 w1 w2 w3 w4 w5))) h) := by
  refine en_mk m_X11_turnOf rfl hl (Nat.le_of_ble_eq_true rfl) ?_
  refine x_lload (M := M_X11_turnOf) dX11_turnOf_0 rfl ?_
  refine x_lload_n (M := M_X11_turnOf) dX11_turnOf_2 rfl ?_
  refine x_lsub (M := M_X11_turnOf) dX11_turnOf_3 ?_
  refine x_lload (M := M_X11_turnOf) dX11_turnOf_4 rfl ?_
  refine x_lload_n (M := M_X11_turnOf) dX11_turnOf_6 rfl ?_
  refine x_lsub (M := M_X11_turnOf) dX11_turnOf_7 ?_
  refine x_lmul (M := M_X11_turnOf) dX11_turnOf_8 ?_
  refine x_lload (M := M_X11_turnOf) dX11_turnOf_9 rfl ?_
  refine x_lload_n (M := M_X11_turnOf) dX11_turnOf_11 rfl ?_
  refine x_lsub (M := M_X11_turnOf) dX11_turnOf_12 ?_
  refine x_lload (M := M_X11_turnOf) dX11_turnOf_13 rfl ?_
  refine x_lload_n (M := M_X11_turnOf) dX11_turnOf_15 rfl ?_
  refine x_lsub (M := M_X11_turnOf) dX11_turnOf_16 ?_
  refine x_lmul (M := M_X11_turnOf) dX11_turnOf_17 ?_
  refine x_callSR (M := M_X11_turnOf) (M' := M_J13_compare_74951) rfl rfl dX11_turnOf_18 m_J13_compare_74951 t_1267 t_1268 (p_J13_compare_74951 hl) rfl rfl (Nat.le_of_ble_eq_true rfl) (Nat.le_of_ble_eq_true rfl) (Nat.le_of_ble_eq_true rfl) (Nat.le_of_ble_eq_true rfl) ?_
  exact x_iret (M := M_X11_turnOf) dX11_turnOf_21 rfl ⟨rfl, rfl⟩ (Nat.le_of_ble_eq_true rfl) (Nat.le_of_ble_eq_true rfl)
def f_X11_isOnSegment (w0 : Int32) (w1 : Int32) (w2 : Int32) (w3 : Int32) (w4 : Int32) (w5 : Int32) : Int32 := if w4 < (if w2 < w0 then w2 else w0) then (Int32.ofInt 0) else (if (if w0 < w2 then w2 else w0) < w4 then (Int32.ofInt 0) else (if w5 < (if w3 < w1 then w3 else w1) then (Int32.ofInt 0) else (if (if w1 < w3 then w3 else w1) < w5 then (Int32.ofInt 0) else (if (f_X11_turnOf (w0.toInt64) (w1.toInt64) (w2.toInt64) (w3.toInt64) (w4.toInt64) (w5.toInt64)) = 0 then (Int32.ofInt 1) else ((Int32.ofInt 0))))))
theorem b_X11_isOnSegment (w0 : Int32) (w1 : Int32) (w2 : Int32) (w3 : Int32) (w4 : Int32) (w5 : Int32) : f_X11_isOnSegment w0 w1 w2 w3 w4 w5 = 0 ∨ f_X11_isOnSegment w0 w1 w2 w3 w4 w5 = 1 := (ite01 (Or.inl rfl) (ite01 (Or.inl rfl) (ite01 (Or.inl rfl) (ite01 (Or.inl rfl) (ite01 (Or.inr rfl) (Or.inl rfl))))))
theorem p_X11_isOnSegment {l : Launch} {E : EE} (hl : l.stackTraces = false) {h : HP} {w0 : Int32} {w1 : Int32} {w2 : Int32} {w3 : Int32} {w4 : Int32} {w5 : Int32} : en_C l E M_X11_isOnSegment 2 0 0 [.int w0, .int w1, .int w2, .int w3, .int w4, .int w5] h (pR (some (.int (f_X11_isOnSegment w0 w1 w2 w3 w4 w5))) h) := by
  refine en_mk m_X11_isOnSegment rfl hl (Nat.le_of_ble_eq_true rfl) ?_
  refine x_iload (M := M_X11_isOnSegment) dX11_isOnSegment_0 rfl ?_
  refine x_iload_n (M := M_X11_isOnSegment) dX11_isOnSegment_2 rfl ?_
  refine x_iload_n (M := M_X11_isOnSegment) dX11_isOnSegment_3 rfl ?_
  refine x_mmin (M := M_X11_isOnSegment) dX11_isOnSegment_4 t_625 t_626 t_20 t_627 (Nat.le_of_ble_eq_true rfl) (Nat.le_of_ble_eq_true rfl) (Nat.le_of_ble_eq_true rfl) (Nat.le_of_ble_eq_true rfl) ?_
  refine x_icmp_lt (M := M_X11_isOnSegment) (tgt := 64) dX11_isOnSegment_7 (by decide) (fun q0 => ?_) (fun q0 => ?_)
  · refine x_iconst (M := M_X11_isOnSegment) dX11_isOnSegment_64 ?_
    exact x_zret (M := M_X11_isOnSegment) dX11_isOnSegment_65 rfl (Or.inl rfl) ⟨by rw [f_X11_isOnSegment, if_pos q0], rfl⟩ (Nat.le_of_ble_eq_true rfl) (Nat.le_of_ble_eq_true rfl)
  · refine x_iload (M := M_X11_isOnSegment) dX11_isOnSegment_10 rfl ?_
    refine x_iload_n (M := M_X11_isOnSegment) dX11_isOnSegment_12 rfl ?_
    refine x_iload_n (M := M_X11_isOnSegment) dX11_isOnSegment_13 rfl ?_
    refine x_mmax (M := M_X11_isOnSegment) dX11_isOnSegment_14 t_1322 t_1013 t_20 t_1014 (Nat.le_of_ble_eq_true rfl) (Nat.le_of_ble_eq_true rfl) (Nat.le_of_ble_eq_true rfl) (Nat.le_of_ble_eq_true rfl) ?_
    refine x_icmp_gt (M := M_X11_isOnSegment) (tgt := 64) dX11_isOnSegment_17 (by decide) (fun q1 => ?_) (fun q1 => ?_)
    · refine x_iconst (M := M_X11_isOnSegment) dX11_isOnSegment_64 ?_
      exact x_zret (M := M_X11_isOnSegment) dX11_isOnSegment_65 rfl (Or.inl rfl) ⟨by rw [f_X11_isOnSegment, if_neg q0, if_pos q1], rfl⟩ (Nat.le_of_ble_eq_true rfl) (Nat.le_of_ble_eq_true rfl)
    · refine x_iload (M := M_X11_isOnSegment) dX11_isOnSegment_20 rfl ?_
      refine x_iload_n (M := M_X11_isOnSegment) dX11_isOnSegment_22 rfl ?_
      refine x_iload_n (M := M_X11_isOnSegment) dX11_isOnSegment_23 rfl ?_
      refine x_mmin (M := M_X11_isOnSegment) dX11_isOnSegment_24 t_625 t_626 t_20 t_627 (Nat.le_of_ble_eq_true rfl) (Nat.le_of_ble_eq_true rfl) (Nat.le_of_ble_eq_true rfl) (Nat.le_of_ble_eq_true rfl) ?_
      refine x_icmp_lt (M := M_X11_isOnSegment) (tgt := 64) dX11_isOnSegment_27 (by decide) (fun q2 => ?_) (fun q2 => ?_)
      · refine x_iconst (M := M_X11_isOnSegment) dX11_isOnSegment_64 ?_
        exact x_zret (M := M_X11_isOnSegment) dX11_isOnSegment_65 rfl (Or.inl rfl) ⟨by rw [f_X11_isOnSegment, if_neg q0, if_neg q1, if_pos q2], rfl⟩ (Nat.le_of_ble_eq_true rfl) (Nat.le_of_ble_eq_true rfl)
      · refine x_iload (M := M_X11_isOnSegment) dX11_isOnSegment_30 rfl ?_
        refine x_iload_n (M := M_X11_isOnSegment) dX11_isOnSegment_32 rfl ?_
        refine x_iload_n (M := M_X11_isOnSegment) dX11_isOnSegment_33 rfl ?_
        refine x_mmax (M := M_X11_isOnSegment) dX11_isOnSegment_34 t_1322 t_1013 t_20 t_1014 (Nat.le_of_ble_eq_true rfl) (Nat.le_of_ble_eq_true rfl) (Nat.le_of_ble_eq_true rfl) (Nat.le_of_ble_eq_true rfl) ?_
        refine x_icmp_gt (M := M_X11_isOnSegment) (tgt := 64) dX11_isOnSegment_37 (by decide) (fun q3 => ?_) (fun q3 => ?_)
        · refine x_iconst (M := M_X11_isOnSegment) dX11_isOnSegment_64 ?_
          exact x_zret (M := M_X11_isOnSegment) dX11_isOnSegment_65 rfl (Or.inl rfl) ⟨by rw [f_X11_isOnSegment, if_neg q0, if_neg q1, if_neg q2, if_pos q3], rfl⟩ (Nat.le_of_ble_eq_true rfl) (Nat.le_of_ble_eq_true rfl)
        · refine x_iload_n (M := M_X11_isOnSegment) dX11_isOnSegment_40 rfl ?_
          refine x_i2l (M := M_X11_isOnSegment) dX11_isOnSegment_41 ?_
          refine x_iload_n (M := M_X11_isOnSegment) dX11_isOnSegment_42 rfl ?_
          refine x_i2l (M := M_X11_isOnSegment) dX11_isOnSegment_43 ?_
          refine x_iload_n (M := M_X11_isOnSegment) dX11_isOnSegment_44 rfl ?_
          refine x_i2l (M := M_X11_isOnSegment) dX11_isOnSegment_45 ?_
          refine x_iload_n (M := M_X11_isOnSegment) dX11_isOnSegment_46 rfl ?_
          refine x_i2l (M := M_X11_isOnSegment) dX11_isOnSegment_47 ?_
          refine x_iload (M := M_X11_isOnSegment) dX11_isOnSegment_48 rfl ?_
          refine x_i2l (M := M_X11_isOnSegment) dX11_isOnSegment_50 ?_
          refine x_iload (M := M_X11_isOnSegment) dX11_isOnSegment_51 rfl ?_
          refine x_i2l (M := M_X11_isOnSegment) dX11_isOnSegment_53 ?_
          refine x_callSR (M := M_X11_isOnSegment) (M' := M_X11_turnOf) rfl rfl dX11_isOnSegment_54 m_X11_turnOf t_1323 t_1265 (p_X11_turnOf hl) rfl rfl (Nat.le_of_ble_eq_true rfl) (Nat.le_of_ble_eq_true rfl) (Nat.le_of_ble_eq_true rfl) (Nat.le_of_ble_eq_true rfl) ?_
          refine x_if_ne (M := M_X11_isOnSegment) (tgt := 64) dX11_isOnSegment_57 (by decide) (fun q4 => ?_) (fun q4 => ?_)
          · refine x_iconst (M := M_X11_isOnSegment) dX11_isOnSegment_64 ?_
            exact x_zret (M := M_X11_isOnSegment) dX11_isOnSegment_65 rfl (Or.inl rfl) ⟨by rw [f_X11_isOnSegment, if_neg q0, if_neg q1, if_neg q2, if_neg q3, if_neg q4], rfl⟩ (Nat.le_of_ble_eq_true rfl) (Nat.le_of_ble_eq_true rfl)
          · refine x_iconst (M := M_X11_isOnSegment) dX11_isOnSegment_60 ?_
            refine x_goto (M := M_X11_isOnSegment) (tgt := 65) dX11_isOnSegment_61 (by decide) ?_
            exact x_zret (M := M_X11_isOnSegment) dX11_isOnSegment_65 rfl (Or.inr rfl) ⟨by rw [f_X11_isOnSegment, if_neg q0, if_neg q1, if_neg q2, if_neg q3, if_pos q4], rfl⟩ (Nat.le_of_ble_eq_true rfl) (Nat.le_of_ble_eq_true rfl)
def f_X11_isCrossedFrom (w0 : Int32) (w1 : Int32) (w2 : Int32) (w3 : Int32) (w4 : Int32) (w5 : Int32) : Int32 := if w3 ≤ w5 then if w1 ≤ w5 then if (Int32.ofInt 0) = (Int32.ofInt 0) then (Int32.ofInt 0) else (if (Int32.ofInt 0) = 0 then if 0 ≤ (f_X11_turnOf (w0.toInt64) (w1.toInt64) (w2.toInt64) (w3.toInt64) (w4.toInt64) (w5.toInt64)) then (Int32.ofInt 0) else ((Int32.ofInt 1)) else (if (f_X11_turnOf (w0.toInt64) (w1.toInt64) (w2.toInt64) (w3.toInt64) (w4.toInt64) (w5.toInt64)) ≤ 0 then (Int32.ofInt 0) else ((Int32.ofInt 1)))) else (if (Int32.ofInt 1) = (Int32.ofInt 0) then (Int32.ofInt 0) else (if (Int32.ofInt 0) = 0 then if 0 ≤ (f_X11_turnOf (w0.toInt64) (w1.toInt64) (w2.toInt64) (w3.toInt64) (w4.toInt64) (w5.toInt64)) then (Int32.ofInt 0) else ((Int32.ofInt 1)) else (if (f_X11_turnOf (w0.toInt64) (w1.toInt64) (w2.toInt64) (w3.toInt64) (w4.toInt64) (w5.toInt64)) ≤ 0 then (Int32.ofInt 0) else ((Int32.ofInt 1))))) else (if w1 ≤ w5 then if (Int32.ofInt 0) = (Int32.ofInt 1) then (Int32.ofInt 0) else (if (Int32.ofInt 1) = 0 then if 0 ≤ (f_X11_turnOf (w0.toInt64) (w1.toInt64) (w2.toInt64) (w3.toInt64) (w4.toInt64) (w5.toInt64)) then (Int32.ofInt 0) else ((Int32.ofInt 1)) else (if (f_X11_turnOf (w0.toInt64) (w1.toInt64) (w2.toInt64) (w3.toInt64) (w4.toInt64) (w5.toInt64)) ≤ 0 then (Int32.ofInt 0) else ((Int32.ofInt 1)))) else (if (Int32.ofInt 1) = (Int32.ofInt 1) then (Int32.ofInt 0) else (if (Int32.ofInt 1) = 0 then if 0 ≤ (f_X11_turnOf (w0.toInt64) (w1.toInt64) (w2.toInt64) (w3.toInt64) (w4.toInt64) (w5.toInt64)) then (Int32.ofInt 0) else ((Int32.ofInt 1)) else (if (f_X11_turnOf (w0.toInt64) (w1.toInt64) (w2.toInt64) (w3.toInt64) (w4.toInt64) (w5.toInt64)) ≤ 0 then (Int32.ofInt 0) else ((Int32.ofInt 1))))))
theorem b_X11_isCrossedFrom (w0 : Int32) (w1 : Int32) (w2 : Int32) (w3 : Int32) (w4 : Int32) (w5 : Int32) : f_X11_isCrossedFrom w0 w1 w2 w3 w4 w5 = 0 ∨ f_X11_isCrossedFrom w0 w1 w2 w3 w4 w5 = 1 := (ite01 (ite01 (ite01 (Or.inl rfl) (ite01 (ite01 (Or.inl rfl) (Or.inr rfl)) (ite01 (Or.inl rfl) (Or.inr rfl)))) (ite01 (Or.inl rfl) (ite01 (ite01 (Or.inl rfl) (Or.inr rfl)) (ite01 (Or.inl rfl) (Or.inr rfl))))) (ite01 (ite01 (Or.inl rfl) (ite01 (ite01 (Or.inl rfl) (Or.inr rfl)) (ite01 (Or.inl rfl) (Or.inr rfl)))) (ite01 (Or.inl rfl) (ite01 (ite01 (Or.inl rfl) (Or.inr rfl)) (ite01 (Or.inl rfl) (Or.inr rfl))))))
set_option maxHeartbeats 8000000 in
set_option maxRecDepth 20000 in
theorem p_X11_isCrossedFrom {l : Launch} {E : EE} (hl : l.stackTraces = false) {h : HP} {w0 : Int32} {w1 : Int32} {w2 : Int32} {w3 : Int32} {w4 : Int32} {w5 : Int32} : en_C l E M_X11_isCrossedFrom 2 0 0 [.int w0, .int w1, .int w2, .int w3, .int w4, .int w5] h (pR (some (.int (f_X11_isCrossedFrom w0 w1 w2 w3 w4 w5))) h) := by
  refine en_mk m_X11_isCrossedFrom rfl hl (Nat.le_of_ble_eq_true rfl) ?_
  refine x_iload_n (M := M_X11_isCrossedFrom) dX11_isCrossedFrom_0 rfl ?_
  refine x_iload (M := M_X11_isCrossedFrom) dX11_isCrossedFrom_1 rfl ?_
  refine x_icmp_le (M := M_X11_isCrossedFrom) (tgt := 10) dX11_isCrossedFrom_3 (by decide) (fun q0 => ?_) (fun q0 => ?_)
  · refine x_iconst (M := M_X11_isCrossedFrom) dX11_isCrossedFrom_10 ?_
    refine x_istore (M := M_X11_isCrossedFrom) dX11_isCrossedFrom_11 (by decide) rfl ?_
    refine x_norm (lv' := [some (.int w0), some (.int w1), some (.int w2), some (.int w3), some (.int w4), some (.int w5), some (.int (Int32.ofInt 0)), none]) rfl rfl rfl rfl rfl ?_
    refine x_iload_n (M := M_X11_isCrossedFrom) dX11_isCrossedFrom_13 rfl ?_
    refine x_iload (M := M_X11_isCrossedFrom) dX11_isCrossedFrom_14 rfl ?_
    refine x_icmp_le (M := M_X11_isCrossedFrom) (tgt := 23) dX11_isCrossedFrom_16 (by decide) (fun q1 => ?_) (fun q1 => ?_)
    · refine x_iconst (M := M_X11_isCrossedFrom) dX11_isCrossedFrom_23 ?_
      refine x_iload (M := M_X11_isCrossedFrom) dX11_isCrossedFrom_24 rfl ?_
      refine x_icmp_ne (M := M_X11_isCrossedFrom) (tgt := 31) dX11_isCrossedFrom_26 (by decide) (fun q2 => ?_) (fun q2 => ?_)
      · refine x_iload_n (M := M_X11_isCrossedFrom) dX11_isCrossedFrom_31 rfl ?_
        refine x_i2l (M := M_X11_isCrossedFrom) dX11_isCrossedFrom_32 ?_
        refine x_iload_n (M := M_X11_isCrossedFrom) dX11_isCrossedFrom_33 rfl ?_
        refine x_i2l (M := M_X11_isCrossedFrom) dX11_isCrossedFrom_34 ?_
        refine x_iload_n (M := M_X11_isCrossedFrom) dX11_isCrossedFrom_35 rfl ?_
        refine x_i2l (M := M_X11_isCrossedFrom) dX11_isCrossedFrom_36 ?_
        refine x_iload_n (M := M_X11_isCrossedFrom) dX11_isCrossedFrom_37 rfl ?_
        refine x_i2l (M := M_X11_isCrossedFrom) dX11_isCrossedFrom_38 ?_
        refine x_iload (M := M_X11_isCrossedFrom) dX11_isCrossedFrom_39 rfl ?_
        refine x_i2l (M := M_X11_isCrossedFrom) dX11_isCrossedFrom_41 ?_
        refine x_iload (M := M_X11_isCrossedFrom) dX11_isCrossedFrom_42 rfl ?_
        refine x_i2l (M := M_X11_isCrossedFrom) dX11_isCrossedFrom_44 ?_
        refine x_callSR (M := M_X11_isCrossedFrom) (M' := M_X11_turnOf) rfl rfl dX11_isCrossedFrom_45 m_X11_turnOf t_1323 t_1265 (p_X11_turnOf hl) rfl rfl (Nat.le_of_ble_eq_true rfl) (Nat.le_of_ble_eq_true rfl) (Nat.le_of_ble_eq_true rfl) (Nat.le_of_ble_eq_true rfl) ?_
        refine x_istore (M := M_X11_isCrossedFrom) dX11_isCrossedFrom_48 (by decide) rfl ?_
        refine x_norm (lv' := [some (.int w0), some (.int w1), some (.int w2), some (.int w3), some (.int w4), some (.int w5), some (.int (Int32.ofInt 0)), some (.int (f_X11_turnOf (w0.toInt64) (w1.toInt64) (w2.toInt64) (w3.toInt64) (w4.toInt64) (w5.toInt64)))]) rfl rfl rfl rfl rfl ?_
        refine x_iload (M := M_X11_isCrossedFrom) dX11_isCrossedFrom_50 rfl ?_
        refine x_if_eq (M := M_X11_isCrossedFrom) (tgt := 68) dX11_isCrossedFrom_52 (by decide) (fun q3 => ?_) (fun q3 => ?_)
        · refine x_iload (M := M_X11_isCrossedFrom) dX11_isCrossedFrom_68 rfl ?_
          refine x_if_ge (M := M_X11_isCrossedFrom) (tgt := 77) dX11_isCrossedFrom_70 (by decide) (fun q4 => ?_) (fun q4 => ?_)
          · refine x_iconst (M := M_X11_isCrossedFrom) dX11_isCrossedFrom_77 ?_
            exact x_zret (M := M_X11_isCrossedFrom) dX11_isCrossedFrom_78 rfl (Or.inl rfl) ⟨by rw [f_X11_isCrossedFrom, if_pos q0, if_pos q1, if_neg q2, if_pos q3, if_pos q4], rfl⟩ (Nat.le_of_ble_eq_true rfl) (Nat.le_of_ble_eq_true rfl)
          · refine x_iconst (M := M_X11_isCrossedFrom) dX11_isCrossedFrom_73 ?_
            refine x_goto (M := M_X11_isCrossedFrom) (tgt := 78) dX11_isCrossedFrom_74 (by decide) ?_
            exact x_zret (M := M_X11_isCrossedFrom) dX11_isCrossedFrom_78 rfl (Or.inr rfl) ⟨by rw [f_X11_isCrossedFrom, if_pos q0, if_pos q1, if_neg q2, if_pos q3, if_neg q4], rfl⟩ (Nat.le_of_ble_eq_true rfl) (Nat.le_of_ble_eq_true rfl)
        · refine x_iload (M := M_X11_isCrossedFrom) dX11_isCrossedFrom_55 rfl ?_
          refine x_if_le (M := M_X11_isCrossedFrom) (tgt := 64) dX11_isCrossedFrom_57 (by decide) (fun q4 => ?_) (fun q4 => ?_)
          · refine x_iconst (M := M_X11_isCrossedFrom) dX11_isCrossedFrom_64 ?_
            refine x_goto (M := M_X11_isCrossedFrom) (tgt := 78) dX11_isCrossedFrom_65 (by decide) ?_
            exact x_zret (M := M_X11_isCrossedFrom) dX11_isCrossedFrom_78 rfl (Or.inl rfl) ⟨by rw [f_X11_isCrossedFrom, if_pos q0, if_pos q1, if_neg q2, if_neg q3, if_pos q4], rfl⟩ (Nat.le_of_ble_eq_true rfl) (Nat.le_of_ble_eq_true rfl)
          · refine x_iconst (M := M_X11_isCrossedFrom) dX11_isCrossedFrom_60 ?_
            refine x_goto (M := M_X11_isCrossedFrom) (tgt := 78) dX11_isCrossedFrom_61 (by decide) ?_
            exact x_zret (M := M_X11_isCrossedFrom) dX11_isCrossedFrom_78 rfl (Or.inr rfl) ⟨by rw [f_X11_isCrossedFrom, if_pos q0, if_pos q1, if_neg q2, if_neg q3, if_neg q4], rfl⟩ (Nat.le_of_ble_eq_true rfl) (Nat.le_of_ble_eq_true rfl)
      · refine x_iconst (M := M_X11_isCrossedFrom) dX11_isCrossedFrom_29 ?_
        exact x_zret (M := M_X11_isCrossedFrom) dX11_isCrossedFrom_30 rfl (Or.inl rfl) ⟨by rw [f_X11_isCrossedFrom, if_pos q0, if_pos q1, if_pos q2], rfl⟩ (Nat.le_of_ble_eq_true rfl) (Nat.le_of_ble_eq_true rfl)
    · refine x_iconst (M := M_X11_isCrossedFrom) dX11_isCrossedFrom_19 ?_
      refine x_goto (M := M_X11_isCrossedFrom) (tgt := 24) dX11_isCrossedFrom_20 (by decide) ?_
      refine x_iload (M := M_X11_isCrossedFrom) dX11_isCrossedFrom_24 rfl ?_
      refine x_icmp_ne (M := M_X11_isCrossedFrom) (tgt := 31) dX11_isCrossedFrom_26 (by decide) (fun q2 => ?_) (fun q2 => ?_)
      · refine x_iload_n (M := M_X11_isCrossedFrom) dX11_isCrossedFrom_31 rfl ?_
        refine x_i2l (M := M_X11_isCrossedFrom) dX11_isCrossedFrom_32 ?_
        refine x_iload_n (M := M_X11_isCrossedFrom) dX11_isCrossedFrom_33 rfl ?_
        refine x_i2l (M := M_X11_isCrossedFrom) dX11_isCrossedFrom_34 ?_
        refine x_iload_n (M := M_X11_isCrossedFrom) dX11_isCrossedFrom_35 rfl ?_
        refine x_i2l (M := M_X11_isCrossedFrom) dX11_isCrossedFrom_36 ?_
        refine x_iload_n (M := M_X11_isCrossedFrom) dX11_isCrossedFrom_37 rfl ?_
        refine x_i2l (M := M_X11_isCrossedFrom) dX11_isCrossedFrom_38 ?_
        refine x_iload (M := M_X11_isCrossedFrom) dX11_isCrossedFrom_39 rfl ?_
        refine x_i2l (M := M_X11_isCrossedFrom) dX11_isCrossedFrom_41 ?_
        refine x_iload (M := M_X11_isCrossedFrom) dX11_isCrossedFrom_42 rfl ?_
        refine x_i2l (M := M_X11_isCrossedFrom) dX11_isCrossedFrom_44 ?_
        refine x_callSR (M := M_X11_isCrossedFrom) (M' := M_X11_turnOf) rfl rfl dX11_isCrossedFrom_45 m_X11_turnOf t_1323 t_1265 (p_X11_turnOf hl) rfl rfl (Nat.le_of_ble_eq_true rfl) (Nat.le_of_ble_eq_true rfl) (Nat.le_of_ble_eq_true rfl) (Nat.le_of_ble_eq_true rfl) ?_
        refine x_istore (M := M_X11_isCrossedFrom) dX11_isCrossedFrom_48 (by decide) rfl ?_
        refine x_norm (lv' := [some (.int w0), some (.int w1), some (.int w2), some (.int w3), some (.int w4), some (.int w5), some (.int (Int32.ofInt 0)), some (.int (f_X11_turnOf (w0.toInt64) (w1.toInt64) (w2.toInt64) (w3.toInt64) (w4.toInt64) (w5.toInt64)))]) rfl rfl rfl rfl rfl ?_
        refine x_iload (M := M_X11_isCrossedFrom) dX11_isCrossedFrom_50 rfl ?_
        refine x_if_eq (M := M_X11_isCrossedFrom) (tgt := 68) dX11_isCrossedFrom_52 (by decide) (fun q3 => ?_) (fun q3 => ?_)
        · refine x_iload (M := M_X11_isCrossedFrom) dX11_isCrossedFrom_68 rfl ?_
          refine x_if_ge (M := M_X11_isCrossedFrom) (tgt := 77) dX11_isCrossedFrom_70 (by decide) (fun q4 => ?_) (fun q4 => ?_)
          · refine x_iconst (M := M_X11_isCrossedFrom) dX11_isCrossedFrom_77 ?_
            exact x_zret (M := M_X11_isCrossedFrom) dX11_isCrossedFrom_78 rfl (Or.inl rfl) ⟨by rw [f_X11_isCrossedFrom, if_pos q0, if_neg q1, if_neg q2, if_pos q3, if_pos q4], rfl⟩ (Nat.le_of_ble_eq_true rfl) (Nat.le_of_ble_eq_true rfl)
          · refine x_iconst (M := M_X11_isCrossedFrom) dX11_isCrossedFrom_73 ?_
            refine x_goto (M := M_X11_isCrossedFrom) (tgt := 78) dX11_isCrossedFrom_74 (by decide) ?_
            exact x_zret (M := M_X11_isCrossedFrom) dX11_isCrossedFrom_78 rfl (Or.inr rfl) ⟨by rw [f_X11_isCrossedFrom, if_pos q0, if_neg q1, if_neg q2, if_pos q3, if_neg q4], rfl⟩ (Nat.le_of_ble_eq_true rfl) (Nat.le_of_ble_eq_true rfl)
        · refine x_iload (M := M_X11_isCrossedFrom) dX11_isCrossedFrom_55 rfl ?_
          refine x_if_le (M := M_X11_isCrossedFrom) (tgt := 64) dX11_isCrossedFrom_57 (by decide) (fun q4 => ?_) (fun q4 => ?_)
          · refine x_iconst (M := M_X11_isCrossedFrom) dX11_isCrossedFrom_64 ?_
            refine x_goto (M := M_X11_isCrossedFrom) (tgt := 78) dX11_isCrossedFrom_65 (by decide) ?_
            exact x_zret (M := M_X11_isCrossedFrom) dX11_isCrossedFrom_78 rfl (Or.inl rfl) ⟨by rw [f_X11_isCrossedFrom, if_pos q0, if_neg q1, if_neg q2, if_neg q3, if_pos q4], rfl⟩ (Nat.le_of_ble_eq_true rfl) (Nat.le_of_ble_eq_true rfl)
          · refine x_iconst (M := M_X11_isCrossedFrom) dX11_isCrossedFrom_60 ?_
            refine x_goto (M := M_X11_isCrossedFrom) (tgt := 78) dX11_isCrossedFrom_61 (by decide) ?_
            exact x_zret (M := M_X11_isCrossedFrom) dX11_isCrossedFrom_78 rfl (Or.inr rfl) ⟨by rw [f_X11_isCrossedFrom, if_pos q0, if_neg q1, if_neg q2, if_neg q3, if_neg q4], rfl⟩ (Nat.le_of_ble_eq_true rfl) (Nat.le_of_ble_eq_true rfl)
      · refine x_iconst (M := M_X11_isCrossedFrom) dX11_isCrossedFrom_29 ?_
        exact x_zret (M := M_X11_isCrossedFrom) dX11_isCrossedFrom_30 rfl (Or.inl rfl) ⟨by rw [f_X11_isCrossedFrom, if_pos q0, if_neg q1, if_pos q2], rfl⟩ (Nat.le_of_ble_eq_true rfl) (Nat.le_of_ble_eq_true rfl)
  · refine x_iconst (M := M_X11_isCrossedFrom) dX11_isCrossedFrom_6 ?_
    refine x_goto (M := M_X11_isCrossedFrom) (tgt := 11) dX11_isCrossedFrom_7 (by decide) ?_
    refine x_istore (M := M_X11_isCrossedFrom) dX11_isCrossedFrom_11 (by decide) rfl ?_
    refine x_norm (lv' := [some (.int w0), some (.int w1), some (.int w2), some (.int w3), some (.int w4), some (.int w5), some (.int (Int32.ofInt 1)), none]) rfl rfl rfl rfl rfl ?_
    refine x_iload_n (M := M_X11_isCrossedFrom) dX11_isCrossedFrom_13 rfl ?_
    refine x_iload (M := M_X11_isCrossedFrom) dX11_isCrossedFrom_14 rfl ?_
    refine x_icmp_le (M := M_X11_isCrossedFrom) (tgt := 23) dX11_isCrossedFrom_16 (by decide) (fun q1 => ?_) (fun q1 => ?_)
    · refine x_iconst (M := M_X11_isCrossedFrom) dX11_isCrossedFrom_23 ?_
      refine x_iload (M := M_X11_isCrossedFrom) dX11_isCrossedFrom_24 rfl ?_
      refine x_icmp_ne (M := M_X11_isCrossedFrom) (tgt := 31) dX11_isCrossedFrom_26 (by decide) (fun q2 => ?_) (fun q2 => ?_)
      · refine x_iload_n (M := M_X11_isCrossedFrom) dX11_isCrossedFrom_31 rfl ?_
        refine x_i2l (M := M_X11_isCrossedFrom) dX11_isCrossedFrom_32 ?_
        refine x_iload_n (M := M_X11_isCrossedFrom) dX11_isCrossedFrom_33 rfl ?_
        refine x_i2l (M := M_X11_isCrossedFrom) dX11_isCrossedFrom_34 ?_
        refine x_iload_n (M := M_X11_isCrossedFrom) dX11_isCrossedFrom_35 rfl ?_
        refine x_i2l (M := M_X11_isCrossedFrom) dX11_isCrossedFrom_36 ?_
        refine x_iload_n (M := M_X11_isCrossedFrom) dX11_isCrossedFrom_37 rfl ?_
        refine x_i2l (M := M_X11_isCrossedFrom) dX11_isCrossedFrom_38 ?_
        refine x_iload (M := M_X11_isCrossedFrom) dX11_isCrossedFrom_39 rfl ?_
        refine x_i2l (M := M_X11_isCrossedFrom) dX11_isCrossedFrom_41 ?_
        refine x_iload (M := M_X11_isCrossedFrom) dX11_isCrossedFrom_42 rfl ?_
        refine x_i2l (M := M_X11_isCrossedFrom) dX11_isCrossedFrom_44 ?_
        refine x_callSR (M := M_X11_isCrossedFrom) (M' := M_X11_turnOf) rfl rfl dX11_isCrossedFrom_45 m_X11_turnOf t_1323 t_1265 (p_X11_turnOf hl) rfl rfl (Nat.le_of_ble_eq_true rfl) (Nat.le_of_ble_eq_true rfl) (Nat.le_of_ble_eq_true rfl) (Nat.le_of_ble_eq_true rfl) ?_
        refine x_istore (M := M_X11_isCrossedFrom) dX11_isCrossedFrom_48 (by decide) rfl ?_
        refine x_norm (lv' := [some (.int w0), some (.int w1), some (.int w2), some (.int w3), some (.int w4), some (.int w5), some (.int (Int32.ofInt 1)), some (.int (f_X11_turnOf (w0.toInt64) (w1.toInt64) (w2.toInt64) (w3.toInt64) (w4.toInt64) (w5.toInt64)))]) rfl rfl rfl rfl rfl ?_
        refine x_iload (M := M_X11_isCrossedFrom) dX11_isCrossedFrom_50 rfl ?_
        refine x_if_eq (M := M_X11_isCrossedFrom) (tgt := 68) dX11_isCrossedFrom_52 (by decide) (fun q3 => ?_) (fun q3 => ?_)
        · refine x_iload (M := M_X11_isCrossedFrom) dX11_isCrossedFrom_68 rfl ?_
          refine x_if_ge (M := M_X11_isCrossedFrom) (tgt := 77) dX11_isCrossedFrom_70 (by decide) (fun q4 => ?_) (fun q4 => ?_)
          · refine x_iconst (M := M_X11_isCrossedFrom) dX11_isCrossedFrom_77 ?_
            exact x_zret (M := M_X11_isCrossedFrom) dX11_isCrossedFrom_78 rfl (Or.inl rfl) ⟨by rw [f_X11_isCrossedFrom, if_neg q0, if_pos q1, if_neg q2, if_pos q3, if_pos q4], rfl⟩ (Nat.le_of_ble_eq_true rfl) (Nat.le_of_ble_eq_true rfl)
          · refine x_iconst (M := M_X11_isCrossedFrom) dX11_isCrossedFrom_73 ?_
            refine x_goto (M := M_X11_isCrossedFrom) (tgt := 78) dX11_isCrossedFrom_74 (by decide) ?_
            exact x_zret (M := M_X11_isCrossedFrom) dX11_isCrossedFrom_78 rfl (Or.inr rfl) ⟨by rw [f_X11_isCrossedFrom, if_neg q0, if_pos q1, if_neg q2, if_pos q3, if_neg q4], rfl⟩ (Nat.le_of_ble_eq_true rfl) (Nat.le_of_ble_eq_true rfl)
        · refine x_iload (M := M_X11_isCrossedFrom) dX11_isCrossedFrom_55 rfl ?_
          refine x_if_le (M := M_X11_isCrossedFrom) (tgt := 64) dX11_isCrossedFrom_57 (by decide) (fun q4 => ?_) (fun q4 => ?_)
          · refine x_iconst (M := M_X11_isCrossedFrom) dX11_isCrossedFrom_64 ?_
            refine x_goto (M := M_X11_isCrossedFrom) (tgt := 78) dX11_isCrossedFrom_65 (by decide) ?_
            exact x_zret (M := M_X11_isCrossedFrom) dX11_isCrossedFrom_78 rfl (Or.inl rfl) ⟨by rw [f_X11_isCrossedFrom, if_neg q0, if_pos q1, if_neg q2, if_neg q3, if_pos q4], rfl⟩ (Nat.le_of_ble_eq_true rfl) (Nat.le_of_ble_eq_true rfl)
          · refine x_iconst (M := M_X11_isCrossedFrom) dX11_isCrossedFrom_60 ?_
            refine x_goto (M := M_X11_isCrossedFrom) (tgt := 78) dX11_isCrossedFrom_61 (by decide) ?_
            exact x_zret (M := M_X11_isCrossedFrom) dX11_isCrossedFrom_78 rfl (Or.inr rfl) ⟨by rw [f_X11_isCrossedFrom, if_neg q0, if_pos q1, if_neg q2, if_neg q3, if_neg q4], rfl⟩ (Nat.le_of_ble_eq_true rfl) (Nat.le_of_ble_eq_true rfl)
      · refine x_iconst (M := M_X11_isCrossedFrom) dX11_isCrossedFrom_29 ?_
        exact x_zret (M := M_X11_isCrossedFrom) dX11_isCrossedFrom_30 rfl (Or.inl rfl) ⟨by rw [f_X11_isCrossedFrom, if_neg q0, if_pos q1, if_pos q2], rfl⟩ (Nat.le_of_ble_eq_true rfl) (Nat.le_of_ble_eq_true rfl)
    · refine x_iconst (M := M_X11_isCrossedFrom) dX11_isCrossedFrom_19 ?_
      refine x_goto (M := M_X11_isCrossedFrom) (tgt := 24) dX11_isCrossedFrom_20 (by decide) ?_
      refine x_iload (M := M_X11_isCrossedFrom) dX11_isCrossedFrom_24 rfl ?_
      refine x_icmp_ne (M := M_X11_isCrossedFrom) (tgt := 31) dX11_isCrossedFrom_26 (by decide) (fun q2 => ?_) (fun q2 => ?_)
      · refine x_iload_n (M := M_X11_isCrossedFrom) dX11_isCrossedFrom_31 rfl ?_
        refine x_i2l (M := M_X11_isCrossedFrom) dX11_isCrossedFrom_32 ?_
        refine x_iload_n (M := M_X11_isCrossedFrom) dX11_isCrossedFrom_33 rfl ?_
        refine x_i2l (M := M_X11_isCrossedFrom) dX11_isCrossedFrom_34 ?_
        refine x_iload_n (M := M_X11_isCrossedFrom) dX11_isCrossedFrom_35 rfl ?_
        refine x_i2l (M := M_X11_isCrossedFrom) dX11_isCrossedFrom_36 ?_
        refine x_iload_n (M := M_X11_isCrossedFrom) dX11_isCrossedFrom_37 rfl ?_
        refine x_i2l (M := M_X11_isCrossedFrom) dX11_isCrossedFrom_38 ?_
        refine x_iload (M := M_X11_isCrossedFrom) dX11_isCrossedFrom_39 rfl ?_
        refine x_i2l (M := M_X11_isCrossedFrom) dX11_isCrossedFrom_41 ?_
        refine x_iload (M := M_X11_isCrossedFrom) dX11_isCrossedFrom_42 rfl ?_
        refine x_i2l (M := M_X11_isCrossedFrom) dX11_isCrossedFrom_44 ?_
        refine x_callSR (M := M_X11_isCrossedFrom) (M' := M_X11_turnOf) rfl rfl dX11_isCrossedFrom_45 m_X11_turnOf t_1323 t_1265 (p_X11_turnOf hl) rfl rfl (Nat.le_of_ble_eq_true rfl) (Nat.le_of_ble_eq_true rfl) (Nat.le_of_ble_eq_true rfl) (Nat.le_of_ble_eq_true rfl) ?_
        refine x_istore (M := M_X11_isCrossedFrom) dX11_isCrossedFrom_48 (by decide) rfl ?_
        refine x_norm (lv' := [some (.int w0), some (.int w1), some (.int w2), some (.int w3), some (.int w4), some (.int w5), some (.int (Int32.ofInt 1)), some (.int (f_X11_turnOf (w0.toInt64) (w1.toInt64) (w2.toInt64) (w3.toInt64) (w4.toInt64) (w5.toInt64)))]) rfl rfl rfl rfl rfl ?_
        refine x_iload (M := M_X11_isCrossedFrom) dX11_isCrossedFrom_50 rfl ?_
        refine x_if_eq (M := M_X11_isCrossedFrom) (tgt := 68) dX11_isCrossedFrom_52 (by decide) (fun q3 => ?_) (fun q3 => ?_)
        · refine x_iload (M := M_X11_isCrossedFrom) dX11_isCrossedFrom_68 rfl ?_
          refine x_if_ge (M := M_X11_isCrossedFrom) (tgt := 77) dX11_isCrossedFrom_70 (by decide) (fun q4 => ?_) (fun q4 => ?_)
          · refine x_iconst (M := M_X11_isCrossedFrom) dX11_isCrossedFrom_77 ?_
            exact x_zret (M := M_X11_isCrossedFrom) dX11_isCrossedFrom_78 rfl (Or.inl rfl) ⟨by rw [f_X11_isCrossedFrom, if_neg q0, if_neg q1, if_neg q2, if_pos q3, if_pos q4], rfl⟩ (Nat.le_of_ble_eq_true rfl) (Nat.le_of_ble_eq_true rfl)
          · refine x_iconst (M := M_X11_isCrossedFrom) dX11_isCrossedFrom_73 ?_
            refine x_goto (M := M_X11_isCrossedFrom) (tgt := 78) dX11_isCrossedFrom_74 (by decide) ?_
            exact x_zret (M := M_X11_isCrossedFrom) dX11_isCrossedFrom_78 rfl (Or.inr rfl) ⟨by rw [f_X11_isCrossedFrom, if_neg q0, if_neg q1, if_neg q2, if_pos q3, if_neg q4], rfl⟩ (Nat.le_of_ble_eq_true rfl) (Nat.le_of_ble_eq_true rfl)
        · refine x_iload (M := M_X11_isCrossedFrom) dX11_isCrossedFrom_55 rfl ?_
          refine x_if_le (M := M_X11_isCrossedFrom) (tgt := 64) dX11_isCrossedFrom_57 (by decide) (fun q4 => ?_) (fun q4 => ?_)
          · refine x_iconst (M := M_X11_isCrossedFrom) dX11_isCrossedFrom_64 ?_
            refine x_goto (M := M_X11_isCrossedFrom) (tgt := 78) dX11_isCrossedFrom_65 (by decide) ?_
            exact x_zret (M := M_X11_isCrossedFrom) dX11_isCrossedFrom_78 rfl (Or.inl rfl) ⟨by rw [f_X11_isCrossedFrom, if_neg q0, if_neg q1, if_neg q2, if_neg q3, if_pos q4], rfl⟩ (Nat.le_of_ble_eq_true rfl) (Nat.le_of_ble_eq_true rfl)
          · refine x_iconst (M := M_X11_isCrossedFrom) dX11_isCrossedFrom_60 ?_
            refine x_goto (M := M_X11_isCrossedFrom) (tgt := 78) dX11_isCrossedFrom_61 (by decide) ?_
            exact x_zret (M := M_X11_isCrossedFrom) dX11_isCrossedFrom_78 rfl (Or.inr rfl) ⟨by rw [f_X11_isCrossedFrom, if_neg q0, if_neg q1, if_neg q2, if_neg q3, if_neg q4], rfl⟩ (Nat.le_of_ble_eq_true rfl) (Nat.le_of_ble_eq_true rfl)
      · refine x_iconst (M := M_X11_isCrossedFrom) dX11_isCrossedFrom_29 ?_
        exact x_zret (M := M_X11_isCrossedFrom) dX11_isCrossedFrom_30 rfl (Or.inl rfl) ⟨by rw [f_X11_isCrossedFrom, if_neg q0, if_neg q1, if_pos q2], rfl⟩ (Nat.le_of_ble_eq_true rfl) (Nat.le_of_ble_eq_true rfl)
end PUR
