section PUR
def f_X11_signOfSum (w0 : Int64) (w1 : Int64) (w2 : Int64) (w3 : Int64) (w4 : Int64) (w5 : Int64) : Int32 := if (lg_cmp (((f_X11_highOf w0 w1) + ((f_X11_highOf w2 w3) + ((f_X11_carryOf ((w0 * w1) + (w2 * w3)) (w2 * w3)).toInt64))) + ((f_X11_highOf w4 w5) + ((f_X11_carryOf (((w0 * w1) + (w2 * w3)) + (w4 * w5)) (w4 * w5)).toInt64))) (Int64.ofNat ((0 : Fin 2) : Nat))) = 0 then if (lg_cmp (((w0 * w1) + (w2 * w3)) + (w4 * w5)) (Int64.ofNat ((0 : Fin 2) : Nat))) = 0 then (Int32.ofInt 0) else ((Int32.ofInt 1)) else ((f_J13_compare_74951 (((f_X11_highOf w0 w1) + ((f_X11_highOf w2 w3) + ((f_X11_carryOf ((w0 * w1) + (w2 * w3)) (w2 * w3)).toInt64))) + ((f_X11_highOf w4 w5) + ((f_X11_carryOf (((w0 * w1) + (w2 * w3)) + (w4 * w5)) (w4 * w5)).toInt64))) (Int64.ofNat ((0 : Fin 2) : Nat))))
theorem p_X11_signOfSum {l : Launch} {E : EE} (hl : l.stackTraces = false) {h : HP} {w0 : Int64} {w1 : Int64} {w2 : Int64} {w3 : Int64} {w4 : Int64} {w5 : Int64} : en_C l E M_X11_signOfSum 1 0 0 [.long w0, .long w1, .long w2, .long w3, .long w4, .long w5] h (pR (some (.int (f_X11_signOfSum w0 w1 w2 w3 w4 w5))) h) := by
  refine en_mk m_X11_signOfSum rfl hl (Nat.le_of_ble_eq_true rfl) ?_
  refine x_lload_n (M := M_X11_signOfSum) dX11_signOfSum_0 rfl ?_
  refine x_lload_n (M := M_X11_signOfSum) dX11_signOfSum_1 rfl ?_
  refine x_lmul (M := M_X11_signOfSum) dX11_signOfSum_2 ?_
  refine x_lstore (M := M_X11_signOfSum) dX11_signOfSum_3 (by decide) rfl ?_
  refine x_norm (lv' := [some (.long w0), none, some (.long w1), none, some (.long w2), none, some (.long w3), none, some (.long w4), none, some (.long w5), none, some (.long (w0 * w1)), none, none, none, none, none]) rfl rfl rfl rfl rfl ?_
  refine x_lload_n (M := M_X11_signOfSum) dX11_signOfSum_5 rfl ?_
  refine x_lload_n (M := M_X11_signOfSum) dX11_signOfSum_6 rfl ?_
  refine x_callSR (M := M_X11_signOfSum) (M' := M_X11_highOf) rfl rfl dX11_signOfSum_7 m_X11_highOf t_1940 t_1941 (p_X11_highOf hl) rfl rfl (Nat.le_of_ble_eq_true rfl) (Nat.le_of_ble_eq_true rfl) (Nat.le_of_ble_eq_true rfl) (Nat.le_of_ble_eq_true rfl) ?_
  refine x_lstore (M := M_X11_signOfSum) dX11_signOfSum_10 (by decide) rfl ?_
  refine x_norm (lv' := [some (.long w0), none, some (.long w1), none, some (.long w2), none, some (.long w3), none, some (.long w4), none, some (.long w5), none, some (.long (w0 * w1)), none, some (.long (f_X11_highOf w0 w1)), none, none, none]) rfl rfl rfl rfl rfl ?_
  refine x_lload (M := M_X11_signOfSum) dX11_signOfSum_12 rfl ?_
  refine x_lload (M := M_X11_signOfSum) dX11_signOfSum_14 rfl ?_
  refine x_lmul (M := M_X11_signOfSum) dX11_signOfSum_16 ?_
  refine x_lstore (M := M_X11_signOfSum) dX11_signOfSum_17 (by decide) rfl ?_
  refine x_norm (lv' := [some (.long w0), none, some (.long w1), none, some (.long w2), none, some (.long w3), none, some (.long w4), none, some (.long w5), none, some (.long (w0 * w1)), none, some (.long (f_X11_highOf w0 w1)), none, some (.long (w2 * w3)), none]) rfl rfl rfl rfl rfl ?_
  refine x_lload (M := M_X11_signOfSum) dX11_signOfSum_19 rfl ?_
  refine x_lload (M := M_X11_signOfSum) dX11_signOfSum_21 rfl ?_
  refine x_ladd (M := M_X11_signOfSum) dX11_signOfSum_23 ?_
  refine x_lstore (M := M_X11_signOfSum) dX11_signOfSum_24 (by decide) rfl ?_
  refine x_norm (lv' := [some (.long w0), none, some (.long w1), none, some (.long w2), none, some (.long w3), none, some (.long w4), none, some (.long w5), none, some (.long ((w0 * w1) + (w2 * w3))), none, some (.long (f_X11_highOf w0 w1)), none, some (.long (w2 * w3)), none]) rfl rfl rfl rfl rfl ?_
  refine x_lload (M := M_X11_signOfSum) dX11_signOfSum_26 rfl ?_
  refine x_lload (M := M_X11_signOfSum) dX11_signOfSum_28 rfl ?_
  refine x_lload (M := M_X11_signOfSum) dX11_signOfSum_30 rfl ?_
  refine x_callSR (M := M_X11_signOfSum) (M' := M_X11_highOf) rfl rfl dX11_signOfSum_32 m_X11_highOf t_1940 t_1941 (p_X11_highOf hl) rfl rfl (Nat.le_of_ble_eq_true rfl) (Nat.le_of_ble_eq_true rfl) (Nat.le_of_ble_eq_true rfl) (Nat.le_of_ble_eq_true rfl) ?_
  refine x_lload (M := M_X11_signOfSum) dX11_signOfSum_35 rfl ?_
  refine x_lload (M := M_X11_signOfSum) dX11_signOfSum_37 rfl ?_
  refine x_callSR (M := M_X11_signOfSum) (M' := M_X11_carryOf) rfl rfl dX11_signOfSum_39 m_X11_carryOf t_1943 t_1944 (p_X11_carryOf hl) rfl rfl (Nat.le_of_ble_eq_true rfl) (Nat.le_of_ble_eq_true rfl) (Nat.le_of_ble_eq_true rfl) (Nat.le_of_ble_eq_true rfl) ?_
  refine x_i2l (M := M_X11_signOfSum) dX11_signOfSum_42 ?_
  refine x_ladd (M := M_X11_signOfSum) dX11_signOfSum_43 ?_
  refine x_ladd (M := M_X11_signOfSum) dX11_signOfSum_44 ?_
  refine x_lstore (M := M_X11_signOfSum) dX11_signOfSum_45 (by decide) rfl ?_
  refine x_norm (lv' := [some (.long w0), none, some (.long w1), none, some (.long w2), none, some (.long w3), none, some (.long w4), none, some (.long w5), none, some (.long ((w0 * w1) + (w2 * w3))), none, some (.long ((f_X11_highOf w0 w1) + ((f_X11_highOf w2 w3) + ((f_X11_carryOf ((w0 * w1) + (w2 * w3)) (w2 * w3)).toInt64)))), none, some (.long (w2 * w3)), none]) rfl rfl rfl rfl rfl ?_
  refine x_lload (M := M_X11_signOfSum) dX11_signOfSum_47 rfl ?_
  refine x_lload (M := M_X11_signOfSum) dX11_signOfSum_49 rfl ?_
  refine x_lmul (M := M_X11_signOfSum) dX11_signOfSum_51 ?_
  refine x_lstore (M := M_X11_signOfSum) dX11_signOfSum_52 (by decide) rfl ?_
  refine x_norm (lv' := [some (.long w0), none, some (.long w1), none, some (.long w2), none, some (.long w3), none, some (.long w4), none, some (.long w5), none, some (.long ((w0 * w1) + (w2 * w3))), none, some (.long ((f_X11_highOf w0 w1) + ((f_X11_highOf w2 w3) + ((f_X11_carryOf ((w0 * w1) + (w2 * w3)) (w2 * w3)).toInt64)))), none, some (.long (w4 * w5)), none]) rfl rfl rfl rfl rfl ?_
  refine x_lload (M := M_X11_signOfSum) dX11_signOfSum_54 rfl ?_
  refine x_lload (M := M_X11_signOfSum) dX11_signOfSum_56 rfl ?_
  refine x_ladd (M := M_X11_signOfSum) dX11_signOfSum_58 ?_
  refine x_lstore (M := M_X11_signOfSum) dX11_signOfSum_59 (by decide) rfl ?_
  refine x_norm (lv' := [some (.long w0), none, some (.long w1), none, some (.long w2), none, some (.long w3), none, some (.long w4), none, some (.long w5), none, some (.long (((w0 * w1) + (w2 * w3)) + (w4 * w5))), none, some (.long ((f_X11_highOf w0 w1) + ((f_X11_highOf w2 w3) + ((f_X11_carryOf ((w0 * w1) + (w2 * w3)) (w2 * w3)).toInt64)))), none, some (.long (w4 * w5)), none]) rfl rfl rfl rfl rfl ?_
  refine x_lload (M := M_X11_signOfSum) dX11_signOfSum_61 rfl ?_
  refine x_lload (M := M_X11_signOfSum) dX11_signOfSum_63 rfl ?_
  refine x_lload (M := M_X11_signOfSum) dX11_signOfSum_65 rfl ?_
  refine x_callSR (M := M_X11_signOfSum) (M' := M_X11_highOf) rfl rfl dX11_signOfSum_67 m_X11_highOf t_1940 t_1941 (p_X11_highOf hl) rfl rfl (Nat.le_of_ble_eq_true rfl) (Nat.le_of_ble_eq_true rfl) (Nat.le_of_ble_eq_true rfl) (Nat.le_of_ble_eq_true rfl) ?_
  refine x_lload (M := M_X11_signOfSum) dX11_signOfSum_70 rfl ?_
  refine x_lload (M := M_X11_signOfSum) dX11_signOfSum_72 rfl ?_
  refine x_callSR (M := M_X11_signOfSum) (M' := M_X11_carryOf) rfl rfl dX11_signOfSum_74 m_X11_carryOf t_1943 t_1944 (p_X11_carryOf hl) rfl rfl (Nat.le_of_ble_eq_true rfl) (Nat.le_of_ble_eq_true rfl) (Nat.le_of_ble_eq_true rfl) (Nat.le_of_ble_eq_true rfl) ?_
  refine x_i2l (M := M_X11_signOfSum) dX11_signOfSum_77 ?_
  refine x_ladd (M := M_X11_signOfSum) dX11_signOfSum_78 ?_
  refine x_ladd (M := M_X11_signOfSum) dX11_signOfSum_79 ?_
  refine x_lstore (M := M_X11_signOfSum) dX11_signOfSum_80 (by decide) rfl ?_
  refine x_norm (lv' := [some (.long w0), none, some (.long w1), none, some (.long w2), none, some (.long w3), none, some (.long w4), none, some (.long w5), none, some (.long (((w0 * w1) + (w2 * w3)) + (w4 * w5))), none, some (.long (((f_X11_highOf w0 w1) + ((f_X11_highOf w2 w3) + ((f_X11_carryOf ((w0 * w1) + (w2 * w3)) (w2 * w3)).toInt64))) + ((f_X11_highOf w4 w5) + ((f_X11_carryOf (((w0 * w1) + (w2 * w3)) + (w4 * w5)) (w4 * w5)).toInt64)))), none, some (.long (w4 * w5)), none]) rfl rfl rfl rfl rfl ?_
  refine x_lload (M := M_X11_signOfSum) dX11_signOfSum_82 rfl ?_
  refine x_lconst (M := M_X11_signOfSum) dX11_signOfSum_84 ?_
  refine x_lcmp (M := M_X11_signOfSum) dX11_signOfSum_85 ?_
  refine x_if_eq (M := M_X11_signOfSum) (tgt := 98) dX11_signOfSum_86 (by decide) (fun q0 => ?_) (fun q0 => ?_)
  · refine x_lload (M := M_X11_signOfSum) dX11_signOfSum_98 rfl ?_
    refine x_lconst (M := M_X11_signOfSum) dX11_signOfSum_100 ?_
    refine x_lcmp (M := M_X11_signOfSum) dX11_signOfSum_101 ?_
    refine x_if_eq (M := M_X11_signOfSum) (tgt := 109) dX11_signOfSum_102 (by decide) (fun q1 => ?_) (fun q1 => ?_)
    · refine x_iconst (M := M_X11_signOfSum) dX11_signOfSum_109 ?_
      exact x_iret (M := M_X11_signOfSum) dX11_signOfSum_110 rfl ⟨by rw [f_X11_signOfSum, if_pos q0, if_pos q1], rfl⟩ (Nat.le_of_ble_eq_true rfl) (Nat.le_of_ble_eq_true rfl)
    · refine x_iconst (M := M_X11_signOfSum) dX11_signOfSum_105 ?_
      refine x_goto (M := M_X11_signOfSum) (tgt := 110) dX11_signOfSum_106 (by decide) ?_
      exact x_iret (M := M_X11_signOfSum) dX11_signOfSum_110 rfl ⟨by rw [f_X11_signOfSum, if_pos q0, if_neg q1], rfl⟩ (Nat.le_of_ble_eq_true rfl) (Nat.le_of_ble_eq_true rfl)
  · refine x_lload (M := M_X11_signOfSum) dX11_signOfSum_89 rfl ?_
    refine x_lconst (M := M_X11_signOfSum) dX11_signOfSum_91 ?_
    refine x_callSR (M := M_X11_signOfSum) (M' := M_J13_compare_74951) rfl rfl dX11_signOfSum_92 m_J13_compare_74951 t_1267 t_1268 (p_J13_compare_74951 hl) rfl rfl (Nat.le_of_ble_eq_true rfl) (Nat.le_of_ble_eq_true rfl) (Nat.le_of_ble_eq_true rfl) (Nat.le_of_ble_eq_true rfl) ?_
    refine x_goto (M := M_X11_signOfSum) (tgt := 110) dX11_signOfSum_95 (by decide) ?_
    exact x_iret (M := M_X11_signOfSum) dX11_signOfSum_110 rfl ⟨by rw [f_X11_signOfSum, if_neg q0], rfl⟩ (Nat.le_of_ble_eq_true rfl) (Nat.le_of_ble_eq_true rfl)
def f_X2_turnAt (c1 : Nat → Int32) (c2 : Nat → Int32) (w0 : Int32) (w1 : Int32) (w2 : Int32) : Int32 := (f_X11_turnOf ((c1 w0.toNatClampNeg).toInt64) ((c2 w0.toNatClampNeg).toInt64) ((c1 w1.toNatClampNeg).toInt64) ((c2 w1.toNatClampNeg).toInt64) ((c1 w2.toNatClampNeg).toInt64) ((c2 w2.toNatClampNeg).toInt64))
theorem p_X2_turnAt {l : Launch} {E : EE} (hl : l.stackTraces = false) {h : HP} {c1 : Nat → Int32} {c2 : Nat → Int32} {w0 : Int32} {w1 : Int32} {w2 : Int32} {a : Nat} {fs : List Value} (ha : ob h a = some (.inr (5, fs))) {r1 n1 : Nat} (e1 : fs[1]? = some (.ref r1)) (o1 : ob h r1 = some (.inl (0, n1, .inl c1))) {r2 n2 : Nat} (e2 : fs[2]? = some (.ref r2)) (o2 : ob h r2 = some (.inl (0, n2, .inl c2))) (i0 : vp_in w0 n1) (i1 : vp_in w0 n2) (i2 : vp_in w1 n1) (i3 : vp_in w1 n2) (i4 : vp_in w2 n1) (i5 : vp_in w2 n2) : en_C l E M_X2_turnAt 2 0 0 [.ref a, .int w0, .int w1, .int w2] h (pR (some (.int (f_X2_turnAt c1 c2 w0 w1 w2))) h) := by
  refine en_mk m_X2_turnAt rfl hl (Nat.le_of_ble_eq_true rfl) ?_
  refine x_aload_n (M := M_X2_turnAt) dX2_turnAt_0 rfl ?_
  refine x_getf (M := M_X2_turnAt) (ci := 5) (C := RX2) (T := TX2) (N := 17) (ty := tyX2) cl5 dX2_turnAt_1 ha 1 (by decide) t_486 e1 ?_
  refine x_iload_n (M := M_X2_turnAt) dX2_turnAt_4 rfl ?_
  refine x_iald (M := M_X2_turnAt) dX2_turnAt_5 o1 i0 ?_
  refine x_i2l (M := M_X2_turnAt) dX2_turnAt_6 ?_
  refine x_aload_n (M := M_X2_turnAt) dX2_turnAt_7 rfl ?_
  refine x_getf (M := M_X2_turnAt) (ci := 5) (C := RX2) (T := TX2) (N := 17) (ty := tyX2) cl5 dX2_turnAt_8 ha 2 (by decide) t_487 e2 ?_
  refine x_iload_n (M := M_X2_turnAt) dX2_turnAt_11 rfl ?_
  refine x_iald (M := M_X2_turnAt) dX2_turnAt_12 o2 i1 ?_
  refine x_i2l (M := M_X2_turnAt) dX2_turnAt_13 ?_
  refine x_aload_n (M := M_X2_turnAt) dX2_turnAt_14 rfl ?_
  refine x_getf (M := M_X2_turnAt) (ci := 5) (C := RX2) (T := TX2) (N := 17) (ty := tyX2) cl5 dX2_turnAt_15 ha 1 (by decide) t_486 e1 ?_
  refine x_iload_n (M := M_X2_turnAt) dX2_turnAt_18 rfl ?_
  refine x_iald (M := M_X2_turnAt) dX2_turnAt_19 o1 i2 ?_
  refine x_i2l (M := M_X2_turnAt) dX2_turnAt_20 ?_
  refine x_aload_n (M := M_X2_turnAt) dX2_turnAt_21 rfl ?_
  refine x_getf (M := M_X2_turnAt) (ci := 5) (C := RX2) (T := TX2) (N := 17) (ty := tyX2) cl5 dX2_turnAt_22 ha 2 (by decide) t_487 e2 ?_
  refine x_iload_n (M := M_X2_turnAt) dX2_turnAt_25 rfl ?_
  refine x_iald (M := M_X2_turnAt) dX2_turnAt_26 o2 i3 ?_
  refine x_i2l (M := M_X2_turnAt) dX2_turnAt_27 ?_
  refine x_aload_n (M := M_X2_turnAt) dX2_turnAt_28 rfl ?_
  refine x_getf (M := M_X2_turnAt) (ci := 5) (C := RX2) (T := TX2) (N := 17) (ty := tyX2) cl5 dX2_turnAt_29 ha 1 (by decide) t_486 e1 ?_
  refine x_iload_n (M := M_X2_turnAt) dX2_turnAt_32 rfl ?_
  refine x_iald (M := M_X2_turnAt) dX2_turnAt_33 o1 i4 ?_
  refine x_i2l (M := M_X2_turnAt) dX2_turnAt_34 ?_
  refine x_aload_n (M := M_X2_turnAt) dX2_turnAt_35 rfl ?_
  refine x_getf (M := M_X2_turnAt) (ci := 5) (C := RX2) (T := TX2) (N := 17) (ty := tyX2) cl5 dX2_turnAt_36 ha 2 (by decide) t_487 e2 ?_
  refine x_iload_n (M := M_X2_turnAt) dX2_turnAt_39 rfl ?_
  refine x_iald (M := M_X2_turnAt) dX2_turnAt_40 o2 i5 ?_
  refine x_i2l (M := M_X2_turnAt) dX2_turnAt_41 ?_
  refine x_callSNR (M := M_X2_turnAt) (M' := M_X11_turnOf) rfl rfl dX2_turnAt_42 m_X11_turnOf n_2117 t_1265 (p_X11_turnOf hl) rfl rfl (Nat.le_of_ble_eq_true rfl) (Nat.le_of_ble_eq_true rfl) (Nat.le_of_ble_eq_true rfl) (Nat.le_of_ble_eq_true rfl) ?_
  exact x_iret (M := M_X2_turnAt) dX2_turnAt_45 rfl ⟨rfl, rfl⟩ (Nat.le_of_ble_eq_true rfl) (Nat.le_of_ble_eq_true rfl)
def f_X2_circleSign (c1 : Nat → Int32) (c2 : Nat → Int32) (w0 : Int32) (w1 : Int32) (w2 : Int32) (w3 : Int32) : Int32 := (f_X11_signOfSum (((((c1 w0.toNatClampNeg).toInt64) - ((c1 w3.toNatClampNeg).toInt64)) * (((c1 w0.toNatClampNeg).toInt64) - ((c1 w3.toNatClampNeg).toInt64))) + ((((c2 w0.toNatClampNeg).toInt64) - ((c2 w3.toNatClampNeg).toInt64)) * (((c2 w0.toNatClampNeg).toInt64) - ((c2 w3.toNatClampNeg).toInt64)))) (((((c1 w1.toNatClampNeg).toInt64) - ((c1 w3.toNatClampNeg).toInt64)) * (((c2 w2.toNatClampNeg).toInt64) - ((c2 w3.toNatClampNeg).toInt64))) - ((((c2 w1.toNatClampNeg).toInt64) - ((c2 w3.toNatClampNeg).toInt64)) * (((c1 w2.toNatClampNeg).toInt64) - ((c1 w3.toNatClampNeg).toInt64)))) (((((c1 w1.toNatClampNeg).toInt64) - ((c1 w3.toNatClampNeg).toInt64)) * (((c1 w1.toNatClampNeg).toInt64) - ((c1 w3.toNatClampNeg).toInt64))) + ((((c2 w1.toNatClampNeg).toInt64) - ((c2 w3.toNatClampNeg).toInt64)) * (((c2 w1.toNatClampNeg).toInt64) - ((c2 w3.toNatClampNeg).toInt64)))) (((((c1 w2.toNatClampNeg).toInt64) - ((c1 w3.toNatClampNeg).toInt64)) * (((c2 w0.toNatClampNeg).toInt64) - ((c2 w3.toNatClampNeg).toInt64))) - ((((c2 w2.toNatClampNeg).toInt64) - ((c2 w3.toNatClampNeg).toInt64)) * (((c1 w0.toNatClampNeg).toInt64) - ((c1 w3.toNatClampNeg).toInt64)))) (((((c1 w2.toNatClampNeg).toInt64) - ((c1 w3.toNatClampNeg).toInt64)) * (((c1 w2.toNatClampNeg).toInt64) - ((c1 w3.toNatClampNeg).toInt64))) + ((((c2 w2.toNatClampNeg).toInt64) - ((c2 w3.toNatClampNeg).toInt64)) * (((c2 w2.toNatClampNeg).toInt64) - ((c2 w3.toNatClampNeg).toInt64)))) (((((c1 w0.toNatClampNeg).toInt64) - ((c1 w3.toNatClampNeg).toInt64)) * (((c2 w1.toNatClampNeg).toInt64) - ((c2 w3.toNatClampNeg).toInt64))) - ((((c2 w0.toNatClampNeg).toInt64) - ((c2 w3.toNatClampNeg).toInt64)) * (((c1 w1.toNatClampNeg).toInt64) - ((c1 w3.toNatClampNeg).toInt64)))))
set_option maxHeartbeats 8000000 in
set_option maxRecDepth 20000 in
theorem p_X2_circleSign {l : Launch} {E : EE} (hl : l.stackTraces = false) {h : HP} {c1 : Nat → Int32} {c2 : Nat → Int32} {w0 : Int32} {w1 : Int32} {w2 : Int32} {w3 : Int32} {a : Nat} {fs : List Value} (ha : ob h a = some (.inr (5, fs))) {r1 n1 : Nat} (e1 : fs[1]? = some (.ref r1)) (o1 : ob h r1 = some (.inl (0, n1, .inl c1))) {r2 n2 : Nat} (e2 : fs[2]? = some (.ref r2)) (o2 : ob h r2 = some (.inl (0, n2, .inl c2))) (i0 : vp_in w0 n1) (i1 : vp_in w3 n1) (i2 : vp_in w0 n2) (i3 : vp_in w3 n2) (i4 : vp_in w1 n1) (i5 : vp_in w3 n1) (i6 : vp_in w1 n2) (i7 : vp_in w3 n2) (i8 : vp_in w2 n1) (i9 : vp_in w3 n1) (i10 : vp_in w2 n2) (i11 : vp_in w3 n2) : en_C l E M_X2_circleSign 2 0 0 [.ref a, .int w0, .int w1, .int w2, .int w3] h (pR (some (.int (f_X2_circleSign c1 c2 w0 w1 w2 w3))) h) := by
  refine en_mk m_X2_circleSign rfl hl (Nat.le_of_ble_eq_true rfl) ?_
  refine x_aload_n (M := M_X2_circleSign) dX2_circleSign_0 rfl ?_
  refine x_getf (M := M_X2_circleSign) (ci := 5) (C := RX2) (T := TX2) (N := 17) (ty := tyX2) cl5 dX2_circleSign_1 ha 1 (by decide) t_486 e1 ?_
  refine x_iload_n (M := M_X2_circleSign) dX2_circleSign_4 rfl ?_
  refine x_iald (M := M_X2_circleSign) dX2_circleSign_5 o1 i0 ?_
  refine x_i2l (M := M_X2_circleSign) dX2_circleSign_6 ?_
  refine x_aload_n (M := M_X2_circleSign) dX2_circleSign_7 rfl ?_
  refine x_getf (M := M_X2_circleSign) (ci := 5) (C := RX2) (T := TX2) (N := 17) (ty := tyX2) cl5 dX2_circleSign_8 ha 1 (by decide) t_486 e1 ?_
  refine x_iload (M := M_X2_circleSign) dX2_circleSign_11 rfl ?_
  refine x_iald (M := M_X2_circleSign) dX2_circleSign_13 o1 i1 ?_
  refine x_i2l (M := M_X2_circleSign) dX2_circleSign_14 ?_
  refine x_lsub (M := M_X2_circleSign) dX2_circleSign_15 ?_
  refine x_lstore (M := M_X2_circleSign) dX2_circleSign_16 (by decide) rfl ?_
  refine x_norm (lv' := [some (.ref a), some (.int w0), some (.int w1), some (.int w2), some (.int w3), some (.long (((c1 w0.toNatClampNeg).toInt64) - ((c1 w3.toNatClampNeg).toInt64))), none, none, none, none, none, none, none, none, none, none, none]) rfl rfl rfl rfl rfl ?_
  refine x_aload_n (M := M_X2_circleSign) dX2_circleSign_18 rfl ?_
  refine x_getf (M := M_X2_circleSign) (ci := 5) (C := RX2) (T := TX2) (N := 17) (ty := tyX2) cl5 dX2_circleSign_19 ha 2 (by decide) t_487 e2 ?_
  refine x_iload_n (M := M_X2_circleSign) dX2_circleSign_22 rfl ?_
  refine x_iald (M := M_X2_circleSign) dX2_circleSign_23 o2 i2 ?_
  refine x_i2l (M := M_X2_circleSign) dX2_circleSign_24 ?_
  refine x_aload_n (M := M_X2_circleSign) dX2_circleSign_25 rfl ?_
  refine x_getf (M := M_X2_circleSign) (ci := 5) (C := RX2) (T := TX2) (N := 17) (ty := tyX2) cl5 dX2_circleSign_26 ha 2 (by decide) t_487 e2 ?_
  refine x_iload (M := M_X2_circleSign) dX2_circleSign_29 rfl ?_
  refine x_iald (M := M_X2_circleSign) dX2_circleSign_31 o2 i3 ?_
  refine x_i2l (M := M_X2_circleSign) dX2_circleSign_32 ?_
  refine x_lsub (M := M_X2_circleSign) dX2_circleSign_33 ?_
  refine x_lstore (M := M_X2_circleSign) dX2_circleSign_34 (by decide) rfl ?_
  refine x_norm (lv' := [some (.ref a), some (.int w0), some (.int w1), some (.int w2), some (.int w3), some (.long (((c1 w0.toNatClampNeg).toInt64) - ((c1 w3.toNatClampNeg).toInt64))), none, some (.long (((c2 w0.toNatClampNeg).toInt64) - ((c2 w3.toNatClampNeg).toInt64))), none, none, none, none, none, none, none, none, none]) rfl rfl rfl rfl rfl ?_
  refine x_aload_n (M := M_X2_circleSign) dX2_circleSign_36 rfl ?_
  refine x_getf (M := M_X2_circleSign) (ci := 5) (C := RX2) (T := TX2) (N := 17) (ty := tyX2) cl5 dX2_circleSign_37 ha 1 (by decide) t_486 e1 ?_
  refine x_iload_n (M := M_X2_circleSign) dX2_circleSign_40 rfl ?_
  refine x_iald (M := M_X2_circleSign) dX2_circleSign_41 o1 i4 ?_
  refine x_i2l (M := M_X2_circleSign) dX2_circleSign_42 ?_
  refine x_aload_n (M := M_X2_circleSign) dX2_circleSign_43 rfl ?_
  refine x_getf (M := M_X2_circleSign) (ci := 5) (C := RX2) (T := TX2) (N := 17) (ty := tyX2) cl5 dX2_circleSign_44 ha 1 (by decide) t_486 e1 ?_
  refine x_iload (M := M_X2_circleSign) dX2_circleSign_47 rfl ?_
  refine x_iald (M := M_X2_circleSign) dX2_circleSign_49 o1 i5 ?_
  refine x_i2l (M := M_X2_circleSign) dX2_circleSign_50 ?_
  refine x_lsub (M := M_X2_circleSign) dX2_circleSign_51 ?_
  refine x_lstore (M := M_X2_circleSign) dX2_circleSign_52 (by decide) rfl ?_
  refine x_norm (lv' := [some (.ref a), some (.int w0), some (.int w1), some (.int w2), some (.int w3), some (.long (((c1 w0.toNatClampNeg).toInt64) - ((c1 w3.toNatClampNeg).toInt64))), none, some (.long (((c2 w0.toNatClampNeg).toInt64) - ((c2 w3.toNatClampNeg).toInt64))), none, some (.long (((c1 w1.toNatClampNeg).toInt64) - ((c1 w3.toNatClampNeg).toInt64))), none, none, none, none, none, none, none]) rfl rfl rfl rfl rfl ?_
  refine x_aload_n (M := M_X2_circleSign) dX2_circleSign_54 rfl ?_
  refine x_getf (M := M_X2_circleSign) (ci := 5) (C := RX2) (T := TX2) (N := 17) (ty := tyX2) cl5 dX2_circleSign_55 ha 2 (by decide) t_487 e2 ?_
  refine x_iload_n (M := M_X2_circleSign) dX2_circleSign_58 rfl ?_
  refine x_iald (M := M_X2_circleSign) dX2_circleSign_59 o2 i6 ?_
  refine x_i2l (M := M_X2_circleSign) dX2_circleSign_60 ?_
  refine x_aload_n (M := M_X2_circleSign) dX2_circleSign_61 rfl ?_
  refine x_getf (M := M_X2_circleSign) (ci := 5) (C := RX2) (T := TX2) (N := 17) (ty := tyX2) cl5 dX2_circleSign_62 ha 2 (by decide) t_487 e2 ?_
  refine x_iload (M := M_X2_circleSign) dX2_circleSign_65 rfl ?_
  refine x_iald (M := M_X2_circleSign) dX2_circleSign_67 o2 i7 ?_
  refine x_i2l (M := M_X2_circleSign) dX2_circleSign_68 ?_
  refine x_lsub (M := M_X2_circleSign) dX2_circleSign_69 ?_
  refine x_lstore (M := M_X2_circleSign) dX2_circleSign_70 (by decide) rfl ?_
  refine x_norm (lv' := [some (.ref a), some (.int w0), some (.int w1), some (.int w2), some (.int w3), some (.long (((c1 w0.toNatClampNeg).toInt64) - ((c1 w3.toNatClampNeg).toInt64))), none, some (.long (((c2 w0.toNatClampNeg).toInt64) - ((c2 w3.toNatClampNeg).toInt64))), none, some (.long (((c1 w1.toNatClampNeg).toInt64) - ((c1 w3.toNatClampNeg).toInt64))), none, some (.long (((c2 w1.toNatClampNeg).toInt64) - ((c2 w3.toNatClampNeg).toInt64))), none, none, none, none, none]) rfl rfl rfl rfl rfl ?_
  refine x_aload_n (M := M_X2_circleSign) dX2_circleSign_72 rfl ?_
  refine x_getf (M := M_X2_circleSign) (ci := 5) (C := RX2) (T := TX2) (N := 17) (ty := tyX2) cl5 dX2_circleSign_73 ha 1 (by decide) t_486 e1 ?_
  refine x_iload_n (M := M_X2_circleSign) dX2_circleSign_76 rfl ?_
  refine x_iald (M := M_X2_circleSign) dX2_circleSign_77 o1 i8 ?_
  refine x_i2l (M := M_X2_circleSign) dX2_circleSign_78 ?_
  refine x_aload_n (M := M_X2_circleSign) dX2_circleSign_79 rfl ?_
  refine x_getf (M := M_X2_circleSign) (ci := 5) (C := RX2) (T := TX2) (N := 17) (ty := tyX2) cl5 dX2_circleSign_80 ha 1 (by decide) t_486 e1 ?_
  refine x_iload (M := M_X2_circleSign) dX2_circleSign_83 rfl ?_
  refine x_iald (M := M_X2_circleSign) dX2_circleSign_85 o1 i9 ?_
  refine x_i2l (M := M_X2_circleSign) dX2_circleSign_86 ?_
  refine x_lsub (M := M_X2_circleSign) dX2_circleSign_87 ?_
  refine x_lstore (M := M_X2_circleSign) dX2_circleSign_88 (by decide) rfl ?_
  refine x_norm (lv' := [some (.ref a), some (.int w0), some (.int w1), some (.int w2), some (.int w3), some (.long (((c1 w0.toNatClampNeg).toInt64) - ((c1 w3.toNatClampNeg).toInt64))), none, some (.long (((c2 w0.toNatClampNeg).toInt64) - ((c2 w3.toNatClampNeg).toInt64))), none, some (.long (((c1 w1.toNatClampNeg).toInt64) - ((c1 w3.toNatClampNeg).toInt64))), none, some (.long (((c2 w1.toNatClampNeg).toInt64) - ((c2 w3.toNatClampNeg).toInt64))), none, some (.long (((c1 w2.toNatClampNeg).toInt64) - ((c1 w3.toNatClampNeg).toInt64))), none, none, none]) rfl rfl rfl rfl rfl ?_
  refine x_aload_n (M := M_X2_circleSign) dX2_circleSign_90 rfl ?_
  refine x_getf (M := M_X2_circleSign) (ci := 5) (C := RX2) (T := TX2) (N := 17) (ty := tyX2) cl5 dX2_circleSign_91 ha 2 (by decide) t_487 e2 ?_
  refine x_iload_n (M := M_X2_circleSign) dX2_circleSign_94 rfl ?_
  refine x_iald (M := M_X2_circleSign) dX2_circleSign_95 o2 i10 ?_
  refine x_i2l (M := M_X2_circleSign) dX2_circleSign_96 ?_
  refine x_aload_n (M := M_X2_circleSign) dX2_circleSign_97 rfl ?_
  refine x_getf (M := M_X2_circleSign) (ci := 5) (C := RX2) (T := TX2) (N := 17) (ty := tyX2) cl5 dX2_circleSign_98 ha 2 (by decide) t_487 e2 ?_
  refine x_iload (M := M_X2_circleSign) dX2_circleSign_101 rfl ?_
  refine x_iald (M := M_X2_circleSign) dX2_circleSign_103 o2 i11 ?_
  refine x_i2l (M := M_X2_circleSign) dX2_circleSign_104 ?_
  refine x_lsub (M := M_X2_circleSign) dX2_circleSign_105 ?_
  refine x_lstore (M := M_X2_circleSign) dX2_circleSign_106 (by decide) rfl ?_
  refine x_norm (lv' := [some (.ref a), some (.int w0), some (.int w1), some (.int w2), some (.int w3), some (.long (((c1 w0.toNatClampNeg).toInt64) - ((c1 w3.toNatClampNeg).toInt64))), none, some (.long (((c2 w0.toNatClampNeg).toInt64) - ((c2 w3.toNatClampNeg).toInt64))), none, some (.long (((c1 w1.toNatClampNeg).toInt64) - ((c1 w3.toNatClampNeg).toInt64))), none, some (.long (((c2 w1.toNatClampNeg).toInt64) - ((c2 w3.toNatClampNeg).toInt64))), none, some (.long (((c1 w2.toNatClampNeg).toInt64) - ((c1 w3.toNatClampNeg).toInt64))), none, some (.long (((c2 w2.toNatClampNeg).toInt64) - ((c2 w3.toNatClampNeg).toInt64))), none]) rfl rfl rfl rfl rfl ?_
  refine x_lload (M := M_X2_circleSign) dX2_circleSign_108 rfl ?_
  refine x_lload (M := M_X2_circleSign) dX2_circleSign_110 rfl ?_
  refine x_lmul (M := M_X2_circleSign) dX2_circleSign_112 ?_
  refine x_lload (M := M_X2_circleSign) dX2_circleSign_113 rfl ?_
  refine x_lload (M := M_X2_circleSign) dX2_circleSign_115 rfl ?_
  refine x_lmul (M := M_X2_circleSign) dX2_circleSign_117 ?_
  refine x_ladd (M := M_X2_circleSign) dX2_circleSign_118 ?_
  refine x_lload (M := M_X2_circleSign) dX2_circleSign_119 rfl ?_
  refine x_lload (M := M_X2_circleSign) dX2_circleSign_121 rfl ?_
  refine x_lmul (M := M_X2_circleSign) dX2_circleSign_123 ?_
  refine x_lload (M := M_X2_circleSign) dX2_circleSign_124 rfl ?_
  refine x_lload (M := M_X2_circleSign) dX2_circleSign_126 rfl ?_
  refine x_lmul (M := M_X2_circleSign) dX2_circleSign_128 ?_
  refine x_lsub (M := M_X2_circleSign) dX2_circleSign_129 ?_
  refine x_lload (M := M_X2_circleSign) dX2_circleSign_130 rfl ?_
  refine x_lload (M := M_X2_circleSign) dX2_circleSign_132 rfl ?_
  refine x_lmul (M := M_X2_circleSign) dX2_circleSign_134 ?_
  refine x_lload (M := M_X2_circleSign) dX2_circleSign_135 rfl ?_
  refine x_lload (M := M_X2_circleSign) dX2_circleSign_137 rfl ?_
  refine x_lmul (M := M_X2_circleSign) dX2_circleSign_139 ?_
  refine x_ladd (M := M_X2_circleSign) dX2_circleSign_140 ?_
  refine x_lload (M := M_X2_circleSign) dX2_circleSign_141 rfl ?_
  refine x_lload (M := M_X2_circleSign) dX2_circleSign_143 rfl ?_
  refine x_lmul (M := M_X2_circleSign) dX2_circleSign_145 ?_
  refine x_lload (M := M_X2_circleSign) dX2_circleSign_146 rfl ?_
  refine x_lload (M := M_X2_circleSign) dX2_circleSign_148 rfl ?_
  refine x_lmul (M := M_X2_circleSign) dX2_circleSign_150 ?_
  refine x_lsub (M := M_X2_circleSign) dX2_circleSign_151 ?_
  refine x_lload (M := M_X2_circleSign) dX2_circleSign_152 rfl ?_
  refine x_lload (M := M_X2_circleSign) dX2_circleSign_154 rfl ?_
  refine x_lmul (M := M_X2_circleSign) dX2_circleSign_156 ?_
  refine x_lload (M := M_X2_circleSign) dX2_circleSign_157 rfl ?_
  refine x_lload (M := M_X2_circleSign) dX2_circleSign_159 rfl ?_
  refine x_lmul (M := M_X2_circleSign) dX2_circleSign_161 ?_
  refine x_ladd (M := M_X2_circleSign) dX2_circleSign_162 ?_
  refine x_lload (M := M_X2_circleSign) dX2_circleSign_163 rfl ?_
  refine x_lload (M := M_X2_circleSign) dX2_circleSign_165 rfl ?_
  refine x_lmul (M := M_X2_circleSign) dX2_circleSign_167 ?_
  refine x_lload (M := M_X2_circleSign) dX2_circleSign_168 rfl ?_
  refine x_lload (M := M_X2_circleSign) dX2_circleSign_170 rfl ?_
  refine x_lmul (M := M_X2_circleSign) dX2_circleSign_172 ?_
  refine x_lsub (M := M_X2_circleSign) dX2_circleSign_173 ?_
  refine x_callSNR (M := M_X2_circleSign) (M' := M_X11_signOfSum) rfl rfl dX2_circleSign_174 m_X11_signOfSum n_2161 t_1938 (p_X11_signOfSum hl) rfl rfl (Nat.le_of_ble_eq_true rfl) (Nat.le_of_ble_eq_true rfl) (Nat.le_of_ble_eq_true rfl) (Nat.le_of_ble_eq_true rfl) ?_
  exact x_iret (M := M_X2_circleSign) dX2_circleSign_177 rfl ⟨rfl, rfl⟩ (Nat.le_of_ble_eq_true rfl) (Nat.le_of_ble_eq_true rfl)
def f_X2_isFarther (w0 : Int32) (w1 : Int64) (w2 : Int32) (w3 : Int64) (w4 : Int64) : Int32 := if w0 = w2 then if (lg_cmp w1 w3) ≤ 0 then (Int32.ofInt 0) else ((Int32.ofInt 1)) else (if w0 = 0 then if (f_X11_signOfSum w1 w4 (-w3) w3 (Int64.ofNat ((0 : Fin 2) : Nat)) (Int64.ofNat ((0 : Fin 2) : Nat))) ≤ 0 then (Int32.ofInt 0) else ((Int32.ofInt 1)) else (if (f_X11_signOfSum w1 w1 (-w3) w4 (Int64.ofNat ((0 : Fin 2) : Nat)) (Int64.ofNat ((0 : Fin 2) : Nat))) ≤ 0 then (Int32.ofInt 0) else ((Int32.ofInt 1))))
theorem b_X2_isFarther (w0 : Int32) (w1 : Int64) (w2 : Int32) (w3 : Int64) (w4 : Int64) : f_X2_isFarther w0 w1 w2 w3 w4 = 0 ∨ f_X2_isFarther w0 w1 w2 w3 w4 = 1 := (ite01 (ite01 (Or.inl rfl) (Or.inr rfl)) (ite01 (ite01 (Or.inl rfl) (Or.inr rfl)) (ite01 (Or.inl rfl) (Or.inr rfl))))
theorem p_X2_isFarther {l : Launch} {E : EE} (hl : l.stackTraces = false) {h : HP} {w0 : Int32} {w1 : Int64} {w2 : Int32} {w3 : Int64} {w4 : Int64} : en_C l E M_X2_isFarther 2 0 0 [.int w0, .long w1, .int w2, .long w3, .long w4] h (pR (some (.int (f_X2_isFarther w0 w1 w2 w3 w4))) h) := by
  refine en_mk m_X2_isFarther rfl hl (Nat.le_of_ble_eq_true rfl) ?_
  refine x_iload_n (M := M_X2_isFarther) dX2_isFarther_0 rfl ?_
  refine x_iload_n (M := M_X2_isFarther) dX2_isFarther_1 rfl ?_
  refine x_icmp_ne (M := M_X2_isFarther) (tgt := 18) dX2_isFarther_2 (by decide) (fun q0 => ?_) (fun q0 => ?_)
  · refine x_iload_n (M := M_X2_isFarther) dX2_isFarther_18 rfl ?_
    refine x_if_eq (M := M_X2_isFarther) (tgt := 45) dX2_isFarther_19 (by decide) (fun q1 => ?_) (fun q1 => ?_)
    · refine x_lload_n (M := M_X2_isFarther) dX2_isFarther_45 rfl ?_
      refine x_lload (M := M_X2_isFarther) dX2_isFarther_46 rfl ?_
      refine x_lload (M := M_X2_isFarther) dX2_isFarther_48 rfl ?_
      refine x_lneg (M := M_X2_isFarther) dX2_isFarther_50 ?_
      refine x_lload (M := M_X2_isFarther) dX2_isFarther_51 rfl ?_
      refine x_lconst (M := M_X2_isFarther) dX2_isFarther_53 ?_
      refine x_lconst (M := M_X2_isFarther) dX2_isFarther_54 ?_
      refine x_callSNR (M := M_X2_isFarther) (M' := M_X11_signOfSum) rfl rfl dX2_isFarther_55 m_X11_signOfSum n_2161 t_1938 (p_X11_signOfSum hl) rfl rfl (Nat.le_of_ble_eq_true rfl) (Nat.le_of_ble_eq_true rfl) (Nat.le_of_ble_eq_true rfl) (Nat.le_of_ble_eq_true rfl) ?_
      refine x_if_le (M := M_X2_isFarther) (tgt := 65) dX2_isFarther_58 (by decide) (fun q2 => ?_) (fun q2 => ?_)
      · refine x_iconst (M := M_X2_isFarther) dX2_isFarther_65 ?_
        exact x_zret (M := M_X2_isFarther) dX2_isFarther_66 rfl (Or.inl rfl) ⟨by rw [f_X2_isFarther, if_neg q0, if_pos q1, if_pos q2], rfl⟩ (Nat.le_of_ble_eq_true rfl) (Nat.le_of_ble_eq_true rfl)
      · refine x_iconst (M := M_X2_isFarther) dX2_isFarther_61 ?_
        refine x_goto (M := M_X2_isFarther) (tgt := 66) dX2_isFarther_62 (by decide) ?_
        exact x_zret (M := M_X2_isFarther) dX2_isFarther_66 rfl (Or.inr rfl) ⟨by rw [f_X2_isFarther, if_neg q0, if_pos q1, if_neg q2], rfl⟩ (Nat.le_of_ble_eq_true rfl) (Nat.le_of_ble_eq_true rfl)
    · refine x_lload_n (M := M_X2_isFarther) dX2_isFarther_22 rfl ?_
      refine x_lload_n (M := M_X2_isFarther) dX2_isFarther_23 rfl ?_
      refine x_lload (M := M_X2_isFarther) dX2_isFarther_24 rfl ?_
      refine x_lneg (M := M_X2_isFarther) dX2_isFarther_26 ?_
      refine x_lload (M := M_X2_isFarther) dX2_isFarther_27 rfl ?_
      refine x_lconst (M := M_X2_isFarther) dX2_isFarther_29 ?_
      refine x_lconst (M := M_X2_isFarther) dX2_isFarther_30 ?_
      refine x_callSNR (M := M_X2_isFarther) (M' := M_X11_signOfSum) rfl rfl dX2_isFarther_31 m_X11_signOfSum n_2161 t_1938 (p_X11_signOfSum hl) rfl rfl (Nat.le_of_ble_eq_true rfl) (Nat.le_of_ble_eq_true rfl) (Nat.le_of_ble_eq_true rfl) (Nat.le_of_ble_eq_true rfl) ?_
      refine x_if_le (M := M_X2_isFarther) (tgt := 41) dX2_isFarther_34 (by decide) (fun q2 => ?_) (fun q2 => ?_)
      · refine x_iconst (M := M_X2_isFarther) dX2_isFarther_41 ?_
        refine x_goto (M := M_X2_isFarther) (tgt := 66) dX2_isFarther_42 (by decide) ?_
        exact x_zret (M := M_X2_isFarther) dX2_isFarther_66 rfl (Or.inl rfl) ⟨by rw [f_X2_isFarther, if_neg q0, if_neg q1, if_pos q2], rfl⟩ (Nat.le_of_ble_eq_true rfl) (Nat.le_of_ble_eq_true rfl)
      · refine x_iconst (M := M_X2_isFarther) dX2_isFarther_37 ?_
        refine x_goto (M := M_X2_isFarther) (tgt := 66) dX2_isFarther_38 (by decide) ?_
        exact x_zret (M := M_X2_isFarther) dX2_isFarther_66 rfl (Or.inr rfl) ⟨by rw [f_X2_isFarther, if_neg q0, if_neg q1, if_neg q2], rfl⟩ (Nat.le_of_ble_eq_true rfl) (Nat.le_of_ble_eq_true rfl)
  · refine x_lload_n (M := M_X2_isFarther) dX2_isFarther_5 rfl ?_
    refine x_lload (M := M_X2_isFarther) dX2_isFarther_6 rfl ?_
    refine x_lcmp (M := M_X2_isFarther) dX2_isFarther_8 ?_
    refine x_if_le (M := M_X2_isFarther) (tgt := 16) dX2_isFarther_9 (by decide) (fun q1 => ?_) (fun q1 => ?_)
    · refine x_iconst (M := M_X2_isFarther) dX2_isFarther_16 ?_
      exact x_zret (M := M_X2_isFarther) dX2_isFarther_17 rfl (Or.inl rfl) ⟨by rw [f_X2_isFarther, if_pos q0, if_pos q1], rfl⟩ (Nat.le_of_ble_eq_true rfl) (Nat.le_of_ble_eq_true rfl)
    · refine x_iconst (M := M_X2_isFarther) dX2_isFarther_12 ?_
      refine x_goto (M := M_X2_isFarther) (tgt := 17) dX2_isFarther_13 (by decide) ?_
      exact x_zret (M := M_X2_isFarther) dX2_isFarther_17 rfl (Or.inr rfl) ⟨by rw [f_X2_isFarther, if_pos q0, if_neg q1], rfl⟩ (Nat.le_of_ble_eq_true rfl) (Nat.le_of_ble_eq_true rfl)
def f_X5_turn (c0 : Nat → Int32) (c1 : Nat → Int32) (c2 : Nat → Int32) (c3 : Nat → Int32) (w0 : Int32) (w1 : Int32) (w2 : Int32) : Int32 := (f_X11_turnOf ((c0 w0.toNatClampNeg).toInt64) ((c1 w0.toNatClampNeg).toInt64) ((c2 w0.toNatClampNeg).toInt64) ((c3 w0.toNatClampNeg).toInt64) (w1.toInt64) (w2.toInt64))
theorem p_X5_turn {l : Launch} {E : EE} (hl : l.stackTraces = false) {h : HP} {c0 : Nat → Int32} {c1 : Nat → Int32} {c2 : Nat → Int32} {c3 : Nat → Int32} {w0 : Int32} {w1 : Int32} {w2 : Int32} {a : Nat} {fs : List Value} (ha : ob h a = some (.inr (8, fs))) {r0 n0 : Nat} (e0 : fs[0]? = some (.ref r0)) (o0 : ob h r0 = some (.inl (0, n0, .inl c0))) {r1 n1 : Nat} (e1 : fs[1]? = some (.ref r1)) (o1 : ob h r1 = some (.inl (0, n1, .inl c1))) {r2 n2 : Nat} (e2 : fs[2]? = some (.ref r2)) (o2 : ob h r2 = some (.inl (0, n2, .inl c2))) {r3 n3 : Nat} (e3 : fs[3]? = some (.ref r3)) (o3 : ob h r3 = some (.inl (0, n3, .inl c3))) (i0 : vp_in w0 n0) (i1 : vp_in w0 n1) (i2 : vp_in w0 n2) (i3 : vp_in w0 n3) : en_C l E M_X5_turn 2 0 0 [.ref a, .int w0, .int w1, .int w2] h (pR (some (.int (f_X5_turn c0 c1 c2 c3 w0 w1 w2))) h) := by
  refine en_mk m_X5_turn rfl hl (Nat.le_of_ble_eq_true rfl) ?_
  refine x_aload_n (M := M_X5_turn) dX5_turn_0 rfl ?_
  refine x_getf (M := M_X5_turn) (ci := 8) (C := RX5) (T := TX5) (N := 8) (ty := tyX5) cl8 dX5_turn_1 ha 0 (by decide) t_234 e0 ?_
  refine x_iload_n (M := M_X5_turn) dX5_turn_4 rfl ?_
  refine x_iald (M := M_X5_turn) dX5_turn_5 o0 i0 ?_
  refine x_i2l (M := M_X5_turn) dX5_turn_6 ?_
  refine x_aload_n (M := M_X5_turn) dX5_turn_7 rfl ?_
  refine x_getf (M := M_X5_turn) (ci := 8) (C := RX5) (T := TX5) (N := 8) (ty := tyX5) cl8 dX5_turn_8 ha 1 (by decide) t_238 e1 ?_
  refine x_iload_n (M := M_X5_turn) dX5_turn_11 rfl ?_
  refine x_iald (M := M_X5_turn) dX5_turn_12 o1 i1 ?_
  refine x_i2l (M := M_X5_turn) dX5_turn_13 ?_
  refine x_aload_n (M := M_X5_turn) dX5_turn_14 rfl ?_
  refine x_getf (M := M_X5_turn) (ci := 8) (C := RX5) (T := TX5) (N := 8) (ty := tyX5) cl8 dX5_turn_15 ha 2 (by decide) t_242 e2 ?_
  refine x_iload_n (M := M_X5_turn) dX5_turn_18 rfl ?_
  refine x_iald (M := M_X5_turn) dX5_turn_19 o2 i2 ?_
  refine x_i2l (M := M_X5_turn) dX5_turn_20 ?_
  refine x_aload_n (M := M_X5_turn) dX5_turn_21 rfl ?_
  refine x_getf (M := M_X5_turn) (ci := 8) (C := RX5) (T := TX5) (N := 8) (ty := tyX5) cl8 dX5_turn_22 ha 3 (by decide) t_246 e3 ?_
  refine x_iload_n (M := M_X5_turn) dX5_turn_25 rfl ?_
  refine x_iald (M := M_X5_turn) dX5_turn_26 o3 i3 ?_
  refine x_i2l (M := M_X5_turn) dX5_turn_27 ?_
  refine x_iload_n (M := M_X5_turn) dX5_turn_28 rfl ?_
  refine x_i2l (M := M_X5_turn) dX5_turn_29 ?_
  refine x_iload_n (M := M_X5_turn) dX5_turn_30 rfl ?_
  refine x_i2l (M := M_X5_turn) dX5_turn_31 ?_
  refine x_callSNR (M := M_X5_turn) (M' := M_X11_turnOf) rfl rfl dX5_turn_32 m_X11_turnOf n_1264 t_1265 (p_X11_turnOf hl) rfl rfl (Nat.le_of_ble_eq_true rfl) (Nat.le_of_ble_eq_true rfl) (Nat.le_of_ble_eq_true rfl) (Nat.le_of_ble_eq_true rfl) ?_
  exact x_iret (M := M_X5_turn) dX5_turn_35 rfl ⟨rfl, rfl⟩ (Nat.le_of_ble_eq_true rfl) (Nat.le_of_ble_eq_true rfl)
def f_X5_holds (c0 : Nat → Int32) (c1 : Nat → Int32) (c2 : Nat → Int32) (c3 : Nat → Int32) (w0 : Int32) (w1 : Int32) (w2 : Int32) : Int32 := (f_X11_isOnSegment (c0 w0.toNatClampNeg) (c1 w0.toNatClampNeg) (c2 w0.toNatClampNeg) (c3 w0.toNatClampNeg) w1 w2)
theorem b_X5_holds (c0 : Nat → Int32) (c1 : Nat → Int32) (c2 : Nat → Int32) (c3 : Nat → Int32) (w0 : Int32) (w1 : Int32) (w2 : Int32) : f_X5_holds c0 c1 c2 c3 w0 w1 w2 = 0 ∨ f_X5_holds c0 c1 c2 c3 w0 w1 w2 = 1 := (b_X11_isOnSegment _ _ _ _ _ _)
theorem p_X5_holds {l : Launch} {E : EE} (hl : l.stackTraces = false) {h : HP} {c0 : Nat → Int32} {c1 : Nat → Int32} {c2 : Nat → Int32} {c3 : Nat → Int32} {w0 : Int32} {w1 : Int32} {w2 : Int32} {a : Nat} {fs : List Value} (ha : ob h a = some (.inr (8, fs))) {r0 n0 : Nat} (e0 : fs[0]? = some (.ref r0)) (o0 : ob h r0 = some (.inl (0, n0, .inl c0))) {r1 n1 : Nat} (e1 : fs[1]? = some (.ref r1)) (o1 : ob h r1 = some (.inl (0, n1, .inl c1))) {r2 n2 : Nat} (e2 : fs[2]? = some (.ref r2)) (o2 : ob h r2 = some (.inl (0, n2, .inl c2))) {r3 n3 : Nat} (e3 : fs[3]? = some (.ref r3)) (o3 : ob h r3 = some (.inl (0, n3, .inl c3))) (i0 : vp_in w0 n0) (i1 : vp_in w0 n1) (i2 : vp_in w0 n2) (i3 : vp_in w0 n3) : en_C l E M_X5_holds 3 0 0 [.ref a, .int w0, .int w1, .int w2] h (pR (some (.int (f_X5_holds c0 c1 c2 c3 w0 w1 w2))) h) := by
  refine en_mk m_X5_holds rfl hl (Nat.le_of_ble_eq_true rfl) ?_
  refine x_aload_n (M := M_X5_holds) dX5_holds_0 rfl ?_
  refine x_getf (M := M_X5_holds) (ci := 8) (C := RX5) (T := TX5) (N := 8) (ty := tyX5) cl8 dX5_holds_1 ha 0 (by decide) t_234 e0 ?_
  refine x_iload_n (M := M_X5_holds) dX5_holds_4 rfl ?_
  refine x_iald (M := M_X5_holds) dX5_holds_5 o0 i0 ?_
  refine x_aload_n (M := M_X5_holds) dX5_holds_6 rfl ?_
  refine x_getf (M := M_X5_holds) (ci := 8) (C := RX5) (T := TX5) (N := 8) (ty := tyX5) cl8 dX5_holds_7 ha 1 (by decide) t_238 e1 ?_
  refine x_iload_n (M := M_X5_holds) dX5_holds_10 rfl ?_
  refine x_iald (M := M_X5_holds) dX5_holds_11 o1 i1 ?_
  refine x_aload_n (M := M_X5_holds) dX5_holds_12 rfl ?_
  refine x_getf (M := M_X5_holds) (ci := 8) (C := RX5) (T := TX5) (N := 8) (ty := tyX5) cl8 dX5_holds_13 ha 2 (by decide) t_242 e2 ?_
  refine x_iload_n (M := M_X5_holds) dX5_holds_16 rfl ?_
  refine x_iald (M := M_X5_holds) dX5_holds_17 o2 i2 ?_
  refine x_aload_n (M := M_X5_holds) dX5_holds_18 rfl ?_
  refine x_getf (M := M_X5_holds) (ci := 8) (C := RX5) (T := TX5) (N := 8) (ty := tyX5) cl8 dX5_holds_19 ha 3 (by decide) t_246 e3 ?_
  refine x_iload_n (M := M_X5_holds) dX5_holds_22 rfl ?_
  refine x_iald (M := M_X5_holds) dX5_holds_23 o3 i3 ?_
  refine x_iload_n (M := M_X5_holds) dX5_holds_24 rfl ?_
  refine x_iload_n (M := M_X5_holds) dX5_holds_25 rfl ?_
  refine x_callSNR (M := M_X5_holds) (M' := M_X11_isOnSegment) rfl rfl dX5_holds_26 m_X11_isOnSegment n_1959 t_1320 (p_X11_isOnSegment hl) rfl rfl (Nat.le_of_ble_eq_true rfl) (Nat.le_of_ble_eq_true rfl) (Nat.le_of_ble_eq_true rfl) (Nat.le_of_ble_eq_true rfl) ?_
  exact x_zret (M := M_X5_holds) dX5_holds_29 rfl (b_X11_isOnSegment _ _ _ _ _ _) ⟨rfl, rfl⟩ (Nat.le_of_ble_eq_true rfl) (Nat.le_of_ble_eq_true rfl)
end PUR
