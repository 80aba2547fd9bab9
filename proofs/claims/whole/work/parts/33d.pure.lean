section PUR
def f_X12_isSame (c12 : Nat → Int32) (c13 : Nat → Int32) (w0 : Int32) (w1 : Int32) : Int32 := if (c12 w0.toNatClampNeg) = (c12 w1.toNatClampNeg) then if (c13 w0.toNatClampNeg) = (c13 w1.toNatClampNeg) then (Int32.ofInt 1) else ((Int32.ofInt 0)) else ((Int32.ofInt 0))
theorem b_X12_isSame (c12 : Nat → Int32) (c13 : Nat → Int32) (w0 : Int32) (w1 : Int32) : f_X12_isSame c12 c13 w0 w1 = 0 ∨ f_X12_isSame c12 c13 w0 w1 = 1 := (ite01 (ite01 (Or.inr rfl) (Or.inl rfl)) (Or.inl rfl))
theorem p_X12_isSame {l : Launch} {E : EE} (hl : l.stackTraces = false) {h : HP} {c12 : Nat → Int32} {c13 : Nat → Int32} {w0 : Int32} {w1 : Int32} {a : Nat} {fs : List Value} (ha : ob h a = some (.inr (15, fs))) {r12 n12 : Nat} (e12 : fs[12]? = some (.ref r12)) (o12 : ob h r12 = some (.inl (0, n12, .inl c12))) {r13 n13 : Nat} (e13 : fs[13]? = some (.ref r13)) (o13 : ob h r13 = some (.inl (0, n13, .inl c13))) (i0 : vp_in w0 n12) (i1 : vp_in w1 n12) (i2 : ((c12 w0.toNatClampNeg) = (c12 w1.toNatClampNeg)) → vp_in w0 n13) (i3 : ((c12 w0.toNatClampNeg) = (c12 w1.toNatClampNeg)) → vp_in w1 n13) : en_C l E M_X12_isSame 0 0 0 [.ref a, .int w0, .int w1] h (pR (some (.int (f_X12_isSame c12 c13 w0 w1))) h) := by
  refine en_mk m_X12_isSame rfl hl (Nat.le_of_ble_eq_true rfl) ?_
  refine x_aload_n (M := M_X12_isSame) dX12_isSame_0 rfl ?_
  refine x_getf (M := M_X12_isSame) (ci := 15) (C := RX12) (T := TX12) (N := 135) (ty := tyX12) cl15 dX12_isSame_1 ha 12 (by decide) t_2403 e12 ?_
  refine x_iload_n (M := M_X12_isSame) dX12_isSame_4 rfl ?_
  refine x_iald (M := M_X12_isSame) dX12_isSame_5 o12 i0 ?_
  refine x_aload_n (M := M_X12_isSame) dX12_isSame_6 rfl ?_
  refine x_getf (M := M_X12_isSame) (ci := 15) (C := RX12) (T := TX12) (N := 135) (ty := tyX12) cl15 dX12_isSame_7 ha 12 (by decide) t_2403 e12 ?_
  refine x_iload_n (M := M_X12_isSame) dX12_isSame_10 rfl ?_
  refine x_iald (M := M_X12_isSame) dX12_isSame_11 o12 i1 ?_
  refine x_icmp_ne (M := M_X12_isSame) (tgt := 34) dX12_isSame_12 (by decide) (fun q0 => ?_) (fun q0 => ?_)
  · refine x_iconst (M := M_X12_isSame) dX12_isSame_34 ?_
    exact x_zret (M := M_X12_isSame) dX12_isSame_35 rfl (Or.inl rfl) ⟨by rw [f_X12_isSame, if_neg q0], rfl⟩ (Nat.le_of_ble_eq_true rfl) (Nat.le_of_ble_eq_true rfl)
  · refine x_aload_n (M := M_X12_isSame) dX12_isSame_15 rfl ?_
    refine x_getf (M := M_X12_isSame) (ci := 15) (C := RX12) (T := TX12) (N := 135) (ty := tyX12) cl15 dX12_isSame_16 ha 13 (by decide) t_2404 e13 ?_
    refine x_iload_n (M := M_X12_isSame) dX12_isSame_19 rfl ?_
    refine x_iald (M := M_X12_isSame) dX12_isSame_20 o13 (i2 q0) ?_
    refine x_aload_n (M := M_X12_isSame) dX12_isSame_21 rfl ?_
    refine x_getf (M := M_X12_isSame) (ci := 15) (C := RX12) (T := TX12) (N := 135) (ty := tyX12) cl15 dX12_isSame_22 ha 13 (by decide) t_2404 e13 ?_
    refine x_iload_n (M := M_X12_isSame) dX12_isSame_25 rfl ?_
    refine x_iald (M := M_X12_isSame) dX12_isSame_26 o13 (i3 q0) ?_
    refine x_icmp_ne (M := M_X12_isSame) (tgt := 34) dX12_isSame_27 (by decide) (fun q1 => ?_) (fun q1 => ?_)
    · refine x_iconst (M := M_X12_isSame) dX12_isSame_34 ?_
      exact x_zret (M := M_X12_isSame) dX12_isSame_35 rfl (Or.inl rfl) ⟨by rw [f_X12_isSame, if_pos q0, if_neg q1], rfl⟩ (Nat.le_of_ble_eq_true rfl) (Nat.le_of_ble_eq_true rfl)
    · refine x_iconst (M := M_X12_isSame) dX12_isSame_30 ?_
      refine x_goto (M := M_X12_isSame) (tgt := 35) dX12_isSame_31 (by decide) ?_
      exact x_zret (M := M_X12_isSame) dX12_isSame_35 rfl (Or.inr rfl) ⟨by rw [f_X12_isSame, if_pos q0, if_pos q1], rfl⟩ (Nat.le_of_ble_eq_true rfl) (Nat.le_of_ble_eq_true rfl)
def f_X12_following (c45 : Nat → Int32) (c56 : Nat → Int32) (w0 : Int32) : Int32 := if (w0 + (Int32.ofInt 1)) = (c56 ((c45 w0.toNatClampNeg) + (Int32.ofInt 1)).toNatClampNeg) then (c56 (c45 w0.toNatClampNeg).toNatClampNeg) else ((w0 + (Int32.ofInt 1)))
theorem p_X12_following {l : Launch} {E : EE} (hl : l.stackTraces = false) {h : HP} {c45 : Nat → Int32} {c56 : Nat → Int32} {w0 : Int32} {a : Nat} {fs : List Value} (ha : ob h a = some (.inr (15, fs))) {r45 n45 : Nat} (e45 : fs[45]? = some (.ref r45)) (o45 : ob h r45 = some (.inl (0, n45, .inl c45))) {r56 n56 : Nat} (e56 : fs[56]? = some (.ref r56)) (o56 : ob h r56 = some (.inl (0, n56, .inl c56))) (i0 : vp_in w0 n45) (i1 : vp_in ((c45 w0.toNatClampNeg) + (Int32.ofInt 1)) n56) (i2 : ((w0 + (Int32.ofInt 1)) = (c56 ((c45 w0.toNatClampNeg) + (Int32.ofInt 1)).toNatClampNeg)) → vp_in (c45 w0.toNatClampNeg) n56) : en_C l E M_X12_following 0 0 0 [.ref a, .int w0] h (pR (some (.int (f_X12_following c45 c56 w0))) h) := by
  refine en_mk m_X12_following rfl hl (Nat.le_of_ble_eq_true rfl) ?_
  refine x_aload_n (M := M_X12_following) dX12_following_0 rfl ?_
  refine x_getf (M := M_X12_following) (ci := 15) (C := RX12) (T := TX12) (N := 135) (ty := tyX12) cl15 dX12_following_1 ha 45 (by decide) t_2436 e45 ?_
  refine x_iload_n (M := M_X12_following) dX12_following_4 rfl ?_
  refine x_iald (M := M_X12_following) dX12_following_5 o45 i0 ?_
  refine x_istore_n (M := M_X12_following) dX12_following_6 (by decide) rfl ?_
  refine x_norm (lv' := [some (.ref a), some (.int w0), some (.int (c45 w0.toNatClampNeg))]) rfl rfl rfl rfl rfl ?_
  refine x_iload_n (M := M_X12_following) dX12_following_7 rfl ?_
  refine x_iconst (M := M_X12_following) dX12_following_8 ?_
  refine x_iadd (M := M_X12_following) dX12_following_9 ?_
  refine x_aload_n (M := M_X12_following) dX12_following_10 rfl ?_
  refine x_getf (M := M_X12_following) (ci := 15) (C := RX12) (T := TX12) (N := 135) (ty := tyX12) cl15 dX12_following_11 ha 56 (by decide) t_2447 e56 ?_
  refine x_iload_n (M := M_X12_following) dX12_following_14 rfl ?_
  refine x_iconst (M := M_X12_following) dX12_following_15 ?_
  refine x_iadd (M := M_X12_following) dX12_following_16 ?_
  refine x_iald (M := M_X12_following) dX12_following_17 o56 i1 ?_
  refine x_icmp_ne (M := M_X12_following) (tgt := 30) dX12_following_18 (by decide) (fun q0 => ?_) (fun q0 => ?_)
  · refine x_iload_n (M := M_X12_following) dX12_following_30 rfl ?_
    refine x_iconst (M := M_X12_following) dX12_following_31 ?_
    refine x_iadd (M := M_X12_following) dX12_following_32 ?_
    exact x_iret (M := M_X12_following) dX12_following_33 rfl ⟨by rw [f_X12_following, if_neg q0], rfl⟩ (Nat.le_of_ble_eq_true rfl) (Nat.le_of_ble_eq_true rfl)
  · refine x_aload_n (M := M_X12_following) dX12_following_21 rfl ?_
    refine x_getf (M := M_X12_following) (ci := 15) (C := RX12) (T := TX12) (N := 135) (ty := tyX12) cl15 dX12_following_22 ha 56 (by decide) t_2447 e56 ?_
    refine x_iload_n (M := M_X12_following) dX12_following_25 rfl ?_
    refine x_iald (M := M_X12_following) dX12_following_26 o56 (i2 q0) ?_
    refine x_goto (M := M_X12_following) (tgt := 33) dX12_following_27 (by decide) ?_
    exact x_iret (M := M_X12_following) dX12_following_33 rfl ⟨by rw [f_X12_following, if_pos q0], rfl⟩ (Nat.le_of_ble_eq_true rfl) (Nat.le_of_ble_eq_true rfl)
def f_X12_isBetween (w0 : Int64) (w1 : Int64) (w2 : Int64) (w3 : Int64) (w4 : Int64) (w5 : Int64) : Int32 := if (lg_cmp (f_X12_cross w0 w1 w2 w3) (Int64.ofNat ((0 : Fin 2) : Nat))) ≤ 0 then if (lg_cmp (f_X12_cross w0 w1 w2 w3) (Int64.ofNat ((0 : Fin 2) : Nat))) = 0 then if 0 ≤ (lg_cmp ((w0 * w2) + (w1 * w3)) (Int64.ofNat ((0 : Fin 2) : Nat))) then (Int32.ofInt 0) else (if (lg_cmp (f_X12_cross w0 w1 w4 w5) (Int64.ofNat ((0 : Fin 2) : Nat))) ≤ 0 then (Int32.ofInt 0) else ((Int32.ofInt 1))) else (if 0 < (lg_cmp (f_X12_cross w0 w1 w4 w5) (Int64.ofNat ((0 : Fin 2) : Nat))) then (Int32.ofInt 1) else (if (lg_cmp (f_X12_cross w4 w5 w2 w3) (Int64.ofNat ((0 : Fin 2) : Nat))) ≤ 0 then (Int32.ofInt 0) else ((Int32.ofInt 1)))) else (if (lg_cmp (f_X12_cross w0 w1 w4 w5) (Int64.ofNat ((0 : Fin 2) : Nat))) ≤ 0 then (Int32.ofInt 0) else (if (lg_cmp (f_X12_cross w4 w5 w2 w3) (Int64.ofNat ((0 : Fin 2) : Nat))) ≤ 0 then (Int32.ofInt 0) else ((Int32.ofInt 1))))
theorem b_X12_isBetween (w0 : Int64) (w1 : Int64) (w2 : Int64) (w3 : Int64) (w4 : Int64) (w5 : Int64) : f_X12_isBetween w0 w1 w2 w3 w4 w5 = 0 ∨ f_X12_isBetween w0 w1 w2 w3 w4 w5 = 1 := (ite01 (ite01 (ite01 (Or.inl rfl) (ite01 (Or.inl rfl) (Or.inr rfl))) (ite01 (Or.inr rfl) (ite01 (Or.inl rfl) (Or.inr rfl)))) (ite01 (Or.inl rfl) (ite01 (Or.inl rfl) (Or.inr rfl))))
theorem p_X12_isBetween {l : Launch} {E : EE} (hl : l.stackTraces = false) {h : HP} {w0 : Int64} {w1 : Int64} {w2 : Int64} {w3 : Int64} {w4 : Int64} {w5 : Int64} : en_C l E M_X12_isBetween 1 0 0 [.long w0, .long w1, .long w2, .long w3, .long w4, .long w5] h (pR (some (.int (f_X12_isBetween w0 w1 w2 w3 w4 w5))) h) := by
  refine en_mk m_X12_isBetween rfl hl (Nat.le_of_ble_eq_true rfl) ?_
  refine x_lload_n (M := M_X12_isBetween) dX12_isBetween_0 rfl ?_
  refine x_lload_n (M := M_X12_isBetween) dX12_isBetween_1 rfl ?_
  refine x_lload (M := M_X12_isBetween) dX12_isBetween_2 rfl ?_
  refine x_lload (M := M_X12_isBetween) dX12_isBetween_4 rfl ?_
  refine x_callSR (M := M_X12_isBetween) (M' := M_X12_cross) rfl rfl dX12_isBetween_6 m_X12_cross t_3265 t_3266 (p_X12_cross hl) rfl rfl (Nat.le_of_ble_eq_true rfl) (Nat.le_of_ble_eq_true rfl) (Nat.le_of_ble_eq_true rfl) (Nat.le_of_ble_eq_true rfl) ?_
  refine x_lstore (M := M_X12_isBetween) dX12_isBetween_9 (by decide) rfl ?_
  refine x_norm (lv' := [some (.long w0), none, some (.long w1), none, some (.long w2), none, some (.long w3), none, some (.long w4), none, some (.long w5), none, some (.long (f_X12_cross w0 w1 w2 w3)), none, none, none, none, none]) rfl rfl rfl rfl rfl ?_
  refine x_lload_n (M := M_X12_isBetween) dX12_isBetween_11 rfl ?_
  refine x_lload_n (M := M_X12_isBetween) dX12_isBetween_12 rfl ?_
  refine x_lload (M := M_X12_isBetween) dX12_isBetween_13 rfl ?_
  refine x_lload (M := M_X12_isBetween) dX12_isBetween_15 rfl ?_
  refine x_callSR (M := M_X12_isBetween) (M' := M_X12_cross) rfl rfl dX12_isBetween_17 m_X12_cross t_3265 t_3266 (p_X12_cross hl) rfl rfl (Nat.le_of_ble_eq_true rfl) (Nat.le_of_ble_eq_true rfl) (Nat.le_of_ble_eq_true rfl) (Nat.le_of_ble_eq_true rfl) ?_
  refine x_lstore (M := M_X12_isBetween) dX12_isBetween_20 (by decide) rfl ?_
  refine x_norm (lv' := [some (.long w0), none, some (.long w1), none, some (.long w2), none, some (.long w3), none, some (.long w4), none, some (.long w5), none, some (.long (f_X12_cross w0 w1 w2 w3)), none, some (.long (f_X12_cross w0 w1 w4 w5)), none, none, none]) rfl rfl rfl rfl rfl ?_
  refine x_lload (M := M_X12_isBetween) dX12_isBetween_22 rfl ?_
  refine x_lload (M := M_X12_isBetween) dX12_isBetween_24 rfl ?_
  refine x_lload (M := M_X12_isBetween) dX12_isBetween_26 rfl ?_
  refine x_lload (M := M_X12_isBetween) dX12_isBetween_28 rfl ?_
  refine x_callSR (M := M_X12_isBetween) (M' := M_X12_cross) rfl rfl dX12_isBetween_30 m_X12_cross t_3265 t_3266 (p_X12_cross hl) rfl rfl (Nat.le_of_ble_eq_true rfl) (Nat.le_of_ble_eq_true rfl) (Nat.le_of_ble_eq_true rfl) (Nat.le_of_ble_eq_true rfl) ?_
  refine x_lstore (M := M_X12_isBetween) dX12_isBetween_33 (by decide) rfl ?_
  refine x_norm (lv' := [some (.long w0), none, some (.long w1), none, some (.long w2), none, some (.long w3), none, some (.long w4), none, some (.long w5), none, some (.long (f_X12_cross w0 w1 w2 w3)), none, some (.long (f_X12_cross w0 w1 w4 w5)), none, some (.long (f_X12_cross w4 w5 w2 w3)), none]) rfl rfl rfl rfl rfl ?_
  refine x_lload (M := M_X12_isBetween) dX12_isBetween_35 rfl ?_
  refine x_lconst (M := M_X12_isBetween) dX12_isBetween_37 ?_
  refine x_lcmp (M := M_X12_isBetween) dX12_isBetween_38 ?_
  refine x_if_le (M := M_X12_isBetween) (tgt := 62) dX12_isBetween_39 (by decide) (fun q0 => ?_) (fun q0 => ?_)
  · refine x_lload (M := M_X12_isBetween) dX12_isBetween_62 rfl ?_
    refine x_lconst (M := M_X12_isBetween) dX12_isBetween_64 ?_
    refine x_lcmp (M := M_X12_isBetween) dX12_isBetween_65 ?_
    refine x_if_ne (M := M_X12_isBetween) (tgt := 96) dX12_isBetween_66 (by decide) (fun q1 => ?_) (fun q1 => ?_)
    · refine x_lload (M := M_X12_isBetween) dX12_isBetween_96 rfl ?_
      refine x_lconst (M := M_X12_isBetween) dX12_isBetween_98 ?_
      refine x_lcmp (M := M_X12_isBetween) dX12_isBetween_99 ?_
      refine x_if_gt (M := M_X12_isBetween) (tgt := 110) dX12_isBetween_100 (by decide) (fun q2 => ?_) (fun q2 => ?_)
      · refine x_iconst (M := M_X12_isBetween) dX12_isBetween_110 ?_
        refine x_goto (M := M_X12_isBetween) (tgt := 115) dX12_isBetween_111 (by decide) ?_
        exact x_zret (M := M_X12_isBetween) dX12_isBetween_115 rfl (Or.inr rfl) ⟨by rw [f_X12_isBetween, if_pos q0, if_neg q1, if_pos q2], rfl⟩ (Nat.le_of_ble_eq_true rfl) (Nat.le_of_ble_eq_true rfl)
      · refine x_lload (M := M_X12_isBetween) dX12_isBetween_103 rfl ?_
        refine x_lconst (M := M_X12_isBetween) dX12_isBetween_105 ?_
        refine x_lcmp (M := M_X12_isBetween) dX12_isBetween_106 ?_
        refine x_if_le (M := M_X12_isBetween) (tgt := 114) dX12_isBetween_107 (by decide) (fun q3 => ?_) (fun q3 => ?_)
        · refine x_iconst (M := M_X12_isBetween) dX12_isBetween_114 ?_
          exact x_zret (M := M_X12_isBetween) dX12_isBetween_115 rfl (Or.inl rfl) ⟨by rw [f_X12_isBetween, if_pos q0, if_neg q1, if_neg q2, if_pos q3], rfl⟩ (Nat.le_of_ble_eq_true rfl) (Nat.le_of_ble_eq_true rfl)
        · refine x_iconst (M := M_X12_isBetween) dX12_isBetween_110 ?_
          refine x_goto (M := M_X12_isBetween) (tgt := 115) dX12_isBetween_111 (by decide) ?_
          exact x_zret (M := M_X12_isBetween) dX12_isBetween_115 rfl (Or.inr rfl) ⟨by rw [f_X12_isBetween, if_pos q0, if_neg q1, if_neg q2, if_neg q3], rfl⟩ (Nat.le_of_ble_eq_true rfl) (Nat.le_of_ble_eq_true rfl)
    · refine x_lload_n (M := M_X12_isBetween) dX12_isBetween_69 rfl ?_
      refine x_lload (M := M_X12_isBetween) dX12_isBetween_70 rfl ?_
      refine x_lmul (M := M_X12_isBetween) dX12_isBetween_72 ?_
      refine x_lload_n (M := M_X12_isBetween) dX12_isBetween_73 rfl ?_
      refine x_lload (M := M_X12_isBetween) dX12_isBetween_74 rfl ?_
      refine x_lmul (M := M_X12_isBetween) dX12_isBetween_76 ?_
      refine x_ladd (M := M_X12_isBetween) dX12_isBetween_77 ?_
      refine x_lconst (M := M_X12_isBetween) dX12_isBetween_78 ?_
      refine x_lcmp (M := M_X12_isBetween) dX12_isBetween_79 ?_
      refine x_if_ge (M := M_X12_isBetween) (tgt := 94) dX12_isBetween_80 (by decide) (fun q2 => ?_) (fun q2 => ?_)
      · refine x_iconst (M := M_X12_isBetween) dX12_isBetween_94 ?_
        exact x_zret (M := M_X12_isBetween) dX12_isBetween_95 rfl (Or.inl rfl) ⟨by rw [f_X12_isBetween, if_pos q0, if_pos q1, if_pos q2], rfl⟩ (Nat.le_of_ble_eq_true rfl) (Nat.le_of_ble_eq_true rfl)
      · refine x_lload (M := M_X12_isBetween) dX12_isBetween_83 rfl ?_
        refine x_lconst (M := M_X12_isBetween) dX12_isBetween_85 ?_
        refine x_lcmp (M := M_X12_isBetween) dX12_isBetween_86 ?_
        refine x_if_le (M := M_X12_isBetween) (tgt := 94) dX12_isBetween_87 (by decide) (fun q3 => ?_) (fun q3 => ?_)
        · refine x_iconst (M := M_X12_isBetween) dX12_isBetween_94 ?_
          exact x_zret (M := M_X12_isBetween) dX12_isBetween_95 rfl (Or.inl rfl) ⟨by rw [f_X12_isBetween, if_pos q0, if_pos q1, if_neg q2, if_pos q3], rfl⟩ (Nat.le_of_ble_eq_true rfl) (Nat.le_of_ble_eq_true rfl)
        · refine x_iconst (M := M_X12_isBetween) dX12_isBetween_90 ?_
          refine x_goto (M := M_X12_isBetween) (tgt := 95) dX12_isBetween_91 (by decide) ?_
          exact x_zret (M := M_X12_isBetween) dX12_isBetween_95 rfl (Or.inr rfl) ⟨by rw [f_X12_isBetween, if_pos q0, if_pos q1, if_neg q2, if_neg q3], rfl⟩ (Nat.le_of_ble_eq_true rfl) (Nat.le_of_ble_eq_true rfl)
  · refine x_lload (M := M_X12_isBetween) dX12_isBetween_42 rfl ?_
    refine x_lconst (M := M_X12_isBetween) dX12_isBetween_44 ?_
    refine x_lcmp (M := M_X12_isBetween) dX12_isBetween_45 ?_
    refine x_if_le (M := M_X12_isBetween) (tgt := 60) dX12_isBetween_46 (by decide) (fun q1 => ?_) (fun q1 => ?_)
    · refine x_iconst (M := M_X12_isBetween) dX12_isBetween_60 ?_
      exact x_zret (M := M_X12_isBetween) dX12_isBetween_61 rfl (Or.inl rfl) ⟨by rw [f_X12_isBetween, if_neg q0, if_pos q1], rfl⟩ (Nat.le_of_ble_eq_true rfl) (Nat.le_of_ble_eq_true rfl)
    · refine x_lload (M := M_X12_isBetween) dX12_isBetween_49 rfl ?_
      refine x_lconst (M := M_X12_isBetween) dX12_isBetween_51 ?_
      refine x_lcmp (M := M_X12_isBetween) dX12_isBetween_52 ?_
      refine x_if_le (M := M_X12_isBetween) (tgt := 60) dX12_isBetween_53 (by decide) (fun q2 => ?_) (fun q2 => ?_)
      · refine x_iconst (M := M_X12_isBetween) dX12_isBetween_60 ?_
        exact x_zret (M := M_X12_isBetween) dX12_isBetween_61 rfl (Or.inl rfl) ⟨by rw [f_X12_isBetween, if_neg q0, if_neg q1, if_pos q2], rfl⟩ (Nat.le_of_ble_eq_true rfl) (Nat.le_of_ble_eq_true rfl)
      · refine x_iconst (M := M_X12_isBetween) dX12_isBetween_56 ?_
        refine x_goto (M := M_X12_isBetween) (tgt := 61) dX12_isBetween_57 (by decide) ?_
        exact x_zret (M := M_X12_isBetween) dX12_isBetween_61 rfl (Or.inr rfl) ⟨by rw [f_X12_isBetween, if_neg q0, if_neg q1, if_neg q2], rfl⟩ (Nat.le_of_ble_eq_true rfl) (Nat.le_of_ble_eq_true rfl)
def f_X12_begins (g50 : Int64) (g51 : Int64) (c41 : Nat → Int64) (c42 : Nat → Int64) (w0 : Int32) : Int32 := if (lg_cmp (c41 w0.toNatClampNeg) g50) = 0 then if (lg_cmp (c42 w0.toNatClampNeg) g51) = 0 then (Int32.ofInt 1) else ((Int32.ofInt 0)) else ((Int32.ofInt 0))
theorem b_X12_begins (g50 : Int64) (g51 : Int64) (c41 : Nat → Int64) (c42 : Nat → Int64) (w0 : Int32) : f_X12_begins g50 g51 c41 c42 w0 = 0 ∨ f_X12_begins g50 g51 c41 c42 w0 = 1 := (ite01 (ite01 (Or.inr rfl) (Or.inl rfl)) (Or.inl rfl))
theorem p_X12_begins {l : Launch} {E : EE} (hl : l.stackTraces = false) {h : HP} {g50 : Int64} {g51 : Int64} {c41 : Nat → Int64} {c42 : Nat → Int64} {w0 : Int32} {a : Nat} {fs : List Value} (ha : ob h a = some (.inr (15, fs))) (e50 : fs[50]? = some (.long g50)) (e51 : fs[51]? = some (.long g51)) {r41 n41 : Nat} (e41 : fs[41]? = some (.ref r41)) (o41 : ob h r41 = some (.inl (1, n41, .inr (.inl c41)))) {r42 n42 : Nat} (e42 : fs[42]? = some (.ref r42)) (o42 : ob h r42 = some (.inl (1, n42, .inr (.inl c42)))) (i0 : vp_in w0 n41) (i1 : ((lg_cmp (c41 w0.toNatClampNeg) g50) = 0) → vp_in w0 n42) : en_C l E M_X12_begins 0 0 0 [.ref a, .int w0] h (pR (some (.int (f_X12_begins g50 g51 c41 c42 w0))) h) := by
  refine en_mk m_X12_begins rfl hl (Nat.le_of_ble_eq_true rfl) ?_
  refine x_aload_n (M := M_X12_begins) dX12_begins_0 rfl ?_
  refine x_getf (M := M_X12_begins) (ci := 15) (C := RX12) (T := TX12) (N := 135) (ty := tyX12) cl15 dX12_begins_1 ha 41 (by decide) t_2432 e41 ?_
  refine x_iload_n (M := M_X12_begins) dX12_begins_4 rfl ?_
  refine x_lald (M := M_X12_begins) dX12_begins_5 o41 i0 ?_
  refine x_aload_n (M := M_X12_begins) dX12_begins_6 rfl ?_
  refine x_getf (M := M_X12_begins) (ci := 15) (C := RX12) (T := TX12) (N := 135) (ty := tyX12) cl15 dX12_begins_7 ha 50 (by decide) t_2441 e50 ?_
  refine x_lcmp (M := M_X12_begins) dX12_begins_10 ?_
  refine x_if_ne (M := M_X12_begins) (tgt := 32) dX12_begins_11 (by decide) (fun q0 => ?_) (fun q0 => ?_)
  · refine x_iconst (M := M_X12_begins) dX12_begins_32 ?_
    exact x_zret (M := M_X12_begins) dX12_begins_33 rfl (Or.inl rfl) ⟨by rw [f_X12_begins, if_neg q0], rfl⟩ (Nat.le_of_ble_eq_true rfl) (Nat.le_of_ble_eq_true rfl)
  · refine x_aload_n (M := M_X12_begins) dX12_begins_14 rfl ?_
    refine x_getf (M := M_X12_begins) (ci := 15) (C := RX12) (T := TX12) (N := 135) (ty := tyX12) cl15 dX12_begins_15 ha 42 (by decide) t_2433 e42 ?_
    refine x_iload_n (M := M_X12_begins) dX12_begins_18 rfl ?_
    refine x_lald (M := M_X12_begins) dX12_begins_19 o42 (i1 q0) ?_
    refine x_aload_n (M := M_X12_begins) dX12_begins_20 rfl ?_
    refine x_getf (M := M_X12_begins) (ci := 15) (C := RX12) (T := TX12) (N := 135) (ty := tyX12) cl15 dX12_begins_21 ha 51 (by decide) t_2442 e51 ?_
    refine x_lcmp (M := M_X12_begins) dX12_begins_24 ?_
    refine x_if_ne (M := M_X12_begins) (tgt := 32) dX12_begins_25 (by decide) (fun q1 => ?_) (fun q1 => ?_)
    · refine x_iconst (M := M_X12_begins) dX12_begins_32 ?_
      exact x_zret (M := M_X12_begins) dX12_begins_33 rfl (Or.inl rfl) ⟨by rw [f_X12_begins, if_pos q0, if_neg q1], rfl⟩ (Nat.le_of_ble_eq_true rfl) (Nat.le_of_ble_eq_true rfl)
    · refine x_iconst (M := M_X12_begins) dX12_begins_28 ?_
      refine x_goto (M := M_X12_begins) (tgt := 33) dX12_begins_29 (by decide) ?_
      exact x_zret (M := M_X12_begins) dX12_begins_33 rfl (Or.inr rfl) ⟨by rw [f_X12_begins, if_pos q0, if_pos q1], rfl⟩ (Nat.le_of_ble_eq_true rfl) (Nat.le_of_ble_eq_true rfl)
def f_X12_isSooner (g76 : Int64) (g77 : Int64) (g78 : Int32) (c72 : Nat → Int64) (c73 : Nat → Int64) (c74 : Nat → Int32) (w0 : Int32) : Int32 := if (lg_cmp ((g76 * (c73 w0.toNatClampNeg)) - ((c72 w0.toNatClampNeg) * g77)) (Int64.ofNat ((0 : Fin 2) : Nat))) < 0 then (Int32.ofInt 1) else (if (lg_cmp ((g76 * (c73 w0.toNatClampNeg)) - ((c72 w0.toNatClampNeg) * g77)) (Int64.ofNat ((0 : Fin 2) : Nat))) = 0 then if g78 = 0 then if (c74 w0.toNatClampNeg) = 0 then (Int32.ofInt 0) else ((Int32.ofInt 1)) else ((Int32.ofInt 0)) else ((Int32.ofInt 0)))
theorem b_X12_isSooner (g76 : Int64) (g77 : Int64) (g78 : Int32) (c72 : Nat → Int64) (c73 : Nat → Int64) (c74 : Nat → Int32) (w0 : Int32) : f_X12_isSooner g76 g77 g78 c72 c73 c74 w0 = 0 ∨ f_X12_isSooner g76 g77 g78 c72 c73 c74 w0 = 1 := (ite01 (Or.inr rfl) (ite01 (ite01 (ite01 (Or.inl rfl) (Or.inr rfl)) (Or.inl rfl)) (Or.inl rfl)))
theorem p_X12_isSooner {l : Launch} {E : EE} (hl : l.stackTraces = false) {h : HP} {g76 : Int64} {g77 : Int64} {g78 : Int32} {c72 : Nat → Int64} {c73 : Nat → Int64} {c74 : Nat → Int32} {w0 : Int32} {a : Nat} {fs : List Value} (ha : ob h a = some (.inr (15, fs))) (e76 : fs[76]? = some (.long g76)) (e77 : fs[77]? = some (.long g77)) (e78 : fs[78]? = some (.int g78)) {r72 n72 : Nat} (e72 : fs[72]? = some (.ref r72)) (o72 : ob h r72 = some (.inl (1, n72, .inr (.inl c72)))) {r73 n73 : Nat} (e73 : fs[73]? = some (.ref r73)) (o73 : ob h r73 = some (.inl (1, n73, .inr (.inl c73)))) {r74 n74 : Nat} (e74 : fs[74]? = some (.ref r74)) (o74 : ob h r74 = some (.inl (3, n74, .inl c74))) (i0 : vp_in w0 n73) (i1 : vp_in w0 n72) (i2 : (¬ (lg_cmp ((g76 * (c73 w0.toNatClampNeg)) - ((c72 w0.toNatClampNeg) * g77)) (Int64.ofNat ((0 : Fin 2) : Nat))) < 0) → ((lg_cmp ((g76 * (c73 w0.toNatClampNeg)) - ((c72 w0.toNatClampNeg) * g77)) (Int64.ofNat ((0 : Fin 2) : Nat))) = 0) → (g78 = 0) → vp_in w0 n74) : en_C l E M_X12_isSooner 0 0 0 [.ref a, .int w0] h (pR (some (.int (f_X12_isSooner g76 g77 g78 c72 c73 c74 w0))) h) := by
  refine en_mk m_X12_isSooner rfl hl (Nat.le_of_ble_eq_true rfl) ?_
  refine x_aload_n (M := M_X12_isSooner) dX12_isSooner_0 rfl ?_
  refine x_getf (M := M_X12_isSooner) (ci := 15) (C := RX12) (T := TX12) (N := 135) (ty := tyX12) cl15 dX12_isSooner_1 ha 76 (by decide) t_2467 e76 ?_
  refine x_aload_n (M := M_X12_isSooner) dX12_isSooner_4 rfl ?_
  refine x_getf (M := M_X12_isSooner) (ci := 15) (C := RX12) (T := TX12) (N := 135) (ty := tyX12) cl15 dX12_isSooner_5 ha 73 (by decide) t_2464 e73 ?_
  refine x_iload_n (M := M_X12_isSooner) dX12_isSooner_8 rfl ?_
  refine x_lald (M := M_X12_isSooner) dX12_isSooner_9 o73 i0 ?_
  refine x_lmul (M := M_X12_isSooner) dX12_isSooner_10 ?_
  refine x_aload_n (M := M_X12_isSooner) dX12_isSooner_11 rfl ?_
  refine x_getf (M := M_X12_isSooner) (ci := 15) (C := RX12) (T := TX12) (N := 135) (ty := tyX12) cl15 dX12_isSooner_12 ha 72 (by decide) t_2463 e72 ?_
  refine x_iload_n (M := M_X12_isSooner) dX12_isSooner_15 rfl ?_
  refine x_lald (M := M_X12_isSooner) dX12_isSooner_16 o72 i1 ?_
  refine x_aload_n (M := M_X12_isSooner) dX12_isSooner_17 rfl ?_
  refine x_getf (M := M_X12_isSooner) (ci := 15) (C := RX12) (T := TX12) (N := 135) (ty := tyX12) cl15 dX12_isSooner_18 ha 77 (by decide) t_2468 e77 ?_
  refine x_lmul (M := M_X12_isSooner) dX12_isSooner_21 ?_
  refine x_lsub (M := M_X12_isSooner) dX12_isSooner_22 ?_
  refine x_lstore_n (M := M_X12_isSooner) dX12_isSooner_23 (by decide) rfl ?_
  refine x_norm (lv' := [some (.ref a), some (.int w0), some (.long ((g76 * (c73 w0.toNatClampNeg)) - ((c72 w0.toNatClampNeg) * g77))), none]) rfl rfl rfl rfl rfl ?_
  refine x_lload_n (M := M_X12_isSooner) dX12_isSooner_24 rfl ?_
  refine x_lconst (M := M_X12_isSooner) dX12_isSooner_25 ?_
  refine x_lcmp (M := M_X12_isSooner) dX12_isSooner_26 ?_
  refine x_if_lt (M := M_X12_isSooner) (tgt := 52) dX12_isSooner_27 (by decide) (fun q0 => ?_) (fun q0 => ?_)
  · refine x_iconst (M := M_X12_isSooner) dX12_isSooner_52 ?_
    refine x_goto (M := M_X12_isSooner) (tgt := 57) dX12_isSooner_53 (by decide) ?_
    exact x_zret (M := M_X12_isSooner) dX12_isSooner_57 rfl (Or.inr rfl) ⟨by rw [f_X12_isSooner, if_pos q0], rfl⟩ (Nat.le_of_ble_eq_true rfl) (Nat.le_of_ble_eq_true rfl)
  · refine x_lload_n (M := M_X12_isSooner) dX12_isSooner_30 rfl ?_
    refine x_lconst (M := M_X12_isSooner) dX12_isSooner_31 ?_
    refine x_lcmp (M := M_X12_isSooner) dX12_isSooner_32 ?_
    refine x_if_ne (M := M_X12_isSooner) (tgt := 56) dX12_isSooner_33 (by decide) (fun q1 => ?_) (fun q1 => ?_)
    · refine x_iconst (M := M_X12_isSooner) dX12_isSooner_56 ?_
      exact x_zret (M := M_X12_isSooner) dX12_isSooner_57 rfl (Or.inl rfl) ⟨by rw [f_X12_isSooner, if_neg q0, if_neg q1], rfl⟩ (Nat.le_of_ble_eq_true rfl) (Nat.le_of_ble_eq_true rfl)
    · refine x_aload_n (M := M_X12_isSooner) dX12_isSooner_36 rfl ?_
      refine x_getf (M := M_X12_isSooner) (ci := 15) (C := RX12) (T := TX12) (N := 135) (ty := tyX12) cl15 dX12_isSooner_37 ha 78 (by decide) t_2469 e78 ?_
      refine x_if_ne (M := M_X12_isSooner) (tgt := 56) dX12_isSooner_40 (by decide) (fun q2 => ?_) (fun q2 => ?_)
      · refine x_iconst (M := M_X12_isSooner) dX12_isSooner_56 ?_
        exact x_zret (M := M_X12_isSooner) dX12_isSooner_57 rfl (Or.inl rfl) ⟨by rw [f_X12_isSooner, if_neg q0, if_pos q1, if_neg q2], rfl⟩ (Nat.le_of_ble_eq_true rfl) (Nat.le_of_ble_eq_true rfl)
      · refine x_aload_n (M := M_X12_isSooner) dX12_isSooner_43 rfl ?_
        refine x_getf (M := M_X12_isSooner) (ci := 15) (C := RX12) (T := TX12) (N := 135) (ty := tyX12) cl15 dX12_isSooner_44 ha 74 (by decide) t_2465 e74 ?_
        refine x_iload_n (M := M_X12_isSooner) dX12_isSooner_47 rfl ?_
        refine x_zald (M := M_X12_isSooner) dX12_isSooner_48 o74 (i2 q0 q1 q2) ?_
        refine x_if_eq (M := M_X12_isSooner) (tgt := 56) dX12_isSooner_49 (by decide) (fun q3 => ?_) (fun q3 => ?_)
        · refine x_iconst (M := M_X12_isSooner) dX12_isSooner_56 ?_
          exact x_zret (M := M_X12_isSooner) dX12_isSooner_57 rfl (Or.inl rfl) ⟨by rw [f_X12_isSooner, if_neg q0, if_pos q1, if_pos q2, if_pos q3], rfl⟩ (Nat.le_of_ble_eq_true rfl) (Nat.le_of_ble_eq_true rfl)
        · refine x_iconst (M := M_X12_isSooner) dX12_isSooner_52 ?_
          refine x_goto (M := M_X12_isSooner) (tgt := 57) dX12_isSooner_53 (by decide) ?_
          exact x_zret (M := M_X12_isSooner) dX12_isSooner_57 rfl (Or.inr rfl) ⟨by rw [f_X12_isSooner, if_neg q0, if_pos q1, if_pos q2, if_neg q3], rfl⟩ (Nat.le_of_ble_eq_true rfl) (Nat.le_of_ble_eq_true rfl)
def f_X12_isAhead (w0 : Int64) (w1 : Int64) (w2 : Int64) (w3 : Int64) (w4 : Int64) (w5 : Int64) : Int32 := if 0 ≤ (lg_cmp (f_X12_cross w0 w1 w2 w3) (Int64.ofNat ((0 : Fin 2) : Nat))) then if (lg_cmp (f_X12_cross w0 w1 w2 w3) (Int64.ofNat ((0 : Fin 2) : Nat))) = 0 then if 0 ≤ (lg_cmp (f_X12_cross w0 w1 w4 w5) (Int64.ofNat ((0 : Fin 2) : Nat))) then if (lg_cmp (f_X12_cross w0 w1 w4 w5) (Int64.ofNat ((0 : Fin 2) : Nat))) = 0 then if (Int32.ofInt 1) < (Int32.ofInt 1) then (Int32.ofInt 1) else (if (Int32.ofInt 1) = (Int32.ofInt 1) then if 0 ≤ (lg_cmp (f_X12_cross w2 w3 w4 w5) (Int64.ofNat ((0 : Fin 2) : Nat))) then (Int32.ofInt 0) else ((Int32.ofInt 1)) else ((Int32.ofInt 0))) else (if (Int32.ofInt 1) < (Int32.ofInt 2) then (Int32.ofInt 1) else (if (Int32.ofInt 1) = (Int32.ofInt 2) then if 0 ≤ (lg_cmp (f_X12_cross w2 w3 w4 w5) (Int64.ofNat ((0 : Fin 2) : Nat))) then (Int32.ofInt 0) else ((Int32.ofInt 1)) else ((Int32.ofInt 0)))) else (if (Int32.ofInt 1) < (Int32.ofInt 0) then (Int32.ofInt 1) else (if (Int32.ofInt 1) = (Int32.ofInt 0) then if 0 ≤ (lg_cmp (f_X12_cross w2 w3 w4 w5) (Int64.ofNat ((0 : Fin 2) : Nat))) then (Int32.ofInt 0) else ((Int32.ofInt 1)) else ((Int32.ofInt 0)))) else (if 0 ≤ (lg_cmp (f_X12_cross w0 w1 w4 w5) (Int64.ofNat ((0 : Fin 2) : Nat))) then if (lg_cmp (f_X12_cross w0 w1 w4 w5) (Int64.ofNat ((0 : Fin 2) : Nat))) = 0 then if (Int32.ofInt 2) < (Int32.ofInt 1) then (Int32.ofInt 1) else (if (Int32.ofInt 2) = (Int32.ofInt 1) then if 0 ≤ (lg_cmp (f_X12_cross w2 w3 w4 w5) (Int64.ofNat ((0 : Fin 2) : Nat))) then (Int32.ofInt 0) else ((Int32.ofInt 1)) else ((Int32.ofInt 0))) else (if (Int32.ofInt 2) < (Int32.ofInt 2) then (Int32.ofInt 1) else (if (Int32.ofInt 2) = (Int32.ofInt 2) then if 0 ≤ (lg_cmp (f_X12_cross w2 w3 w4 w5) (Int64.ofNat ((0 : Fin 2) : Nat))) then (Int32.ofInt 0) else ((Int32.ofInt 1)) else ((Int32.ofInt 0)))) else (if (Int32.ofInt 2) < (Int32.ofInt 0) then (Int32.ofInt 1) else (if (Int32.ofInt 2) = (Int32.ofInt 0) then if 0 ≤ (lg_cmp (f_X12_cross w2 w3 w4 w5) (Int64.ofNat ((0 : Fin 2) : Nat))) then (Int32.ofInt 0) else ((Int32.ofInt 1)) else ((Int32.ofInt 0))))) else (if 0 ≤ (lg_cmp (f_X12_cross w0 w1 w4 w5) (Int64.ofNat ((0 : Fin 2) : Nat))) then if (lg_cmp (f_X12_cross w0 w1 w4 w5) (Int64.ofNat ((0 : Fin 2) : Nat))) = 0 then if (Int32.ofInt 0) < (Int32.ofInt 1) then (Int32.ofInt 1) else (if (Int32.ofInt 0) = (Int32.ofInt 1) then if 0 ≤ (lg_cmp (f_X12_cross w2 w3 w4 w5) (Int64.ofNat ((0 : Fin 2) : Nat))) then (Int32.ofInt 0) else ((Int32.ofInt 1)) else ((Int32.ofInt 0))) else (if (Int32.ofInt 0) < (Int32.ofInt 2) then (Int32.ofInt 1) else (if (Int32.ofInt 0) = (Int32.ofInt 2) then if 0 ≤ (lg_cmp (f_X12_cross w2 w3 w4 w5) (Int64.ofNat ((0 : Fin 2) : Nat))) then (Int32.ofInt 0) else ((Int32.ofInt 1)) else ((Int32.ofInt 0)))) else (if (Int32.ofInt 0) < (Int32.ofInt 0) then (Int32.ofInt 1) else (if (Int32.ofInt 0) = (Int32.ofInt 0) then if 0 ≤ (lg_cmp (f_X12_cross w2 w3 w4 w5) (Int64.ofNat ((0 : Fin 2) : Nat))) then (Int32.ofInt 0) else ((Int32.ofInt 1)) else ((Int32.ofInt 0)))))
theorem b_X12_isAhead (w0 : Int64) (w1 : Int64) (w2 : Int64) (w3 : Int64) (w4 : Int64) (w5 : Int64) : f_X12_isAhead w0 w1 w2 w3 w4 w5 = 0 ∨ f_X12_isAhead w0 w1 w2 w3 w4 w5 = 1 := (ite01 (ite01 (ite01 (ite01 (ite01 (Or.inr rfl) (ite01 (ite01 (Or.inl rfl) (Or.inr rfl)) (Or.inl rfl))) (ite01 (Or.inr rfl) (ite01 (ite01 (Or.inl rfl) (Or.inr rfl)) (Or.inl rfl)))) (ite01 (Or.inr rfl) (ite01 (ite01 (Or.inl rfl) (Or.inr rfl)) (Or.inl rfl)))) (ite01 (ite01 (ite01 (Or.inr rfl) (ite01 (ite01 (Or.inl rfl) (Or.inr rfl)) (Or.inl rfl))) (ite01 (Or.inr rfl) (ite01 (ite01 (Or.inl rfl) (Or.inr rfl)) (Or.inl rfl)))) (ite01 (Or.inr rfl) (ite01 (ite01 (Or.inl rfl) (Or.inr rfl)) (Or.inl rfl))))) (ite01 (ite01 (ite01 (Or.inr rfl) (ite01 (ite01 (Or.inl rfl) (Or.inr rfl)) (Or.inl rfl))) (ite01 (Or.inr rfl) (ite01 (ite01 (Or.inl rfl) (Or.inr rfl)) (Or.inl rfl)))) (ite01 (Or.inr rfl) (ite01 (ite01 (Or.inl rfl) (Or.inr rfl)) (Or.inl rfl)))))
set_option maxHeartbeats 8000000 in
set_option maxRecDepth 20000 in
theorem p_X12_isAhead {l : Launch} {E : EE} (hl : l.stackTraces = false) {h : HP} {w0 : Int64} {w1 : Int64} {w2 : Int64} {w3 : Int64} {w4 : Int64} {w5 : Int64} : en_C l E M_X12_isAhead 1 0 0 [.long w0, .long w1, .long w2, .long w3, .long w4, .long w5] h (pR (some (.int (f_X12_isAhead w0 w1 w2 w3 w4 w5))) h) := by
  refine en_mk m_X12_isAhead rfl hl (Nat.le_of_ble_eq_true rfl) ?_
  refine x_lload_n (M := M_X12_isAhead) dX12_isAhead_0 rfl ?_
  refine x_lload_n (M := M_X12_isAhead) dX12_isAhead_1 rfl ?_
  refine x_lload (M := M_X12_isAhead) dX12_isAhead_2 rfl ?_
  refine x_lload (M := M_X12_isAhead) dX12_isAhead_4 rfl ?_
  refine x_callSR (M := M_X12_isAhead) (M' := M_X12_cross) rfl rfl dX12_isAhead_6 m_X12_cross t_3265 t_3266 (p_X12_cross hl) rfl rfl (Nat.le_of_ble_eq_true rfl) (Nat.le_of_ble_eq_true rfl) (Nat.le_of_ble_eq_true rfl) (Nat.le_of_ble_eq_true rfl) ?_
  refine x_lstore (M := M_X12_isAhead) dX12_isAhead_9 (by decide) rfl ?_
  refine x_norm (lv' := [some (.long w0), none, some (.long w1), none, some (.long w2), none, some (.long w3), none, some (.long w4), none, some (.long w5), none, some (.long (f_X12_cross w0 w1 w2 w3)), none, none, none, none, none]) rfl rfl rfl rfl rfl ?_
  refine x_lload_n (M := M_X12_isAhead) dX12_isAhead_11 rfl ?_
  refine x_lload_n (M := M_X12_isAhead) dX12_isAhead_12 rfl ?_
  refine x_lload (M := M_X12_isAhead) dX12_isAhead_13 rfl ?_
  refine x_lload (M := M_X12_isAhead) dX12_isAhead_15 rfl ?_
  refine x_callSR (M := M_X12_isAhead) (M' := M_X12_cross) rfl rfl dX12_isAhead_17 m_X12_cross t_3265 t_3266 (p_X12_cross hl) rfl rfl (Nat.le_of_ble_eq_true rfl) (Nat.le_of_ble_eq_true rfl) (Nat.le_of_ble_eq_true rfl) (Nat.le_of_ble_eq_true rfl) ?_
  refine x_lstore (M := M_X12_isAhead) dX12_isAhead_20 (by decide) rfl ?_
  refine x_norm (lv' := [some (.long w0), none, some (.long w1), none, some (.long w2), none, some (.long w3), none, some (.long w4), none, some (.long w5), none, some (.long (f_X12_cross w0 w1 w2 w3)), none, some (.long (f_X12_cross w0 w1 w4 w5)), none, none, none]) rfl rfl rfl rfl rfl ?_
  refine x_lload (M := M_X12_isAhead) dX12_isAhead_22 rfl ?_
  refine x_lconst (M := M_X12_isAhead) dX12_isAhead_24 ?_
  refine x_lcmp (M := M_X12_isAhead) dX12_isAhead_25 ?_
  refine x_if_ge (M := M_X12_isAhead) (tgt := 33) dX12_isAhead_26 (by decide) (fun q0 => ?_) (fun q0 => ?_)
  · refine x_lload (M := M_X12_isAhead) dX12_isAhead_33 rfl ?_
    refine x_lconst (M := M_X12_isAhead) dX12_isAhead_35 ?_
    refine x_lcmp (M := M_X12_isAhead) dX12_isAhead_36 ?_
    refine x_if_ne (M := M_X12_isAhead) (tgt := 44) dX12_isAhead_37 (by decide) (fun q1 => ?_) (fun q1 => ?_)
    · refine x_iconst (M := M_X12_isAhead) dX12_isAhead_44 ?_
      refine x_istore (M := M_X12_isAhead) dX12_isAhead_45 (by decide) rfl ?_
      refine x_norm (lv' := [some (.long w0), none, some (.long w1), none, some (.long w2), none, some (.long w3), none, some (.long w4), none, some (.long w5), none, some (.long (f_X12_cross w0 w1 w2 w3)), none, some (.long (f_X12_cross w0 w1 w4 w5)), none, some (.int (Int32.ofInt 2)), none]) rfl rfl rfl rfl rfl ?_
      refine x_lload (M := M_X12_isAhead) dX12_isAhead_47 rfl ?_
      refine x_lconst (M := M_X12_isAhead) dX12_isAhead_49 ?_
      refine x_lcmp (M := M_X12_isAhead) dX12_isAhead_50 ?_
      refine x_if_ge (M := M_X12_isAhead) (tgt := 58) dX12_isAhead_51 (by decide) (fun q2 => ?_) (fun q2 => ?_)
      · refine x_lload (M := M_X12_isAhead) dX12_isAhead_58 rfl ?_
        refine x_lconst (M := M_X12_isAhead) dX12_isAhead_60 ?_
        refine x_lcmp (M := M_X12_isAhead) dX12_isAhead_61 ?_
        refine x_if_ne (M := M_X12_isAhead) (tgt := 69) dX12_isAhead_62 (by decide) (fun q3 => ?_) (fun q3 => ?_)
        · refine x_iconst (M := M_X12_isAhead) dX12_isAhead_69 ?_
          refine x_istore (M := M_X12_isAhead) dX12_isAhead_70 (by decide) rfl ?_
          refine x_norm (lv' := [some (.long w0), none, some (.long w1), none, some (.long w2), none, some (.long w3), none, some (.long w4), none, some (.long w5), none, some (.long (f_X12_cross w0 w1 w2 w3)), none, some (.long (f_X12_cross w0 w1 w4 w5)), none, some (.int (Int32.ofInt 2)), some (.int (Int32.ofInt 2))]) rfl rfl rfl rfl rfl ?_
          refine x_iload (M := M_X12_isAhead) dX12_isAhead_72 rfl ?_
          refine x_iload (M := M_X12_isAhead) dX12_isAhead_74 rfl ?_
          refine x_icmp_lt (M := M_X12_isAhead) (tgt := 102) dX12_isAhead_76 (by decide) (fun q4 => ?_) (fun q4 => ?_)
          · refine x_iconst (M := M_X12_isAhead) dX12_isAhead_102 ?_
            refine x_goto (M := M_X12_isAhead) (tgt := 107) dX12_isAhead_103 (by decide) ?_
            exact x_zret (M := M_X12_isAhead) dX12_isAhead_107 rfl (Or.inr rfl) ⟨by rw [f_X12_isAhead, if_pos q0, if_neg q1, if_pos q2, if_neg q3, if_pos q4], rfl⟩ (Nat.le_of_ble_eq_true rfl) (Nat.le_of_ble_eq_true rfl)
          · refine x_iload (M := M_X12_isAhead) dX12_isAhead_79 rfl ?_
            refine x_iload (M := M_X12_isAhead) dX12_isAhead_81 rfl ?_
            refine x_icmp_ne (M := M_X12_isAhead) (tgt := 106) dX12_isAhead_83 (by decide) (fun q5 => ?_) (fun q5 => ?_)
            · refine x_iconst (M := M_X12_isAhead) dX12_isAhead_106 ?_
              exact x_zret (M := M_X12_isAhead) dX12_isAhead_107 rfl (Or.inl rfl) ⟨by rw [f_X12_isAhead, if_pos q0, if_neg q1, if_pos q2, if_neg q3, if_neg q4, if_neg q5], rfl⟩ (Nat.le_of_ble_eq_true rfl) (Nat.le_of_ble_eq_true rfl)
            · refine x_lload (M := M_X12_isAhead) dX12_isAhead_86 rfl ?_
              refine x_lload (M := M_X12_isAhead) dX12_isAhead_88 rfl ?_
              refine x_lload (M := M_X12_isAhead) dX12_isAhead_90 rfl ?_
              refine x_lload (M := M_X12_isAhead) dX12_isAhead_92 rfl ?_
              refine x_callSR (M := M_X12_isAhead) (M' := M_X12_cross) rfl rfl dX12_isAhead_94 m_X12_cross t_3265 t_3266 (p_X12_cross hl) rfl rfl (Nat.le_of_ble_eq_true rfl) (Nat.le_of_ble_eq_true rfl) (Nat.le_of_ble_eq_true rfl) (Nat.le_of_ble_eq_true rfl) ?_
              refine x_lconst (M := M_X12_isAhead) dX12_isAhead_97 ?_
              refine x_lcmp (M := M_X12_isAhead) dX12_isAhead_98 ?_
              refine x_if_ge (M := M_X12_isAhead) (tgt := 106) dX12_isAhead_99 (by decide) (fun q6 => ?_) (fun q6 => ?_)
              · refine x_iconst (M := M_X12_isAhead) dX12_isAhead_106 ?_
                exact x_zret (M := M_X12_isAhead) dX12_isAhead_107 rfl (Or.inl rfl) ⟨by rw [f_X12_isAhead, if_pos q0, if_neg q1, if_pos q2, if_neg q3, if_neg q4, if_pos q5, if_pos q6], rfl⟩ (Nat.le_of_ble_eq_true rfl) (Nat.le_of_ble_eq_true rfl)
              · refine x_iconst (M := M_X12_isAhead) dX12_isAhead_102 ?_
                refine x_goto (M := M_X12_isAhead) (tgt := 107) dX12_isAhead_103 (by decide) ?_
                exact x_zret (M := M_X12_isAhead) dX12_isAhead_107 rfl (Or.inr rfl) ⟨by rw [f_X12_isAhead, if_pos q0, if_neg q1, if_pos q2, if_neg q3, if_neg q4, if_pos q5, if_neg q6], rfl⟩ (Nat.le_of_ble_eq_true rfl) (Nat.le_of_ble_eq_true rfl)
        · refine x_iconst (M := M_X12_isAhead) dX12_isAhead_65 ?_
          refine x_goto (M := M_X12_isAhead) (tgt := 70) dX12_isAhead_66 (by decide) ?_
          refine x_istore (M := M_X12_isAhead) dX12_isAhead_70 (by decide) rfl ?_
          refine x_norm (lv' := [some (.long w0), none, some (.long w1), none, some (.long w2), none, some (.long w3), none, some (.long w4), none, some (.long w5), none, some (.long (f_X12_cross w0 w1 w2 w3)), none, some (.long (f_X12_cross w0 w1 w4 w5)), none, some (.int (Int32.ofInt 2)), some (.int (Int32.ofInt 1))]) rfl rfl rfl rfl rfl ?_
          refine x_iload (M := M_X12_isAhead) dX12_isAhead_72 rfl ?_
          refine x_iload (M := M_X12_isAhead) dX12_isAhead_74 rfl ?_
          refine x_icmp_lt (M := M_X12_isAhead) (tgt := 102) dX12_isAhead_76 (by decide) (fun q4 => ?_) (fun q4 => ?_)
          · refine x_iconst (M := M_X12_isAhead) dX12_isAhead_102 ?_
            refine x_goto (M := M_X12_isAhead) (tgt := 107) dX12_isAhead_103 (by decide) ?_
            exact x_zret (M := M_X12_isAhead) dX12_isAhead_107 rfl (Or.inr rfl) ⟨by rw [f_X12_isAhead, if_pos q0, if_neg q1, if_pos q2, if_pos q3, if_pos q4], rfl⟩ (Nat.le_of_ble_eq_true rfl) (Nat.le_of_ble_eq_true rfl)
          · refine x_iload (M := M_X12_isAhead) dX12_isAhead_79 rfl ?_
            refine x_iload (M := M_X12_isAhead) dX12_isAhead_81 rfl ?_
            refine x_icmp_ne (M := M_X12_isAhead) (tgt := 106) dX12_isAhead_83 (by decide) (fun q5 => ?_) (fun q5 => ?_)
            · refine x_iconst (M := M_X12_isAhead) dX12_isAhead_106 ?_
              exact x_zret (M := M_X12_isAhead) dX12_isAhead_107 rfl (Or.inl rfl) ⟨by rw [f_X12_isAhead, if_pos q0, if_neg q1, if_pos q2, if_pos q3, if_neg q4, if_neg q5], rfl⟩ (Nat.le_of_ble_eq_true rfl) (Nat.le_of_ble_eq_true rfl)
            · refine x_lload (M := M_X12_isAhead) dX12_isAhead_86 rfl ?_
              refine x_lload (M := M_X12_isAhead) dX12_isAhead_88 rfl ?_
              refine x_lload (M := M_X12_isAhead) dX12_isAhead_90 rfl ?_
              refine x_lload (M := M_X12_isAhead) dX12_isAhead_92 rfl ?_
              refine x_callSR (M := M_X12_isAhead) (M' := M_X12_cross) rfl rfl dX12_isAhead_94 m_X12_cross t_3265 t_3266 (p_X12_cross hl) rfl rfl (Nat.le_of_ble_eq_true rfl) (Nat.le_of_ble_eq_true rfl) (Nat.le_of_ble_eq_true rfl) (Nat.le_of_ble_eq_true rfl) ?_
              refine x_lconst (M := M_X12_isAhead) dX12_isAhead_97 ?_
              refine x_lcmp (M := M_X12_isAhead) dX12_isAhead_98 ?_
              refine x_if_ge (M := M_X12_isAhead) (tgt := 106) dX12_isAhead_99 (by decide) (fun q6 => ?_) (fun q6 => ?_)
              · refine x_iconst (M := M_X12_isAhead) dX12_isAhead_106 ?_
                exact x_zret (M := M_X12_isAhead) dX12_isAhead_107 rfl (Or.inl rfl) ⟨by rw [f_X12_isAhead, if_pos q0, if_neg q1, if_pos q2, if_pos q3, if_neg q4, if_pos q5, if_pos q6], rfl⟩ (Nat.le_of_ble_eq_true rfl) (Nat.le_of_ble_eq_true rfl)
              · refine x_iconst (M := M_X12_isAhead) dX12_isAhead_102 ?_
                refine x_goto (M := M_X12_isAhead) (tgt := 107) dX12_isAhead_103 (by decide) ?_
                exact x_zret (M := M_X12_isAhead) dX12_isAhead_107 rfl (Or.inr rfl) ⟨by rw [f_X12_isAhead, if_pos q0, if_neg q1, if_pos q2, if_pos q3, if_neg q4, if_pos q5, if_neg q6], rfl⟩ (Nat.le_of_ble_eq_true rfl) (Nat.le_of_ble_eq_true rfl)
      · refine x_iconst (M := M_X12_isAhead) dX12_isAhead_54 ?_
        refine x_goto (M := M_X12_isAhead) (tgt := 70) dX12_isAhead_55 (by decide) ?_
        refine x_istore (M := M_X12_isAhead) dX12_isAhead_70 (by decide) rfl ?_
        refine x_norm (lv' := [some (.long w0), none, some (.long w1), none, some (.long w2), none, some (.long w3), none, some (.long w4), none, some (.long w5), none, some (.long (f_X12_cross w0 w1 w2 w3)), none, some (.long (f_X12_cross w0 w1 w4 w5)), none, some (.int (Int32.ofInt 2)), some (.int (Int32.ofInt 0))]) rfl rfl rfl rfl rfl ?_
        refine x_iload (M := M_X12_isAhead) dX12_isAhead_72 rfl ?_
        refine x_iload (M := M_X12_isAhead) dX12_isAhead_74 rfl ?_
        refine x_icmp_lt (M := M_X12_isAhead) (tgt := 102) dX12_isAhead_76 (by decide) (fun q3 => ?_) (fun q3 => ?_)
        · refine x_iconst (M := M_X12_isAhead) dX12_isAhead_102 ?_
          refine x_goto (M := M_X12_isAhead) (tgt := 107) dX12_isAhead_103 (by decide) ?_
          exact x_zret (M := M_X12_isAhead) dX12_isAhead_107 rfl (Or.inr rfl) ⟨by rw [f_X12_isAhead, if_pos q0, if_neg q1, if_neg q2, if_pos q3], rfl⟩ (Nat.le_of_ble_eq_true rfl) (Nat.le_of_ble_eq_true rfl)
        · refine x_iload (M := M_X12_isAhead) dX12_isAhead_79 rfl ?_
          refine x_iload (M := M_X12_isAhead) dX12_isAhead_81 rfl ?_
          refine x_icmp_ne (M := M_X12_isAhead) (tgt := 106) dX12_isAhead_83 (by decide) (fun q4 => ?_) (fun q4 => ?_)
          · refine x_iconst (M := M_X12_isAhead) dX12_isAhead_106 ?_
            exact x_zret (M := M_X12_isAhead) dX12_isAhead_107 rfl (Or.inl rfl) ⟨by rw [f_X12_isAhead, if_pos q0, if_neg q1, if_neg q2, if_neg q3, if_neg q4], rfl⟩ (Nat.le_of_ble_eq_true rfl) (Nat.le_of_ble_eq_true rfl)
          · refine x_lload (M := M_X12_isAhead) dX12_isAhead_86 rfl ?_
            refine x_lload (M := M_X12_isAhead) dX12_isAhead_88 rfl ?_
            refine x_lload (M := M_X12_isAhead) dX12_isAhead_90 rfl ?_
            refine x_lload (M := M_X12_isAhead) dX12_isAhead_92 rfl ?_
            refine x_callSR (M := M_X12_isAhead) (M' := M_X12_cross) rfl rfl dX12_isAhead_94 m_X12_cross t_3265 t_3266 (p_X12_cross hl) rfl rfl (Nat.le_of_ble_eq_true rfl) (Nat.le_of_ble_eq_true rfl) (Nat.le_of_ble_eq_true rfl) (Nat.le_of_ble_eq_true rfl) ?_
            refine x_lconst (M := M_X12_isAhead) dX12_isAhead_97 ?_
            refine x_lcmp (M := M_X12_isAhead) dX12_isAhead_98 ?_
            refine x_if_ge (M := M_X12_isAhead) (tgt := 106) dX12_isAhead_99 (by decide) (fun q5 => ?_) (fun q5 => ?_)
            · refine x_iconst (M := M_X12_isAhead) dX12_isAhead_106 ?_
              exact x_zret (M := M_X12_isAhead) dX12_isAhead_107 rfl (Or.inl rfl) ⟨by rw [f_X12_isAhead, if_pos q0, if_neg q1, if_neg q2, if_neg q3, if_pos q4, if_pos q5], rfl⟩ (Nat.le_of_ble_eq_true rfl) (Nat.le_of_ble_eq_true rfl)
            · refine x_iconst (M := M_X12_isAhead) dX12_isAhead_102 ?_
              refine x_goto (M := M_X12_isAhead) (tgt := 107) dX12_isAhead_103 (by decide) ?_
              exact x_zret (M := M_X12_isAhead) dX12_isAhead_107 rfl (Or.inr rfl) ⟨by rw [f_X12_isAhead, if_pos q0, if_neg q1, if_neg q2, if_neg q3, if_pos q4, if_neg q5], rfl⟩ (Nat.le_of_ble_eq_true rfl) (Nat.le_of_ble_eq_true rfl)
    · refine x_iconst (M := M_X12_isAhead) dX12_isAhead_40 ?_
      refine x_goto (M := M_X12_isAhead) (tgt := 45) dX12_isAhead_41 (by decide) ?_
      refine x_istore (M := M_X12_isAhead) dX12_isAhead_45 (by decide) rfl ?_
      refine x_norm (lv' := [some (.long w0), none, some (.long w1), none, some (.long w2), none, some (.long w3), none, some (.long w4), none, some (.long w5), none, some (.long (f_X12_cross w0 w1 w2 w3)), none, some (.long (f_X12_cross w0 w1 w4 w5)), none, some (.int (Int32.ofInt 1)), none]) rfl rfl rfl rfl rfl ?_
      refine x_lload (M := M_X12_isAhead) dX12_isAhead_47 rfl ?_
      refine x_lconst (M := M_X12_isAhead) dX12_isAhead_49 ?_
      refine x_lcmp (M := M_X12_isAhead) dX12_isAhead_50 ?_
      refine x_if_ge (M := M_X12_isAhead) (tgt := 58) dX12_isAhead_51 (by decide) (fun q2 => ?_) (fun q2 => ?_)
      · refine x_lload (M := M_X12_isAhead) dX12_isAhead_58 rfl ?_
        refine x_lconst (M := M_X12_isAhead) dX12_isAhead_60 ?_
        refine x_lcmp (M := M_X12_isAhead) dX12_isAhead_61 ?_
        refine x_if_ne (M := M_X12_isAhead) (tgt := 69) dX12_isAhead_62 (by decide) (fun q3 => ?_) (fun q3 => ?_)
        · refine x_iconst (M := M_X12_isAhead) dX12_isAhead_69 ?_
          refine x_istore (M := M_X12_isAhead) dX12_isAhead_70 (by decide) rfl ?_
          refine x_norm (lv' := [some (.long w0), none, some (.long w1), none, some (.long w2), none, some (.long w3), none, some (.long w4), none, some (.long w5), none, some (.long (f_X12_cross w0 w1 w2 w3)), none, some (.long (f_X12_cross w0 w1 w4 w5)), none, some (.int (Int32.ofInt 1)), some (.int (Int32.ofInt 2))]) rfl rfl rfl rfl rfl ?_
          refine x_iload (M := M_X12_isAhead) dX12_isAhead_72 rfl ?_
          refine x_iload (M := M_X12_isAhead) dX12_isAhead_74 rfl ?_
          refine x_icmp_lt (M := M_X12_isAhead) (tgt := 102) dX12_isAhead_76 (by decide) (fun q4 => ?_) (fun q4 => ?_)
          · refine x_iconst (M := M_X12_isAhead) dX12_isAhead_102 ?_
            refine x_goto (M := M_X12_isAhead) (tgt := 107) dX12_isAhead_103 (by decide) ?_
            exact x_zret (M := M_X12_isAhead) dX12_isAhead_107 rfl (Or.inr rfl) ⟨by rw [f_X12_isAhead, if_pos q0, if_pos q1, if_pos q2, if_neg q3, if_pos q4], rfl⟩ (Nat.le_of_ble_eq_true rfl) (Nat.le_of_ble_eq_true rfl)
          · refine x_iload (M := M_X12_isAhead) dX12_isAhead_79 rfl ?_
            refine x_iload (M := M_X12_isAhead) dX12_isAhead_81 rfl ?_
            refine x_icmp_ne (M := M_X12_isAhead) (tgt := 106) dX12_isAhead_83 (by decide) (fun q5 => ?_) (fun q5 => ?_)
            · refine x_iconst (M := M_X12_isAhead) dX12_isAhead_106 ?_
              exact x_zret (M := M_X12_isAhead) dX12_isAhead_107 rfl (Or.inl rfl) ⟨by rw [f_X12_isAhead, if_pos q0, if_pos q1, if_pos q2, if_neg q3, if_neg q4, if_neg q5], rfl⟩ (Nat.le_of_ble_eq_true rfl) (Nat.le_of_ble_eq_true rfl)
            · refine x_lload (M := M_X12_isAhead) dX12_isAhead_86 rfl ?_
              refine x_lload (M := M_X12_isAhead) dX12_isAhead_88 rfl ?_
              refine x_lload (M := M_X12_isAhead) dX12_isAhead_90 rfl ?_
              refine x_lload (M := M_X12_isAhead) dX12_isAhead_92 rfl ?_
              refine x_callSR (M := M_X12_isAhead) (M' := M_X12_cross) rfl rfl dX12_isAhead_94 m_X12_cross t_3265 t_3266 (p_X12_cross hl) rfl rfl (Nat.le_of_ble_eq_true rfl) (Nat.le_of_ble_eq_true rfl) (Nat.le_of_ble_eq_true rfl) (Nat.le_of_ble_eq_true rfl) ?_
              refine x_lconst (M := M_X12_isAhead) dX12_isAhead_97 ?_
              refine x_lcmp (M := M_X12_isAhead) dX12_isAhead_98 ?_
              refine x_if_ge (M := M_X12_isAhead) (tgt := 106) dX12_isAhead_99 (by decide) (fun q6 => ?_) (fun q6 => ?_)
              · refine x_iconst (M := M_X12_isAhead) dX12_isAhead_106 ?_
                exact x_zret (M := M_X12_isAhead) dX12_isAhead_107 rfl (Or.inl rfl) ⟨by rw [f_X12_isAhead, if_pos q0, if_pos q1, if_pos q2, if_neg q3, if_neg q4, if_pos q5, if_pos q6], rfl⟩ (Nat.le_of_ble_eq_true rfl) (Nat.le_of_ble_eq_true rfl)
              · refine x_iconst (M := M_X12_isAhead) dX12_isAhead_102 ?_
                refine x_goto (M := M_X12_isAhead) (tgt := 107) dX12_isAhead_103 (by decide) ?_
                exact x_zret (M := M_X12_isAhead) dX12_isAhead_107 rfl (Or.inr rfl) ⟨by rw [f_X12_isAhead, if_pos q0, if_pos q1, if_pos q2, if_neg q3, if_neg q4, if_pos q5, if_neg q6], rfl⟩ (Nat.le_of_ble_eq_true rfl) (Nat.le_of_ble_eq_true rfl)
        · refine x_iconst (M := M_X12_isAhead) dX12_isAhead_65 ?_
          refine x_goto (M := M_X12_isAhead) (tgt := 70) dX12_isAhead_66 (by decide) ?_
          refine x_istore (M := M_X12_isAhead) dX12_isAhead_70 (by decide) rfl ?_
          refine x_norm (lv' := [some (.long w0), none, some (.long w1), none, some (.long w2), none, some (.long w3), none, some (.long w4), none, some (.long w5), none, some (.long (f_X12_cross w0 w1 w2 w3)), none, some (.long (f_X12_cross w0 w1 w4 w5)), none, some (.int (Int32.ofInt 1)), some (.int (Int32.ofInt 1))]) rfl rfl rfl rfl rfl ?_
          refine x_iload (M := M_X12_isAhead) dX12_isAhead_72 rfl ?_
          refine x_iload (M := M_X12_isAhead) dX12_isAhead_74 rfl ?_
          refine x_icmp_lt (M := M_X12_isAhead) (tgt := 102) dX12_isAhead_76 (by decide) (fun q4 => ?_) (fun q4 => ?_)
          · refine x_iconst (M := M_X12_isAhead) dX12_isAhead_102 ?_
            refine x_goto (M := M_X12_isAhead) (tgt := 107) dX12_isAhead_103 (by decide) ?_
            exact x_zret (M := M_X12_isAhead) dX12_isAhead_107 rfl (Or.inr rfl) ⟨by rw [f_X12_isAhead, if_pos q0, if_pos q1, if_pos q2, if_pos q3, if_pos q4], rfl⟩ (Nat.le_of_ble_eq_true rfl) (Nat.le_of_ble_eq_true rfl)
          · refine x_iload (M := M_X12_isAhead) dX12_isAhead_79 rfl ?_
            refine x_iload (M := M_X12_isAhead) dX12_isAhead_81 rfl ?_
            refine x_icmp_ne (M := M_X12_isAhead) (tgt := 106) dX12_isAhead_83 (by decide) (fun q5 => ?_) (fun q5 => ?_)
            · refine x_iconst (M := M_X12_isAhead) dX12_isAhead_106 ?_
              exact x_zret (M := M_X12_isAhead) dX12_isAhead_107 rfl (Or.inl rfl) ⟨by rw [f_X12_isAhead, if_pos q0, if_pos q1, if_pos q2, if_pos q3, if_neg q4, if_neg q5], rfl⟩ (Nat.le_of_ble_eq_true rfl) (Nat.le_of_ble_eq_true rfl)
            · refine x_lload (M := M_X12_isAhead) dX12_isAhead_86 rfl ?_
              refine x_lload (M := M_X12_isAhead) dX12_isAhead_88 rfl ?_
              refine x_lload (M := M_X12_isAhead) dX12_isAhead_90 rfl ?_
              refine x_lload (M := M_X12_isAhead) dX12_isAhead_92 rfl ?_
              refine x_callSR (M := M_X12_isAhead) (M' := M_X12_cross) rfl rfl dX12_isAhead_94 m_X12_cross t_3265 t_3266 (p_X12_cross hl) rfl rfl (Nat.le_of_ble_eq_true rfl) (Nat.le_of_ble_eq_true rfl) (Nat.le_of_ble_eq_true rfl) (Nat.le_of_ble_eq_true rfl) ?_
              refine x_lconst (M := M_X12_isAhead) dX12_isAhead_97 ?_
              refine x_lcmp (M := M_X12_isAhead) dX12_isAhead_98 ?_
              refine x_if_ge (M := M_X12_isAhead) (tgt := 106) dX12_isAhead_99 (by decide) (fun q6 => ?_) (fun q6 => ?_)
              · refine x_iconst (M := M_X12_isAhead) dX12_isAhead_106 ?_
                exact x_zret (M := M_X12_isAhead) dX12_isAhead_107 rfl (Or.inl rfl) ⟨by rw [f_X12_isAhead, if_pos q0, if_pos q1, if_pos q2, if_pos q3, if_neg q4, if_pos q5, if_pos q6], rfl⟩ (Nat.le_of_ble_eq_true rfl) (Nat.le_of_ble_eq_true rfl)
              · refine x_iconst (M := M_X12_isAhead) dX12_isAhead_102 ?_
                refine x_goto (M := M_X12_isAhead) (tgt := 107) dX12_isAhead_103 (by decide) ?_
                exact x_zret (M := M_X12_isAhead) dX12_isAhead_107 rfl (Or.inr rfl) ⟨by rw [f_X12_isAhead, if_pos q0, if_pos q1, if_pos q2, if_pos q3, if_neg q4, if_pos q5, if_neg q6], rfl⟩ (Nat.le_of_ble_eq_true rfl) (Nat.le_of_ble_eq_true rfl)
      · refine x_iconst (M := M_X12_isAhead) dX12_isAhead_54 ?_
        refine x_goto (M := M_X12_isAhead) (tgt := 70) dX12_isAhead_55 (by decide) ?_
        refine x_istore (M := M_X12_isAhead) dX12_isAhead_70 (by decide) rfl ?_
        refine x_norm (lv' := [some (.long w0), none, some (.long w1), none, some (.long w2), none, some (.long w3), none, some (.long w4), none, some (.long w5), none, some (.long (f_X12_cross w0 w1 w2 w3)), none, some (.long (f_X12_cross w0 w1 w4 w5)), none, some (.int (Int32.ofInt 1)), some (.int (Int32.ofInt 0))]) rfl rfl rfl rfl rfl ?_
        refine x_iload (M := M_X12_isAhead) dX12_isAhead_72 rfl ?_
        refine x_iload (M := M_X12_isAhead) dX12_isAhead_74 rfl ?_
        refine x_icmp_lt (M := M_X12_isAhead) (tgt := 102) dX12_isAhead_76 (by decide) (fun q3 => ?_) (fun q3 => ?_)
        · refine x_iconst (M := M_X12_isAhead) dX12_isAhead_102 ?_
          refine x_goto (M := M_X12_isAhead) (tgt := 107) dX12_isAhead_103 (by decide) ?_
          exact x_zret (M := M_X12_isAhead) dX12_isAhead_107 rfl (Or.inr rfl) ⟨by rw [f_X12_isAhead, if_pos q0, if_pos q1, if_neg q2, if_pos q3], rfl⟩ (Nat.le_of_ble_eq_true rfl) (Nat.le_of_ble_eq_true rfl)
        · refine x_iload (M := M_X12_isAhead) dX12_isAhead_79 rfl ?_
          refine x_iload (M := M_X12_isAhead) dX12_isAhead_81 rfl ?_
          refine x_icmp_ne (M := M_X12_isAhead) (tgt := 106) dX12_isAhead_83 (by decide) (fun q4 => ?_) (fun q4 => ?_)
          · refine x_iconst (M := M_X12_isAhead) dX12_isAhead_106 ?_
            exact x_zret (M := M_X12_isAhead) dX12_isAhead_107 rfl (Or.inl rfl) ⟨by rw [f_X12_isAhead, if_pos q0, if_pos q1, if_neg q2, if_neg q3, if_neg q4], rfl⟩ (Nat.le_of_ble_eq_true rfl) (Nat.le_of_ble_eq_true rfl)
          · refine x_lload (M := M_X12_isAhead) dX12_isAhead_86 rfl ?_
            refine x_lload (M := M_X12_isAhead) dX12_isAhead_88 rfl ?_
            refine x_lload (M := M_X12_isAhead) dX12_isAhead_90 rfl ?_
            refine x_lload (M := M_X12_isAhead) dX12_isAhead_92 rfl ?_
            refine x_callSR (M := M_X12_isAhead) (M' := M_X12_cross) rfl rfl dX12_isAhead_94 m_X12_cross t_3265 t_3266 (p_X12_cross hl) rfl rfl (Nat.le_of_ble_eq_true rfl) (Nat.le_of_ble_eq_true rfl) (Nat.le_of_ble_eq_true rfl) (Nat.le_of_ble_eq_true rfl) ?_
            refine x_lconst (M := M_X12_isAhead) dX12_isAhead_97 ?_
            refine x_lcmp (M := M_X12_isAhead) dX12_isAhead_98 ?_
            refine x_if_ge (M := M_X12_isAhead) (tgt := 106) dX12_isAhead_99 (by decide) (fun q5 => ?_) (fun q5 => ?_)
            · refine x_iconst (M := M_X12_isAhead) dX12_isAhead_106 ?_
              exact x_zret (M := M_X12_isAhead) dX12_isAhead_107 rfl (Or.inl rfl) ⟨by rw [f_X12_isAhead, if_pos q0, if_pos q1, if_neg q2, if_neg q3, if_pos q4, if_pos q5], rfl⟩ (Nat.le_of_ble_eq_true rfl) (Nat.le_of_ble_eq_true rfl)
            · refine x_iconst (M := M_X12_isAhead) dX12_isAhead_102 ?_
              refine x_goto (M := M_X12_isAhead) (tgt := 107) dX12_isAhead_103 (by decide) ?_
              exact x_zret (M := M_X12_isAhead) dX12_isAhead_107 rfl (Or.inr rfl) ⟨by rw [f_X12_isAhead, if_pos q0, if_pos q1, if_neg q2, if_neg q3, if_pos q4, if_neg q5], rfl⟩ (Nat.le_of_ble_eq_true rfl) (Nat.le_of_ble_eq_true rfl)
  · refine x_iconst (M := M_X12_isAhead) dX12_isAhead_29 ?_
    refine x_goto (M := M_X12_isAhead) (tgt := 45) dX12_isAhead_30 (by decide) ?_
    refine x_istore (M := M_X12_isAhead) dX12_isAhead_45 (by decide) rfl ?_
    refine x_norm (lv' := [some (.long w0), none, some (.long w1), none, some (.long w2), none, some (.long w3), none, some (.long w4), none, some (.long w5), none, some (.long (f_X12_cross w0 w1 w2 w3)), none, some (.long (f_X12_cross w0 w1 w4 w5)), none, some (.int (Int32.ofInt 0)), none]) rfl rfl rfl rfl rfl ?_
    refine x_lload (M := M_X12_isAhead) dX12_isAhead_47 rfl ?_
    refine x_lconst (M := M_X12_isAhead) dX12_isAhead_49 ?_
    refine x_lcmp (M := M_X12_isAhead) dX12_isAhead_50 ?_
    refine x_if_ge (M := M_X12_isAhead) (tgt := 58) dX12_isAhead_51 (by decide) (fun q1 => ?_) (fun q1 => ?_)
    · refine x_lload (M := M_X12_isAhead) dX12_isAhead_58 rfl ?_
      refine x_lconst (M := M_X12_isAhead) dX12_isAhead_60 ?_
      refine x_lcmp (M := M_X12_isAhead) dX12_isAhead_61 ?_
      refine x_if_ne (M := M_X12_isAhead) (tgt := 69) dX12_isAhead_62 (by decide) (fun q2 => ?_) (fun q2 => ?_)
      · refine x_iconst (M := M_X12_isAhead) dX12_isAhead_69 ?_
        refine x_istore (M := M_X12_isAhead) dX12_isAhead_70 (by decide) rfl ?_
        refine x_norm (lv' := [some (.long w0), none, some (.long w1), none, some (.long w2), none, some (.long w3), none, some (.long w4), none, some (.long w5), none, some (.long (f_X12_cross w0 w1 w2 w3)), none, some (.long (f_X12_cross w0 w1 w4 w5)), none, some (.int (Int32.ofInt 0)), some (.int (Int32.ofInt 2))]) rfl rfl rfl rfl rfl ?_
        refine x_iload (M := M_X12_isAhead) dX12_isAhead_72 rfl ?_
        refine x_iload (M := M_X12_isAhead) dX12_isAhead_74 rfl ?_
        refine x_icmp_lt (M := M_X12_isAhead) (tgt := 102) dX12_isAhead_76 (by decide) (fun q3 => ?_) (fun q3 => ?_)
        · refine x_iconst (M := M_X12_isAhead) dX12_isAhead_102 ?_
          refine x_goto (M := M_X12_isAhead) (tgt := 107) dX12_isAhead_103 (by decide) ?_
          exact x_zret (M := M_X12_isAhead) dX12_isAhead_107 rfl (Or.inr rfl) ⟨by rw [f_X12_isAhead, if_neg q0, if_pos q1, if_neg q2, if_pos q3], rfl⟩ (Nat.le_of_ble_eq_true rfl) (Nat.le_of_ble_eq_true rfl)
        · refine x_iload (M := M_X12_isAhead) dX12_isAhead_79 rfl ?_
          refine x_iload (M := M_X12_isAhead) dX12_isAhead_81 rfl ?_
          refine x_icmp_ne (M := M_X12_isAhead) (tgt := 106) dX12_isAhead_83 (by decide) (fun q4 => ?_) (fun q4 => ?_)
          · refine x_iconst (M := M_X12_isAhead) dX12_isAhead_106 ?_
            exact x_zret (M := M_X12_isAhead) dX12_isAhead_107 rfl (Or.inl rfl) ⟨by rw [f_X12_isAhead, if_neg q0, if_pos q1, if_neg q2, if_neg q3, if_neg q4], rfl⟩ (Nat.le_of_ble_eq_true rfl) (Nat.le_of_ble_eq_true rfl)
          · refine x_lload (M := M_X12_isAhead) dX12_isAhead_86 rfl ?_
            refine x_lload (M := M_X12_isAhead) dX12_isAhead_88 rfl ?_
            refine x_lload (M := M_X12_isAhead) dX12_isAhead_90 rfl ?_
            refine x_lload (M := M_X12_isAhead) dX12_isAhead_92 rfl ?_
            refine x_callSR (M := M_X12_isAhead) (M' := M_X12_cross) rfl rfl dX12_isAhead_94 m_X12_cross t_3265 t_3266 (p_X12_cross hl) rfl rfl (Nat.le_of_ble_eq_true rfl) (Nat.le_of_ble_eq_true rfl) (Nat.le_of_ble_eq_true rfl) (Nat.le_of_ble_eq_true rfl) ?_
            refine x_lconst (M := M_X12_isAhead) dX12_isAhead_97 ?_
            refine x_lcmp (M := M_X12_isAhead) dX12_isAhead_98 ?_
            refine x_if_ge (M := M_X12_isAhead) (tgt := 106) dX12_isAhead_99 (by decide) (fun q5 => ?_) (fun q5 => ?_)
            · refine x_iconst (M := M_X12_isAhead) dX12_isAhead_106 ?_
              exact x_zret (M := M_X12_isAhead) dX12_isAhead_107 rfl (Or.inl rfl) ⟨by rw [f_X12_isAhead, if_neg q0, if_pos q1, if_neg q2, if_neg q3, if_pos q4, if_pos q5], rfl⟩ (Nat.le_of_ble_eq_true rfl) (Nat.le_of_ble_eq_true rfl)
            · refine x_iconst (M := M_X12_isAhead) dX12_isAhead_102 ?_
              refine x_goto (M := M_X12_isAhead) (tgt := 107) dX12_isAhead_103 (by decide) ?_
              exact x_zret (M := M_X12_isAhead) dX12_isAhead_107 rfl (Or.inr rfl) ⟨by rw [f_X12_isAhead, if_neg q0, if_pos q1, if_neg q2, if_neg q3, if_pos q4, if_neg q5], rfl⟩ (Nat.le_of_ble_eq_true rfl) (Nat.le_of_ble_eq_true rfl)
      · refine x_iconst (M := M_X12_isAhead) dX12_isAhead_65 ?_
        refine x_goto (M := M_X12_isAhead) (tgt := 70) dX12_isAhead_66 (by decide) ?_
        refine x_istore (M := M_X12_isAhead) dX12_isAhead_70 (by decide) rfl ?_
        refine x_norm (lv' := [some (.long w0), none, some (.long w1), none, some (.long w2), none, some (.long w3), none, some (.long w4), none, some (.long w5), none, some (.long (f_X12_cross w0 w1 w2 w3)), none, some (.long (f_X12_cross w0 w1 w4 w5)), none, some (.int (Int32.ofInt 0)), some (.int (Int32.ofInt 1))]) rfl rfl rfl rfl rfl ?_
        refine x_iload (M := M_X12_isAhead) dX12_isAhead_72 rfl ?_
        refine x_iload (M := M_X12_isAhead) dX12_isAhead_74 rfl ?_
        refine x_icmp_lt (M := M_X12_isAhead) (tgt := 102) dX12_isAhead_76 (by decide) (fun q3 => ?_) (fun q3 => ?_)
        · refine x_iconst (M := M_X12_isAhead) dX12_isAhead_102 ?_
          refine x_goto (M := M_X12_isAhead) (tgt := 107) dX12_isAhead_103 (by decide) ?_
          exact x_zret (M := M_X12_isAhead) dX12_isAhead_107 rfl (Or.inr rfl) ⟨by rw [f_X12_isAhead, if_neg q0, if_pos q1, if_pos q2, if_pos q3], rfl⟩ (Nat.le_of_ble_eq_true rfl) (Nat.le_of_ble_eq_true rfl)
        · refine x_iload (M := M_X12_isAhead) dX12_isAhead_79 rfl ?_
          refine x_iload (M := M_X12_isAhead) dX12_isAhead_81 rfl ?_
          refine x_icmp_ne (M := M_X12_isAhead) (tgt := 106) dX12_isAhead_83 (by decide) (fun q4 => ?_) (fun q4 => ?_)
          · refine x_iconst (M := M_X12_isAhead) dX12_isAhead_106 ?_
            exact x_zret (M := M_X12_isAhead) dX12_isAhead_107 rfl (Or.inl rfl) ⟨by rw [f_X12_isAhead, if_neg q0, if_pos q1, if_pos q2, if_neg q3, if_neg q4], rfl⟩ (Nat.le_of_ble_eq_true rfl) (Nat.le_of_ble_eq_true rfl)
          · refine x_lload (M := M_X12_isAhead) dX12_isAhead_86 rfl ?_
            refine x_lload (M := M_X12_isAhead) dX12_isAhead_88 rfl ?_
            refine x_lload (M := M_X12_isAhead) dX12_isAhead_90 rfl ?_
            refine x_lload (M := M_X12_isAhead) dX12_isAhead_92 rfl ?_
            refine x_callSR (M := M_X12_isAhead) (M' := M_X12_cross) rfl rfl dX12_isAhead_94 m_X12_cross t_3265 t_3266 (p_X12_cross hl) rfl rfl (Nat.le_of_ble_eq_true rfl) (Nat.le_of_ble_eq_true rfl) (Nat.le_of_ble_eq_true rfl) (Nat.le_of_ble_eq_true rfl) ?_
            refine x_lconst (M := M_X12_isAhead) dX12_isAhead_97 ?_
            refine x_lcmp (M := M_X12_isAhead) dX12_isAhead_98 ?_
            refine x_if_ge (M := M_X12_isAhead) (tgt := 106) dX12_isAhead_99 (by decide) (fun q5 => ?_) (fun q5 => ?_)
            · refine x_iconst (M := M_X12_isAhead) dX12_isAhead_106 ?_
              exact x_zret (M := M_X12_isAhead) dX12_isAhead_107 rfl (Or.inl rfl) ⟨by rw [f_X12_isAhead, if_neg q0, if_pos q1, if_pos q2, if_neg q3, if_pos q4, if_pos q5], rfl⟩ (Nat.le_of_ble_eq_true rfl) (Nat.le_of_ble_eq_true rfl)
            · refine x_iconst (M := M_X12_isAhead) dX12_isAhead_102 ?_
              refine x_goto (M := M_X12_isAhead) (tgt := 107) dX12_isAhead_103 (by decide) ?_
              exact x_zret (M := M_X12_isAhead) dX12_isAhead_107 rfl (Or.inr rfl) ⟨by rw [f_X12_isAhead, if_neg q0, if_pos q1, if_pos q2, if_neg q3, if_pos q4, if_neg q5], rfl⟩ (Nat.le_of_ble_eq_true rfl) (Nat.le_of_ble_eq_true rfl)
    · refine x_iconst (M := M_X12_isAhead) dX12_isAhead_54 ?_
      refine x_goto (M := M_X12_isAhead) (tgt := 70) dX12_isAhead_55 (by decide) ?_
      refine x_istore (M := M_X12_isAhead) dX12_isAhead_70 (by decide) rfl ?_
      refine x_norm (lv' := [some (.long w0), none, some (.long w1), none, some (.long w2), none, some (.long w3), none, some (.long w4), none, some (.long w5), none, some (.long (f_X12_cross w0 w1 w2 w3)), none, some (.long (f_X12_cross w0 w1 w4 w5)), none, some (.int (Int32.ofInt 0)), some (.int (Int32.ofInt 0))]) rfl rfl rfl rfl rfl ?_
      refine x_iload (M := M_X12_isAhead) dX12_isAhead_72 rfl ?_
      refine x_iload (M := M_X12_isAhead) dX12_isAhead_74 rfl ?_
      refine x_icmp_lt (M := M_X12_isAhead) (tgt := 102) dX12_isAhead_76 (by decide) (fun q2 => ?_) (fun q2 => ?_)
      · refine x_iconst (M := M_X12_isAhead) dX12_isAhead_102 ?_
        refine x_goto (M := M_X12_isAhead) (tgt := 107) dX12_isAhead_103 (by decide) ?_
        exact x_zret (M := M_X12_isAhead) dX12_isAhead_107 rfl (Or.inr rfl) ⟨by rw [f_X12_isAhead, if_neg q0, if_neg q1, if_pos q2], rfl⟩ (Nat.le_of_ble_eq_true rfl) (Nat.le_of_ble_eq_true rfl)
      · refine x_iload (M := M_X12_isAhead) dX12_isAhead_79 rfl ?_
        refine x_iload (M := M_X12_isAhead) dX12_isAhead_81 rfl ?_
        refine x_icmp_ne (M := M_X12_isAhead) (tgt := 106) dX12_isAhead_83 (by decide) (fun q3 => ?_) (fun q3 => ?_)
        · refine x_iconst (M := M_X12_isAhead) dX12_isAhead_106 ?_
          exact x_zret (M := M_X12_isAhead) dX12_isAhead_107 rfl (Or.inl rfl) ⟨by rw [f_X12_isAhead, if_neg q0, if_neg q1, if_neg q2, if_neg q3], rfl⟩ (Nat.le_of_ble_eq_true rfl) (Nat.le_of_ble_eq_true rfl)
        · refine x_lload (M := M_X12_isAhead) dX12_isAhead_86 rfl ?_
          refine x_lload (M := M_X12_isAhead) dX12_isAhead_88 rfl ?_
          refine x_lload (M := M_X12_isAhead) dX12_isAhead_90 rfl ?_
          refine x_lload (M := M_X12_isAhead) dX12_isAhead_92 rfl ?_
          refine x_callSR (M := M_X12_isAhead) (M' := M_X12_cross) rfl rfl dX12_isAhead_94 m_X12_cross t_3265 t_3266 (p_X12_cross hl) rfl rfl (Nat.le_of_ble_eq_true rfl) (Nat.le_of_ble_eq_true rfl) (Nat.le_of_ble_eq_true rfl) (Nat.le_of_ble_eq_true rfl) ?_
          refine x_lconst (M := M_X12_isAhead) dX12_isAhead_97 ?_
          refine x_lcmp (M := M_X12_isAhead) dX12_isAhead_98 ?_
          refine x_if_ge (M := M_X12_isAhead) (tgt := 106) dX12_isAhead_99 (by decide) (fun q4 => ?_) (fun q4 => ?_)
          · refine x_iconst (M := M_X12_isAhead) dX12_isAhead_106 ?_
            exact x_zret (M := M_X12_isAhead) dX12_isAhead_107 rfl (Or.inl rfl) ⟨by rw [f_X12_isAhead, if_neg q0, if_neg q1, if_neg q2, if_pos q3, if_pos q4], rfl⟩ (Nat.le_of_ble_eq_true rfl) (Nat.le_of_ble_eq_true rfl)
          · refine x_iconst (M := M_X12_isAhead) dX12_isAhead_102 ?_
            refine x_goto (M := M_X12_isAhead) (tgt := 107) dX12_isAhead_103 (by decide) ?_
            exact x_zret (M := M_X12_isAhead) dX12_isAhead_107 rfl (Or.inr rfl) ⟨by rw [f_X12_isAhead, if_neg q0, if_neg q1, if_neg q2, if_pos q3, if_neg q4], rfl⟩ (Nat.le_of_ble_eq_true rfl) (Nat.le_of_ble_eq_true rfl)
def f_X12_isStraight (c67 : Nat → Int64) (c68 : Nat → Int64) (w0 : Int32) (w1 : Int32) (w2 : Int32) : Int32 := if (f_X12_turn (c67 w0.toNatClampNeg) (c68 w0.toNatClampNeg) (c67 w1.toNatClampNeg) (c68 w1.toNatClampNeg) (c67 w2.toNatClampNeg) (c68 w2.toNatClampNeg)) = 0 then (Int32.ofInt 1) else ((Int32.ofInt 0))
theorem b_X12_isStraight (c67 : Nat → Int64) (c68 : Nat → Int64) (w0 : Int32) (w1 : Int32) (w2 : Int32) : f_X12_isStraight c67 c68 w0 w1 w2 = 0 ∨ f_X12_isStraight c67 c68 w0 w1 w2 = 1 := (ite01 (Or.inr rfl) (Or.inl rfl))
theorem p_X12_isStraight {l : Launch} {E : EE} (hl : l.stackTraces = false) {h : HP} {c67 : Nat → Int64} {c68 : Nat → Int64} {w0 : Int32} {w1 : Int32} {w2 : Int32} {a : Nat} {fs : List Value} (ha : ob h a = some (.inr (15, fs))) {r67 n67 : Nat} (e67 : fs[67]? = some (.ref r67)) (o67 : ob h r67 = some (.inl (1, n67, .inr (.inl c67)))) {r68 n68 : Nat} (e68 : fs[68]? = some (.ref r68)) (o68 : ob h r68 = some (.inl (1, n68, .inr (.inl c68)))) (i0 : vp_in w0 n67) (i1 : vp_in w0 n68) (i2 : vp_in w1 n67) (i3 : vp_in w1 n68) (i4 : vp_in w2 n67) (i5 : vp_in w2 n68) : en_C l E M_X12_isStraight 2 0 0 [.ref a, .int w0, .int w1, .int w2] h (pR (some (.int (f_X12_isStraight c67 c68 w0 w1 w2))) h) := by
  refine en_mk m_X12_isStraight rfl hl (Nat.le_of_ble_eq_true rfl) ?_
  refine x_aload_n (M := M_X12_isStraight) dX12_isStraight_0 rfl ?_
  refine x_getf (M := M_X12_isStraight) (ci := 15) (C := RX12) (T := TX12) (N := 135) (ty := tyX12) cl15 dX12_isStraight_1 ha 67 (by decide) t_2458 e67 ?_
  refine x_iload_n (M := M_X12_isStraight) dX12_isStraight_4 rfl ?_
  refine x_lald (M := M_X12_isStraight) dX12_isStraight_5 o67 i0 ?_
  refine x_aload_n (M := M_X12_isStraight) dX12_isStraight_6 rfl ?_
  refine x_getf (M := M_X12_isStraight) (ci := 15) (C := RX12) (T := TX12) (N := 135) (ty := tyX12) cl15 dX12_isStraight_7 ha 68 (by decide) t_2459 e68 ?_
  refine x_iload_n (M := M_X12_isStraight) dX12_isStraight_10 rfl ?_
  refine x_lald (M := M_X12_isStraight) dX12_isStraight_11 o68 i1 ?_
  refine x_aload_n (M := M_X12_isStraight) dX12_isStraight_12 rfl ?_
  refine x_getf (M := M_X12_isStraight) (ci := 15) (C := RX12) (T := TX12) (N := 135) (ty := tyX12) cl15 dX12_isStraight_13 ha 67 (by decide) t_2458 e67 ?_
  refine x_iload_n (M := M_X12_isStraight) dX12_isStraight_16 rfl ?_
  refine x_lald (M := M_X12_isStraight) dX12_isStraight_17 o67 i2 ?_
  refine x_aload_n (M := M_X12_isStraight) dX12_isStraight_18 rfl ?_
  refine x_getf (M := M_X12_isStraight) (ci := 15) (C := RX12) (T := TX12) (N := 135) (ty := tyX12) cl15 dX12_isStraight_19 ha 68 (by decide) t_2459 e68 ?_
  refine x_iload_n (M := M_X12_isStraight) dX12_isStraight_22 rfl ?_
  refine x_lald (M := M_X12_isStraight) dX12_isStraight_23 o68 i3 ?_
  refine x_aload_n (M := M_X12_isStraight) dX12_isStraight_24 rfl ?_
  refine x_getf (M := M_X12_isStraight) (ci := 15) (C := RX12) (T := TX12) (N := 135) (ty := tyX12) cl15 dX12_isStraight_25 ha 67 (by decide) t_2458 e67 ?_
  refine x_iload_n (M := M_X12_isStraight) dX12_isStraight_28 rfl ?_
  refine x_lald (M := M_X12_isStraight) dX12_isStraight_29 o67 i4 ?_
  refine x_aload_n (M := M_X12_isStraight) dX12_isStraight_30 rfl ?_
  refine x_getf (M := M_X12_isStraight) (ci := 15) (C := RX12) (T := TX12) (N := 135) (ty := tyX12) cl15 dX12_isStraight_31 ha 68 (by decide) t_2459 e68 ?_
  refine x_iload_n (M := M_X12_isStraight) dX12_isStraight_34 rfl ?_
  refine x_lald (M := M_X12_isStraight) dX12_isStraight_35 o68 i5 ?_
  refine x_callSR (M := M_X12_isStraight) (M' := M_X12_turn) rfl rfl dX12_isStraight_36 m_X12_turn t_3262 t_3263 (p_X12_turn hl) rfl rfl (Nat.le_of_ble_eq_true rfl) (Nat.le_of_ble_eq_true rfl) (Nat.le_of_ble_eq_true rfl) (Nat.le_of_ble_eq_true rfl) ?_
  refine x_if_ne (M := M_X12_isStraight) (tgt := 46) dX12_isStraight_39 (by decide) (fun q0 => ?_) (fun q0 => ?_)
  · refine x_iconst (M := M_X12_isStraight) dX12_isStraight_46 ?_
    exact x_zret (M := M_X12_isStraight) dX12_isStraight_47 rfl (Or.inl rfl) ⟨by rw [f_X12_isStraight, if_neg q0], rfl⟩ (Nat.le_of_ble_eq_true rfl) (Nat.le_of_ble_eq_true rfl)
  · refine x_iconst (M := M_X12_isStraight) dX12_isStraight_42 ?_
    refine x_goto (M := M_X12_isStraight) (tgt := 47) dX12_isStraight_43 (by decide) ?_
    exact x_zret (M := M_X12_isStraight) dX12_isStraight_47 rfl (Or.inr rfl) ⟨by rw [f_X12_isStraight, if_pos q0], rfl⟩ (Nat.le_of_ble_eq_true rfl) (Nat.le_of_ble_eq_true rfl)
def f_X12_isEarlier (c93 : Nat → Int32) (c95 : Nat → Int32) (w0 : Int32) (w1 : Int32) : Int32 := if (c93 (c95 w0.toNatClampNeg).toNatClampNeg) < (c93 (c95 w1.toNatClampNeg).toNatClampNeg) then (Int32.ofInt 1) else (if (c93 (c95 w0.toNatClampNeg).toNatClampNeg) = (c93 (c95 w1.toNatClampNeg).toNatClampNeg) then if (c93 ((c95 w1.toNatClampNeg) + (Int32.ofInt 1)).toNatClampNeg) ≤ (c93 ((c95 w0.toNatClampNeg) + (Int32.ofInt 1)).toNatClampNeg) then (Int32.ofInt 0) else ((Int32.ofInt 1)) else ((Int32.ofInt 0)))
theorem b_X12_isEarlier (c93 : Nat → Int32) (c95 : Nat → Int32) (w0 : Int32) (w1 : Int32) : f_X12_isEarlier c93 c95 w0 w1 = 0 ∨ f_X12_isEarlier c93 c95 w0 w1 = 1 := (ite01 (Or.inr rfl) (ite01 (ite01 (Or.inl rfl) (Or.inr rfl)) (Or.inl rfl)))
theorem p_X12_isEarlier {l : Launch} {E : EE} (hl : l.stackTraces = false) {h : HP} {c93 : Nat → Int32} {c95 : Nat → Int32} {w0 : Int32} {w1 : Int32} {a : Nat} {fs : List Value} (ha : ob h a = some (.inr (15, fs))) {r93 n93 : Nat} (e93 : fs[93]? = some (.ref r93)) (o93 : ob h r93 = some (.inl (0, n93, .inl c93))) {r95 n95 : Nat} (e95 : fs[95]? = some (.ref r95)) (o95 : ob h r95 = some (.inl (0, n95, .inl c95))) (i0 : vp_in w0 n95) (i1 : vp_in w1 n95) (i2 : vp_in (c95 w0.toNatClampNeg) n93) (i3 : vp_in (c95 w1.toNatClampNeg) n93) (i4 : (¬ (c93 (c95 w0.toNatClampNeg).toNatClampNeg) < (c93 (c95 w1.toNatClampNeg).toNatClampNeg)) → vp_in (c95 w0.toNatClampNeg) n93) (i5 : (¬ (c93 (c95 w0.toNatClampNeg).toNatClampNeg) < (c93 (c95 w1.toNatClampNeg).toNatClampNeg)) → vp_in (c95 w1.toNatClampNeg) n93) (i6 : (¬ (c93 (c95 w0.toNatClampNeg).toNatClampNeg) < (c93 (c95 w1.toNatClampNeg).toNatClampNeg)) → ((c93 (c95 w0.toNatClampNeg).toNatClampNeg) = (c93 (c95 w1.toNatClampNeg).toNatClampNeg)) → vp_in ((c95 w0.toNatClampNeg) + (Int32.ofInt 1)) n93) (i7 : (¬ (c93 (c95 w0.toNatClampNeg).toNatClampNeg) < (c93 (c95 w1.toNatClampNeg).toNatClampNeg)) → ((c93 (c95 w0.toNatClampNeg).toNatClampNeg) = (c93 (c95 w1.toNatClampNeg).toNatClampNeg)) → vp_in ((c95 w1.toNatClampNeg) + (Int32.ofInt 1)) n93) : en_C l E M_X12_isEarlier 0 0 0 [.ref a, .int w0, .int w1] h (pR (some (.int (f_X12_isEarlier c93 c95 w0 w1))) h) := by
  refine en_mk m_X12_isEarlier rfl hl (Nat.le_of_ble_eq_true rfl) ?_
  refine x_aload_n (M := M_X12_isEarlier) dX12_isEarlier_0 rfl ?_
  refine x_getf (M := M_X12_isEarlier) (ci := 15) (C := RX12) (T := TX12) (N := 135) (ty := tyX12) cl15 dX12_isEarlier_1 ha 95 (by decide) t_2486 e95 ?_
  refine x_iload_n (M := M_X12_isEarlier) dX12_isEarlier_4 rfl ?_
  refine x_iald (M := M_X12_isEarlier) dX12_isEarlier_5 o95 i0 ?_
  refine x_istore_n (M := M_X12_isEarlier) dX12_isEarlier_6 (by decide) rfl ?_
  refine x_norm (lv' := [some (.ref a), some (.int w0), some (.int w1), some (.int (c95 w0.toNatClampNeg)), none]) rfl rfl rfl rfl rfl ?_
  refine x_aload_n (M := M_X12_isEarlier) dX12_isEarlier_7 rfl ?_
  refine x_getf (M := M_X12_isEarlier) (ci := 15) (C := RX12) (T := TX12) (N := 135) (ty := tyX12) cl15 dX12_isEarlier_8 ha 95 (by decide) t_2486 e95 ?_
  refine x_iload_n (M := M_X12_isEarlier) dX12_isEarlier_11 rfl ?_
  refine x_iald (M := M_X12_isEarlier) dX12_isEarlier_12 o95 i1 ?_
  refine x_istore (M := M_X12_isEarlier) dX12_isEarlier_13 (by decide) rfl ?_
  refine x_norm (lv' := [some (.ref a), some (.int w0), some (.int w1), some (.int (c95 w0.toNatClampNeg)), some (.int (c95 w1.toNatClampNeg))]) rfl rfl rfl rfl rfl ?_
  refine x_aload_n (M := M_X12_isEarlier) dX12_isEarlier_15 rfl ?_
  refine x_getf (M := M_X12_isEarlier) (ci := 15) (C := RX12) (T := TX12) (N := 135) (ty := tyX12) cl15 dX12_isEarlier_16 ha 93 (by decide) t_2484 e93 ?_
  refine x_iload_n (M := M_X12_isEarlier) dX12_isEarlier_19 rfl ?_
  refine x_iald (M := M_X12_isEarlier) dX12_isEarlier_20 o93 i2 ?_
  refine x_aload_n (M := M_X12_isEarlier) dX12_isEarlier_21 rfl ?_
  refine x_getf (M := M_X12_isEarlier) (ci := 15) (C := RX12) (T := TX12) (N := 135) (ty := tyX12) cl15 dX12_isEarlier_22 ha 93 (by decide) t_2484 e93 ?_
  refine x_iload (M := M_X12_isEarlier) dX12_isEarlier_25 rfl ?_
  refine x_iald (M := M_X12_isEarlier) dX12_isEarlier_27 o93 i3 ?_
  refine x_icmp_lt (M := M_X12_isEarlier) (tgt := 67) dX12_isEarlier_28 (by decide) (fun q0 => ?_) (fun q0 => ?_)
  · refine x_iconst (M := M_X12_isEarlier) dX12_isEarlier_67 ?_
    refine x_goto (M := M_X12_isEarlier) (tgt := 72) dX12_isEarlier_68 (by decide) ?_
    exact x_zret (M := M_X12_isEarlier) dX12_isEarlier_72 rfl (Or.inr rfl) ⟨by rw [f_X12_isEarlier, if_pos q0], rfl⟩ (Nat.le_of_ble_eq_true rfl) (Nat.le_of_ble_eq_true rfl)
  · refine x_aload_n (M := M_X12_isEarlier) dX12_isEarlier_31 rfl ?_
    refine x_getf (M := M_X12_isEarlier) (ci := 15) (C := RX12) (T := TX12) (N := 135) (ty := tyX12) cl15 dX12_isEarlier_32 ha 93 (by decide) t_2484 e93 ?_
    refine x_iload_n (M := M_X12_isEarlier) dX12_isEarlier_35 rfl ?_
    refine x_iald (M := M_X12_isEarlier) dX12_isEarlier_36 o93 (i4 q0) ?_
    refine x_aload_n (M := M_X12_isEarlier) dX12_isEarlier_37 rfl ?_
    refine x_getf (M := M_X12_isEarlier) (ci := 15) (C := RX12) (T := TX12) (N := 135) (ty := tyX12) cl15 dX12_isEarlier_38 ha 93 (by decide) t_2484 e93 ?_
    refine x_iload (M := M_X12_isEarlier) dX12_isEarlier_41 rfl ?_
    refine x_iald (M := M_X12_isEarlier) dX12_isEarlier_43 o93 (i5 q0) ?_
    refine x_icmp_ne (M := M_X12_isEarlier) (tgt := 71) dX12_isEarlier_44 (by decide) (fun q1 => ?_) (fun q1 => ?_)
    · refine x_iconst (M := M_X12_isEarlier) dX12_isEarlier_71 ?_
      exact x_zret (M := M_X12_isEarlier) dX12_isEarlier_72 rfl (Or.inl rfl) ⟨by rw [f_X12_isEarlier, if_neg q0, if_neg q1], rfl⟩ (Nat.le_of_ble_eq_true rfl) (Nat.le_of_ble_eq_true rfl)
    · refine x_aload_n (M := M_X12_isEarlier) dX12_isEarlier_47 rfl ?_
      refine x_getf (M := M_X12_isEarlier) (ci := 15) (C := RX12) (T := TX12) (N := 135) (ty := tyX12) cl15 dX12_isEarlier_48 ha 93 (by decide) t_2484 e93 ?_
      refine x_iload_n (M := M_X12_isEarlier) dX12_isEarlier_51 rfl ?_
      refine x_iconst (M := M_X12_isEarlier) dX12_isEarlier_52 ?_
      refine x_iadd (M := M_X12_isEarlier) dX12_isEarlier_53 ?_
      refine x_iald (M := M_X12_isEarlier) dX12_isEarlier_54 o93 (i6 q0 q1) ?_
      refine x_aload_n (M := M_X12_isEarlier) dX12_isEarlier_55 rfl ?_
      refine x_getf (M := M_X12_isEarlier) (ci := 15) (C := RX12) (T := TX12) (N := 135) (ty := tyX12) cl15 dX12_isEarlier_56 ha 93 (by decide) t_2484 e93 ?_
      refine x_iload (M := M_X12_isEarlier) dX12_isEarlier_59 rfl ?_
      refine x_iconst (M := M_X12_isEarlier) dX12_isEarlier_61 ?_
      refine x_iadd (M := M_X12_isEarlier) dX12_isEarlier_62 ?_
      refine x_iald (M := M_X12_isEarlier) dX12_isEarlier_63 o93 (i7 q0 q1) ?_
      refine x_icmp_ge (M := M_X12_isEarlier) (tgt := 71) dX12_isEarlier_64 (by decide) (fun q2 => ?_) (fun q2 => ?_)
      · refine x_iconst (M := M_X12_isEarlier) dX12_isEarlier_71 ?_
        exact x_zret (M := M_X12_isEarlier) dX12_isEarlier_72 rfl (Or.inl rfl) ⟨by rw [f_X12_isEarlier, if_neg q0, if_pos q1, if_pos q2], rfl⟩ (Nat.le_of_ble_eq_true rfl) (Nat.le_of_ble_eq_true rfl)
      · refine x_iconst (M := M_X12_isEarlier) dX12_isEarlier_67 ?_
        refine x_goto (M := M_X12_isEarlier) (tgt := 72) dX12_isEarlier_68 (by decide) ?_
        exact x_zret (M := M_X12_isEarlier) dX12_isEarlier_72 rfl (Or.inr rfl) ⟨by rw [f_X12_isEarlier, if_neg q0, if_pos q1, if_neg q2], rfl⟩ (Nat.le_of_ble_eq_true rfl) (Nat.le_of_ble_eq_true rfl)
def f_X12_typeOfKind (w0 : Int32) : Int32 := if w0 = (Int8.ofInt 7).toInt32 then (Int32.ofInt (-1)) else (((w0 - (Int32.ofInt 1)) - (w0 - (Int32.ofInt 1)) / (Int32.ofInt 3) * (Int32.ofInt 3)))
theorem p_X12_typeOfKind {l : Launch} {E : EE} (hl : l.stackTraces = false) {h : HP} {w0 : Int32} : en_C l E M_X12_typeOfKind 0 0 0 [.int w0] h (pR (some (.int (f_X12_typeOfKind w0))) h) := by
  refine en_mk m_X12_typeOfKind rfl hl (Nat.le_of_ble_eq_true rfl) ?_
  refine x_iload_n (M := M_X12_typeOfKind) dX12_typeOfKind_0 rfl ?_
  refine x_bipush (M := M_X12_typeOfKind) dX12_typeOfKind_1 ?_
  refine x_icmp_ne (M := M_X12_typeOfKind) (tgt := 10) dX12_typeOfKind_3 (by decide) (fun q0 => ?_) (fun q0 => ?_)
  · refine x_iload_n (M := M_X12_typeOfKind) dX12_typeOfKind_10 rfl ?_
    refine x_iconst (M := M_X12_typeOfKind) dX12_typeOfKind_11 ?_
    refine x_isub (M := M_X12_typeOfKind) dX12_typeOfKind_12 ?_
    refine x_iconst (M := M_X12_typeOfKind) dX12_typeOfKind_13 ?_
    refine x_irem (M := M_X12_typeOfKind) dX12_typeOfKind_14 (by decide +kernel) ?_
    exact x_iret (M := M_X12_typeOfKind) dX12_typeOfKind_15 rfl ⟨by rw [f_X12_typeOfKind, if_neg q0], rfl⟩ (Nat.le_of_ble_eq_true rfl) (Nat.le_of_ble_eq_true rfl)
  · refine x_iconst (M := M_X12_typeOfKind) dX12_typeOfKind_6 ?_
    refine x_goto (M := M_X12_typeOfKind) (tgt := 15) dX12_typeOfKind_7 (by decide) ?_
    exact x_iret (M := M_X12_typeOfKind) dX12_typeOfKind_15 rfl ⟨by rw [f_X12_typeOfKind, if_pos q0], rfl⟩ (Nat.le_of_ble_eq_true rfl) (Nat.le_of_ble_eq_true rfl)
def f_X12_dimension (c11 : Nat → Int32) (c100 : Nat → Int32) (c101 : Nat → Int32) (c103 : Nat → Int32) (c104 : Nat → Int32) (w0 : Int32) : Int32 := if (c101 w0.toNatClampNeg) = 0 then if (c11 (c100 w0.toNatClampNeg).toNatClampNeg) ≤ 0 then (Int32.ofInt (-1)) else ((Int32.ofInt 0)) else (if (c101 w0.toNatClampNeg) = (Int32.ofInt 1) then if (c103 w0.toNatClampNeg) ≤ 0 then (Int32.ofInt (-1)) else ((Int32.ofInt 1)) else (if (c104 w0.toNatClampNeg) = 0 then (Int32.ofInt (-1)) else ((Int32.ofInt 2))))
theorem p_X12_dimension {l : Launch} {E : EE} (hl : l.stackTraces = false) {h : HP} {c11 : Nat → Int32} {c100 : Nat → Int32} {c101 : Nat → Int32} {c103 : Nat → Int32} {c104 : Nat → Int32} {w0 : Int32} {a : Nat} {fs : List Value} (ha : ob h a = some (.inr (15, fs))) {r11 n11 : Nat} (e11 : fs[11]? = some (.ref r11)) (o11 : ob h r11 = some (.inl (0, n11, .inl c11))) {r100 n100 : Nat} (e100 : fs[100]? = some (.ref r100)) (o100 : ob h r100 = some (.inl (0, n100, .inl c100))) {r101 n101 : Nat} (e101 : fs[101]? = some (.ref r101)) (o101 : ob h r101 = some (.inl (0, n101, .inl c101))) {r103 n103 : Nat} (e103 : fs[103]? = some (.ref r103)) (o103 : ob h r103 = some (.inl (0, n103, .inl c103))) {r104 n104 : Nat} (e104 : fs[104]? = some (.ref r104)) (o104 : ob h r104 = some (.inl (3, n104, .inl c104))) (i0 : vp_in w0 n101) (i1 : (¬ (c101 w0.toNatClampNeg) = 0) → vp_in w0 n101) (i2 : (¬ (c101 w0.toNatClampNeg) = 0) → (¬ (c101 w0.toNatClampNeg) = (Int32.ofInt 1)) → vp_in w0 n104) (i3 : (¬ (c101 w0.toNatClampNeg) = 0) → ((c101 w0.toNatClampNeg) = (Int32.ofInt 1)) → vp_in w0 n103) (i4 : ((c101 w0.toNatClampNeg) = 0) → vp_in w0 n100) (i5 : ((c101 w0.toNatClampNeg) = 0) → vp_in (c100 w0.toNatClampNeg) n11) : en_C l E M_X12_dimension 0 0 0 [.ref a, .int w0] h (pR (some (.int (f_X12_dimension c11 c100 c101 c103 c104 w0))) h) := by
  refine en_mk m_X12_dimension rfl hl (Nat.le_of_ble_eq_true rfl) ?_
  refine x_aload_n (M := M_X12_dimension) dX12_dimension_0 rfl ?_
  refine x_getf (M := M_X12_dimension) (ci := 15) (C := RX12) (T := TX12) (N := 135) (ty := tyX12) cl15 dX12_dimension_1 ha 101 (by decide) t_2492 e101 ?_
  refine x_iload_n (M := M_X12_dimension) dX12_dimension_4 rfl ?_
  refine x_iald (M := M_X12_dimension) dX12_dimension_5 o101 i0 ?_
  refine x_if_ne (M := M_X12_dimension) (tgt := 29) dX12_dimension_6 (by decide) (fun q0 => ?_) (fun q0 => ?_)
  · refine x_aload_n (M := M_X12_dimension) dX12_dimension_29 rfl ?_
    refine x_getf (M := M_X12_dimension) (ci := 15) (C := RX12) (T := TX12) (N := 135) (ty := tyX12) cl15 dX12_dimension_30 ha 101 (by decide) t_2492 e101 ?_
    refine x_iload_n (M := M_X12_dimension) dX12_dimension_33 rfl ?_
    refine x_iald (M := M_X12_dimension) dX12_dimension_34 o101 (i1 q0) ?_
    refine x_iconst (M := M_X12_dimension) dX12_dimension_35 ?_
    refine x_icmp_ne (M := M_X12_dimension) (tgt := 54) dX12_dimension_36 (by decide) (fun q1 => ?_) (fun q1 => ?_)
    · refine x_aload_n (M := M_X12_dimension) dX12_dimension_54 rfl ?_
      refine x_getf (M := M_X12_dimension) (ci := 15) (C := RX12) (T := TX12) (N := 135) (ty := tyX12) cl15 dX12_dimension_55 ha 104 (by decide) t_2495 e104 ?_
      refine x_iload_n (M := M_X12_dimension) dX12_dimension_58 rfl ?_
      refine x_zald (M := M_X12_dimension) dX12_dimension_59 o104 (i2 q0 q1) ?_
      refine x_if_eq (M := M_X12_dimension) (tgt := 67) dX12_dimension_60 (by decide) (fun q2 => ?_) (fun q2 => ?_)
      · refine x_iconst (M := M_X12_dimension) dX12_dimension_67 ?_
        exact x_iret (M := M_X12_dimension) dX12_dimension_68 rfl ⟨by rw [f_X12_dimension, if_neg q0, if_neg q1, if_pos q2], rfl⟩ (Nat.le_of_ble_eq_true rfl) (Nat.le_of_ble_eq_true rfl)
      · refine x_iconst (M := M_X12_dimension) dX12_dimension_63 ?_
        refine x_goto (M := M_X12_dimension) (tgt := 68) dX12_dimension_64 (by decide) ?_
        exact x_iret (M := M_X12_dimension) dX12_dimension_68 rfl ⟨by rw [f_X12_dimension, if_neg q0, if_neg q1, if_neg q2], rfl⟩ (Nat.le_of_ble_eq_true rfl) (Nat.le_of_ble_eq_true rfl)
    · refine x_aload_n (M := M_X12_dimension) dX12_dimension_39 rfl ?_
      refine x_getf (M := M_X12_dimension) (ci := 15) (C := RX12) (T := TX12) (N := 135) (ty := tyX12) cl15 dX12_dimension_40 ha 103 (by decide) t_2494 e103 ?_
      refine x_iload_n (M := M_X12_dimension) dX12_dimension_43 rfl ?_
      refine x_iald (M := M_X12_dimension) dX12_dimension_44 o103 (i3 q0 q1) ?_
      refine x_if_le (M := M_X12_dimension) (tgt := 52) dX12_dimension_45 (by decide) (fun q2 => ?_) (fun q2 => ?_)
      · refine x_iconst (M := M_X12_dimension) dX12_dimension_52 ?_
        exact x_iret (M := M_X12_dimension) dX12_dimension_53 rfl ⟨by rw [f_X12_dimension, if_neg q0, if_pos q1, if_pos q2], rfl⟩ (Nat.le_of_ble_eq_true rfl) (Nat.le_of_ble_eq_true rfl)
      · refine x_iconst (M := M_X12_dimension) dX12_dimension_48 ?_
        refine x_goto (M := M_X12_dimension) (tgt := 53) dX12_dimension_49 (by decide) ?_
        exact x_iret (M := M_X12_dimension) dX12_dimension_53 rfl ⟨by rw [f_X12_dimension, if_neg q0, if_pos q1, if_neg q2], rfl⟩ (Nat.le_of_ble_eq_true rfl) (Nat.le_of_ble_eq_true rfl)
  · refine x_aload_n (M := M_X12_dimension) dX12_dimension_9 rfl ?_
    refine x_getf (M := M_X12_dimension) (ci := 15) (C := RX12) (T := TX12) (N := 135) (ty := tyX12) cl15 dX12_dimension_10 ha 11 (by decide) t_2402 e11 ?_
    refine x_aload_n (M := M_X12_dimension) dX12_dimension_13 rfl ?_
    refine x_getf (M := M_X12_dimension) (ci := 15) (C := RX12) (T := TX12) (N := 135) (ty := tyX12) cl15 dX12_dimension_14 ha 100 (by decide) t_2491 e100 ?_
    refine x_iload_n (M := M_X12_dimension) dX12_dimension_17 rfl ?_
    refine x_iald (M := M_X12_dimension) dX12_dimension_18 o100 (i4 q0) ?_
    refine x_iald (M := M_X12_dimension) dX12_dimension_19 o11 (i5 q0) ?_
    refine x_if_le (M := M_X12_dimension) (tgt := 27) dX12_dimension_20 (by decide) (fun q1 => ?_) (fun q1 => ?_)
    · refine x_iconst (M := M_X12_dimension) dX12_dimension_27 ?_
      exact x_iret (M := M_X12_dimension) dX12_dimension_28 rfl ⟨by rw [f_X12_dimension, if_pos q0, if_pos q1], rfl⟩ (Nat.le_of_ble_eq_true rfl) (Nat.le_of_ble_eq_true rfl)
    · refine x_iconst (M := M_X12_dimension) dX12_dimension_23 ?_
      refine x_goto (M := M_X12_dimension) (tgt := 28) dX12_dimension_24 (by decide) ?_
      exact x_iret (M := M_X12_dimension) dX12_dimension_28 rfl ⟨by rw [f_X12_dimension, if_pos q0, if_neg q1], rfl⟩ (Nat.le_of_ble_eq_true rfl) (Nat.le_of_ble_eq_true rfl)
def f_X12_m (c107 : Nat → Int32) (w0 : Int32) : Int32 := if (c107 w0.toNatClampNeg) < 0 then (Int32.ofInt 0) else ((Int32.ofInt 1))
theorem b_X12_m (c107 : Nat → Int32) (w0 : Int32) : f_X12_m c107 w0 = 0 ∨ f_X12_m c107 w0 = 1 := (ite01 (Or.inl rfl) (Or.inr rfl))
theorem p_X12_m {l : Launch} {E : EE} (hl : l.stackTraces = false) {h : HP} {c107 : Nat → Int32} {w0 : Int32} {a : Nat} {fs : List Value} (ha : ob h a = some (.inr (15, fs))) {r107 n107 : Nat} (e107 : fs[107]? = some (.ref r107)) (o107 : ob h r107 = some (.inl (0, n107, .inl c107))) (i0 : vp_in w0 n107) : en_C l E M_X12_m 0 0 0 [.ref a, .int w0] h (pR (some (.int (f_X12_m c107 w0))) h) := by
  refine en_mk m_X12_m rfl hl (Nat.le_of_ble_eq_true rfl) ?_
  refine x_aload_n (M := M_X12_m) dX12_m_0 rfl ?_
  refine x_getf (M := M_X12_m) (ci := 15) (C := RX12) (T := TX12) (N := 135) (ty := tyX12) cl15 dX12_m_1 ha 107 (by decide) t_2498 e107 ?_
  refine x_iload_n (M := M_X12_m) dX12_m_4 rfl ?_
  refine x_iald (M := M_X12_m) dX12_m_5 o107 i0 ?_
  refine x_if_lt (M := M_X12_m) (tgt := 13) dX12_m_6 (by decide) (fun q0 => ?_) (fun q0 => ?_)
  · refine x_iconst (M := M_X12_m) dX12_m_13 ?_
    exact x_zret (M := M_X12_m) dX12_m_14 rfl (Or.inl rfl) ⟨by rw [f_X12_m, if_pos q0], rfl⟩ (Nat.le_of_ble_eq_true rfl) (Nat.le_of_ble_eq_true rfl)
  · refine x_iconst (M := M_X12_m) dX12_m_9 ?_
    refine x_goto (M := M_X12_m) (tgt := 14) dX12_m_10 (by decide) ?_
    exact x_zret (M := M_X12_m) dX12_m_14 rfl (Or.inr rfl) ⟨by rw [f_X12_m, if_neg q0], rfl⟩ (Nat.le_of_ble_eq_true rfl) (Nat.le_of_ble_eq_true rfl)
def f_X12_turnOf (c117 : Nat → Int64) (c118 : Nat → Int64) (w0 : Int32) (w1 : Int32) (w2 : Int32) : Int32 := (f_X12_turn (c117 w0.toNatClampNeg) (c118 w0.toNatClampNeg) (c117 w1.toNatClampNeg) (c118 w1.toNatClampNeg) (c117 w2.toNatClampNeg) (c118 w2.toNatClampNeg))
theorem p_X12_turnOf {l : Launch} {E : EE} (hl : l.stackTraces = false) {h : HP} {c117 : Nat → Int64} {c118 : Nat → Int64} {w0 : Int32} {w1 : Int32} {w2 : Int32} {a : Nat} {fs : List Value} (ha : ob h a = some (.inr (15, fs))) {r117 n117 : Nat} (e117 : fs[117]? = some (.ref r117)) (o117 : ob h r117 = some (.inl (1, n117, .inr (.inl c117)))) {r118 n118 : Nat} (e118 : fs[118]? = some (.ref r118)) (o118 : ob h r118 = some (.inl (1, n118, .inr (.inl c118)))) (i0 : vp_in w0 n117) (i1 : vp_in w0 n118) (i2 : vp_in w1 n117) (i3 : vp_in w1 n118) (i4 : vp_in w2 n117) (i5 : vp_in w2 n118) : en_C l E M_X12_turnOf 2 0 0 [.ref a, .int w0, .int w1, .int w2] h (pR (some (.int (f_X12_turnOf c117 c118 w0 w1 w2))) h) := by
  refine en_mk m_X12_turnOf rfl hl (Nat.le_of_ble_eq_true rfl) ?_
  refine x_aload_n (M := M_X12_turnOf) dX12_turnOf_0 rfl ?_
  refine x_getf (M := M_X12_turnOf) (ci := 15) (C := RX12) (T := TX12) (N := 135) (ty := tyX12) cl15 dX12_turnOf_1 ha 117 (by decide) t_2508 e117 ?_
  refine x_iload_n (M := M_X12_turnOf) dX12_turnOf_4 rfl ?_
  refine x_lald (M := M_X12_turnOf) dX12_turnOf_5 o117 i0 ?_
  refine x_aload_n (M := M_X12_turnOf) dX12_turnOf_6 rfl ?_
  refine x_getf (M := M_X12_turnOf) (ci := 15) (C := RX12) (T := TX12) (N := 135) (ty := tyX12) cl15 dX12_turnOf_7 ha 118 (by decide) t_2509 e118 ?_
  refine x_iload_n (M := M_X12_turnOf) dX12_turnOf_10 rfl ?_
  refine x_lald (M := M_X12_turnOf) dX12_turnOf_11 o118 i1 ?_
  refine x_aload_n (M := M_X12_turnOf) dX12_turnOf_12 rfl ?_
  refine x_getf (M := M_X12_turnOf) (ci := 15) (C := RX12) (T := TX12) (N := 135) (ty := tyX12) cl15 dX12_turnOf_13 ha 117 (by decide) t_2508 e117 ?_
  refine x_iload_n (M := M_X12_turnOf) dX12_turnOf_16 rfl ?_
  refine x_lald (M := M_X12_turnOf) dX12_turnOf_17 o117 i2 ?_
  refine x_aload_n (M := M_X12_turnOf) dX12_turnOf_18 rfl ?_
  refine x_getf (M := M_X12_turnOf) (ci := 15) (C := RX12) (T := TX12) (N := 135) (ty := tyX12) cl15 dX12_turnOf_19 ha 118 (by decide) t_2509 e118 ?_
  refine x_iload_n (M := M_X12_turnOf) dX12_turnOf_22 rfl ?_
  refine x_lald (M := M_X12_turnOf) dX12_turnOf_23 o118 i3 ?_
  refine x_aload_n (M := M_X12_turnOf) dX12_turnOf_24 rfl ?_
  refine x_getf (M := M_X12_turnOf) (ci := 15) (C := RX12) (T := TX12) (N := 135) (ty := tyX12) cl15 dX12_turnOf_25 ha 117 (by decide) t_2508 e117 ?_
  refine x_iload_n (M := M_X12_turnOf) dX12_turnOf_28 rfl ?_
  refine x_lald (M := M_X12_turnOf) dX12_turnOf_29 o117 i4 ?_
  refine x_aload_n (M := M_X12_turnOf) dX12_turnOf_30 rfl ?_
  refine x_getf (M := M_X12_turnOf) (ci := 15) (C := RX12) (T := TX12) (N := 135) (ty := tyX12) cl15 dX12_turnOf_31 ha 118 (by decide) t_2509 e118 ?_
  refine x_iload_n (M := M_X12_turnOf) dX12_turnOf_34 rfl ?_
  refine x_lald (M := M_X12_turnOf) dX12_turnOf_35 o118 i5 ?_
  refine x_callSR (M := M_X12_turnOf) (M' := M_X12_turn) rfl rfl dX12_turnOf_36 m_X12_turn t_3262 t_3263 (p_X12_turn hl) rfl rfl (Nat.le_of_ble_eq_true rfl) (Nat.le_of_ble_eq_true rfl) (Nat.le_of_ble_eq_true rfl) (Nat.le_of_ble_eq_true rfl) ?_
  exact x_iret (M := M_X12_turnOf) dX12_turnOf_39 rfl ⟨rfl, rfl⟩ (Nat.le_of_ble_eq_true rfl) (Nat.le_of_ble_eq_true rfl)
def f_X12_isLess (c117 : Nat → Int64) (c118 : Nat → Int64) (w0 : Int32) (w1 : Int32) : Int32 := (f_X12_isBefore (c117 w0.toNatClampNeg) (c118 w0.toNatClampNeg) (c117 w1.toNatClampNeg) (c118 w1.toNatClampNeg))
theorem b_X12_isLess (c117 : Nat → Int64) (c118 : Nat → Int64) (w0 : Int32) (w1 : Int32) : f_X12_isLess c117 c118 w0 w1 = 0 ∨ f_X12_isLess c117 c118 w0 w1 = 1 := (b_X12_isBefore _ _ _ _)
theorem p_X12_isLess {l : Launch} {E : EE} (hl : l.stackTraces = false) {h : HP} {c117 : Nat → Int64} {c118 : Nat → Int64} {w0 : Int32} {w1 : Int32} {a : Nat} {fs : List Value} (ha : ob h a = some (.inr (15, fs))) {r117 n117 : Nat} (e117 : fs[117]? = some (.ref r117)) (o117 : ob h r117 = some (.inl (1, n117, .inr (.inl c117)))) {r118 n118 : Nat} (e118 : fs[118]? = some (.ref r118)) (o118 : ob h r118 = some (.inl (1, n118, .inr (.inl c118)))) (i0 : vp_in w0 n117) (i1 : vp_in w0 n118) (i2 : vp_in w1 n117) (i3 : vp_in w1 n118) : en_C l E M_X12_isLess 1 0 0 [.ref a, .int w0, .int w1] h (pR (some (.int (f_X12_isLess c117 c118 w0 w1))) h) := by
  refine en_mk m_X12_isLess rfl hl (Nat.le_of_ble_eq_true rfl) ?_
  refine x_aload_n (M := M_X12_isLess) dX12_isLess_0 rfl ?_
  refine x_getf (M := M_X12_isLess) (ci := 15) (C := RX12) (T := TX12) (N := 135) (ty := tyX12) cl15 dX12_isLess_1 ha 117 (by decide) t_2508 e117 ?_
  refine x_iload_n (M := M_X12_isLess) dX12_isLess_4 rfl ?_
  refine x_lald (M := M_X12_isLess) dX12_isLess_5 o117 i0 ?_
  refine x_aload_n (M := M_X12_isLess) dX12_isLess_6 rfl ?_
  refine x_getf (M := M_X12_isLess) (ci := 15) (C := RX12) (T := TX12) (N := 135) (ty := tyX12) cl15 dX12_isLess_7 ha 118 (by decide) t_2509 e118 ?_
  refine x_iload_n (M := M_X12_isLess) dX12_isLess_10 rfl ?_
  refine x_lald (M := M_X12_isLess) dX12_isLess_11 o118 i1 ?_
  refine x_aload_n (M := M_X12_isLess) dX12_isLess_12 rfl ?_
  refine x_getf (M := M_X12_isLess) (ci := 15) (C := RX12) (T := TX12) (N := 135) (ty := tyX12) cl15 dX12_isLess_13 ha 117 (by decide) t_2508 e117 ?_
  refine x_iload_n (M := M_X12_isLess) dX12_isLess_16 rfl ?_
  refine x_lald (M := M_X12_isLess) dX12_isLess_17 o117 i2 ?_
  refine x_aload_n (M := M_X12_isLess) dX12_isLess_18 rfl ?_
  refine x_getf (M := M_X12_isLess) (ci := 15) (C := RX12) (T := TX12) (N := 135) (ty := tyX12) cl15 dX12_isLess_19 ha 118 (by decide) t_2509 e118 ?_
  refine x_iload_n (M := M_X12_isLess) dX12_isLess_22 rfl ?_
  refine x_lald (M := M_X12_isLess) dX12_isLess_23 o118 i3 ?_
  refine x_callSR (M := M_X12_isLess) (M' := M_X12_isBefore) rfl rfl dX12_isLess_24 m_X12_isBefore t_3275 t_3276 (p_X12_isBefore hl) rfl rfl (Nat.le_of_ble_eq_true rfl) (Nat.le_of_ble_eq_true rfl) (Nat.le_of_ble_eq_true rfl) (Nat.le_of_ble_eq_true rfl) ?_
  exact x_zret (M := M_X12_isLess) dX12_isLess_27 rfl (b_X12_isBefore _ _ _ _) ⟨rfl, rfl⟩ (Nat.le_of_ble_eq_true rfl) (Nat.le_of_ble_eq_true rfl)
def f_X12_wayTo (c117 : Nat → Int64) (c118 : Nat → Int64) (w0 : Int32) (w1 : Int32) : Int64 := if 0 ≤ (lg_cmp ((c117 w1.toNatClampNeg) - (c117 w0.toNatClampNeg)) (Int64.ofNat ((0 : Fin 2) : Nat))) then if 0 ≤ (lg_cmp ((c118 w1.toNatClampNeg) - (c118 w0.toNatClampNeg)) (Int64.ofNat ((0 : Fin 2) : Nat))) then (((c117 w1.toNatClampNeg) - (c117 w0.toNatClampNeg)) + ((c118 w1.toNatClampNeg) - (c118 w0.toNatClampNeg))) else ((((c117 w1.toNatClampNeg) - (c117 w0.toNatClampNeg)) + (-((c118 w1.toNatClampNeg) - (c118 w0.toNatClampNeg))))) else (if 0 ≤ (lg_cmp ((c118 w1.toNatClampNeg) - (c118 w0.toNatClampNeg)) (Int64.ofNat ((0 : Fin 2) : Nat))) then ((-((c117 w1.toNatClampNeg) - (c117 w0.toNatClampNeg))) + ((c118 w1.toNatClampNeg) - (c118 w0.toNatClampNeg))) else (((-((c117 w1.toNatClampNeg) - (c117 w0.toNatClampNeg))) + (-((c118 w1.toNatClampNeg) - (c118 w0.toNatClampNeg))))))
theorem p_X12_wayTo {l : Launch} {E : EE} (hl : l.stackTraces = false) {h : HP} {c117 : Nat → Int64} {c118 : Nat → Int64} {w0 : Int32} {w1 : Int32} {a : Nat} {fs : List Value} (ha : ob h a = some (.inr (15, fs))) {r117 n117 : Nat} (e117 : fs[117]? = some (.ref r117)) (o117 : ob h r117 = some (.inl (1, n117, .inr (.inl c117)))) {r118 n118 : Nat} (e118 : fs[118]? = some (.ref r118)) (o118 : ob h r118 = some (.inl (1, n118, .inr (.inl c118)))) (i0 : vp_in w1 n117) (i1 : vp_in w0 n117) (i2 : vp_in w1 n118) (i3 : vp_in w0 n118) : en_C l E M_X12_wayTo 0 0 0 [.ref a, .int w0, .int w1] h (pR (some (.long (f_X12_wayTo c117 c118 w0 w1))) h) := by
  refine en_mk m_X12_wayTo rfl hl (Nat.le_of_ble_eq_true rfl) ?_
  refine x_aload_n (M := M_X12_wayTo) dX12_wayTo_0 rfl ?_
  refine x_getf (M := M_X12_wayTo) (ci := 15) (C := RX12) (T := TX12) (N := 135) (ty := tyX12) cl15 dX12_wayTo_1 ha 117 (by decide) t_2508 e117 ?_
  refine x_iload_n (M := M_X12_wayTo) dX12_wayTo_4 rfl ?_
  refine x_lald (M := M_X12_wayTo) dX12_wayTo_5 o117 i0 ?_
  refine x_aload_n (M := M_X12_wayTo) dX12_wayTo_6 rfl ?_
  refine x_getf (M := M_X12_wayTo) (ci := 15) (C := RX12) (T := TX12) (N := 135) (ty := tyX12) cl15 dX12_wayTo_7 ha 117 (by decide) t_2508 e117 ?_
  refine x_iload_n (M := M_X12_wayTo) dX12_wayTo_10 rfl ?_
  refine x_lald (M := M_X12_wayTo) dX12_wayTo_11 o117 i1 ?_
  refine x_lsub (M := M_X12_wayTo) dX12_wayTo_12 ?_
  refine x_lstore_n (M := M_X12_wayTo) dX12_wayTo_13 (by decide) rfl ?_
  refine x_norm (lv' := [some (.ref a), some (.int w0), some (.int w1), some (.long ((c117 w1.toNatClampNeg) - (c117 w0.toNatClampNeg))), none, none, none]) rfl rfl rfl rfl rfl ?_
  refine x_aload_n (M := M_X12_wayTo) dX12_wayTo_14 rfl ?_
  refine x_getf (M := M_X12_wayTo) (ci := 15) (C := RX12) (T := TX12) (N := 135) (ty := tyX12) cl15 dX12_wayTo_15 ha 118 (by decide) t_2509 e118 ?_
  refine x_iload_n (M := M_X12_wayTo) dX12_wayTo_18 rfl ?_
  refine x_lald (M := M_X12_wayTo) dX12_wayTo_19 o118 i2 ?_
  refine x_aload_n (M := M_X12_wayTo) dX12_wayTo_20 rfl ?_
  refine x_getf (M := M_X12_wayTo) (ci := 15) (C := RX12) (T := TX12) (N := 135) (ty := tyX12) cl15 dX12_wayTo_21 ha 118 (by decide) t_2509 e118 ?_
  refine x_iload_n (M := M_X12_wayTo) dX12_wayTo_24 rfl ?_
  refine x_lald (M := M_X12_wayTo) dX12_wayTo_25 o118 i3 ?_
  refine x_lsub (M := M_X12_wayTo) dX12_wayTo_26 ?_
  refine x_lstore (M := M_X12_wayTo) dX12_wayTo_27 (by decide) rfl ?_
  refine x_norm (lv' := [some (.ref a), some (.int w0), some (.int w1), some (.long ((c117 w1.toNatClampNeg) - (c117 w0.toNatClampNeg))), none, some (.long ((c118 w1.toNatClampNeg) - (c118 w0.toNatClampNeg))), none]) rfl rfl rfl rfl rfl ?_
  refine x_lload_n (M := M_X12_wayTo) dX12_wayTo_29 rfl ?_
  refine x_lconst (M := M_X12_wayTo) dX12_wayTo_30 ?_
  refine x_lcmp (M := M_X12_wayTo) dX12_wayTo_31 ?_
  refine x_if_ge (M := M_X12_wayTo) (tgt := 40) dX12_wayTo_32 (by decide) (fun q0 => ?_) (fun q0 => ?_)
  · refine x_lload_n (M := M_X12_wayTo) dX12_wayTo_40 rfl ?_
    refine x_lload (M := M_X12_wayTo) dX12_wayTo_41 rfl ?_
    refine x_lconst (M := M_X12_wayTo) dX12_wayTo_43 ?_
    refine x_lcmp (M := M_X12_wayTo) dX12_wayTo_44 ?_
    refine x_if_ge (M := M_X12_wayTo) (tgt := 54) dX12_wayTo_45 (by decide) (fun q1 => ?_) (fun q1 => ?_)
    · refine x_lload (M := M_X12_wayTo) dX12_wayTo_54 rfl ?_
      refine x_ladd (M := M_X12_wayTo) dX12_wayTo_56 ?_
      exact x_lret (M := M_X12_wayTo) dX12_wayTo_57 rfl ⟨by rw [f_X12_wayTo, if_pos q0, if_pos q1], rfl⟩ (Nat.le_of_ble_eq_true rfl) (Nat.le_of_ble_eq_true rfl)
    · refine x_lload (M := M_X12_wayTo) dX12_wayTo_48 rfl ?_
      refine x_lneg (M := M_X12_wayTo) dX12_wayTo_50 ?_
      refine x_goto (M := M_X12_wayTo) (tgt := 56) dX12_wayTo_51 (by decide) ?_
      refine x_ladd (M := M_X12_wayTo) dX12_wayTo_56 ?_
      exact x_lret (M := M_X12_wayTo) dX12_wayTo_57 rfl ⟨by rw [f_X12_wayTo, if_pos q0, if_neg q1], rfl⟩ (Nat.le_of_ble_eq_true rfl) (Nat.le_of_ble_eq_true rfl)
  · refine x_lload_n (M := M_X12_wayTo) dX12_wayTo_35 rfl ?_
    refine x_lneg (M := M_X12_wayTo) dX12_wayTo_36 ?_
    refine x_goto (M := M_X12_wayTo) (tgt := 41) dX12_wayTo_37 (by decide) ?_
    refine x_lload (M := M_X12_wayTo) dX12_wayTo_41 rfl ?_
    refine x_lconst (M := M_X12_wayTo) dX12_wayTo_43 ?_
    refine x_lcmp (M := M_X12_wayTo) dX12_wayTo_44 ?_
    refine x_if_ge (M := M_X12_wayTo) (tgt := 54) dX12_wayTo_45 (by decide) (fun q1 => ?_) (fun q1 => ?_)
    · refine x_lload (M := M_X12_wayTo) dX12_wayTo_54 rfl ?_
      refine x_ladd (M := M_X12_wayTo) dX12_wayTo_56 ?_
      exact x_lret (M := M_X12_wayTo) dX12_wayTo_57 rfl ⟨by rw [f_X12_wayTo, if_neg q0, if_pos q1], rfl⟩ (Nat.le_of_ble_eq_true rfl) (Nat.le_of_ble_eq_true rfl)
    · refine x_lload (M := M_X12_wayTo) dX12_wayTo_48 rfl ?_
      refine x_lneg (M := M_X12_wayTo) dX12_wayTo_50 ?_
      refine x_goto (M := M_X12_wayTo) (tgt := 56) dX12_wayTo_51 (by decide) ?_
      refine x_ladd (M := M_X12_wayTo) dX12_wayTo_56 ?_
      exact x_lret (M := M_X12_wayTo) dX12_wayTo_57 rfl ⟨by rw [f_X12_wayTo, if_neg q0, if_neg q1], rfl⟩ (Nat.le_of_ble_eq_true rfl) (Nat.le_of_ble_eq_true rfl)
def f_X12_isLater (c128 : Nat → Int32) (c129 : Nat → Int32) (c130 : Nat → Int32) (w0 : Int32) (w1 : Int32) (w2 : Int32) (w3 : Int32) : Int32 := if (c128 w0.toNatClampNeg) = w1 then if (c129 w0.toNatClampNeg) = w2 then if (c130 w0.toNatClampNeg) ≤ w3 then (Int32.ofInt 0) else ((Int32.ofInt 1)) else (if (c129 w0.toNatClampNeg) ≤ w2 then (Int32.ofInt 0) else ((Int32.ofInt 1))) else (if (c128 w0.toNatClampNeg) ≤ w1 then (Int32.ofInt 0) else ((Int32.ofInt 1)))
theorem b_X12_isLater (c128 : Nat → Int32) (c129 : Nat → Int32) (c130 : Nat → Int32) (w0 : Int32) (w1 : Int32) (w2 : Int32) (w3 : Int32) : f_X12_isLater c128 c129 c130 w0 w1 w2 w3 = 0 ∨ f_X12_isLater c128 c129 c130 w0 w1 w2 w3 = 1 := (ite01 (ite01 (ite01 (Or.inl rfl) (Or.inr rfl)) (ite01 (Or.inl rfl) (Or.inr rfl))) (ite01 (Or.inl rfl) (Or.inr rfl)))
theorem p_X12_isLater {l : Launch} {E : EE} (hl : l.stackTraces = false) {h : HP} {c128 : Nat → Int32} {c129 : Nat → Int32} {c130 : Nat → Int32} {w0 : Int32} {w1 : Int32} {w2 : Int32} {w3 : Int32} {a : Nat} {fs : List Value} (ha : ob h a = some (.inr (15, fs))) {r128 n128 : Nat} (e128 : fs[128]? = some (.ref r128)) (o128 : ob h r128 = some (.inl (0, n128, .inl c128))) {r129 n129 : Nat} (e129 : fs[129]? = some (.ref r129)) (o129 : ob h r129 = some (.inl (0, n129, .inl c129))) {r130 n130 : Nat} (e130 : fs[130]? = some (.ref r130)) (o130 : ob h r130 = some (.inl (0, n130, .inl c130))) (i0 : vp_in w0 n128) (i1 : ((c128 w0.toNatClampNeg) = w1) → vp_in w0 n129) (i2 : ((c128 w0.toNatClampNeg) = w1) → ((c129 w0.toNatClampNeg) = w2) → vp_in w0 n130) (i3 : ((c128 w0.toNatClampNeg) = w1) → (¬ (c129 w0.toNatClampNeg) = w2) → vp_in w0 n129) (i4 : (¬ (c128 w0.toNatClampNeg) = w1) → vp_in w0 n128) : en_C l E M_X12_isLater 0 0 0 [.ref a, .int w0, .int w1, .int w2, .int w3] h (pR (some (.int (f_X12_isLater c128 c129 c130 w0 w1 w2 w3))) h) := by
  refine en_mk m_X12_isLater rfl hl (Nat.le_of_ble_eq_true rfl) ?_
  refine x_aload_n (M := M_X12_isLater) dX12_isLater_0 rfl ?_
  refine x_getf (M := M_X12_isLater) (ci := 15) (C := RX12) (T := TX12) (N := 135) (ty := tyX12) cl15 dX12_isLater_1 ha 128 (by decide) t_2519 e128 ?_
  refine x_iload_n (M := M_X12_isLater) dX12_isLater_4 rfl ?_
  refine x_iald (M := M_X12_isLater) dX12_isLater_5 o128 i0 ?_
  refine x_iload_n (M := M_X12_isLater) dX12_isLater_6 rfl ?_
  refine x_icmp_eq (M := M_X12_isLater) (tgt := 26) dX12_isLater_7 (by decide) (fun q0 => ?_) (fun q0 => ?_)
  · refine x_aload_n (M := M_X12_isLater) dX12_isLater_26 rfl ?_
    refine x_getf (M := M_X12_isLater) (ci := 15) (C := RX12) (T := TX12) (N := 135) (ty := tyX12) cl15 dX12_isLater_27 ha 129 (by decide) t_2520 e129 ?_
    refine x_iload_n (M := M_X12_isLater) dX12_isLater_30 rfl ?_
    refine x_iald (M := M_X12_isLater) dX12_isLater_31 o129 (i1 q0) ?_
    refine x_iload_n (M := M_X12_isLater) dX12_isLater_32 rfl ?_
    refine x_icmp_eq (M := M_X12_isLater) (tgt := 54) dX12_isLater_33 (by decide) (fun q1 => ?_) (fun q1 => ?_)
    · refine x_aload_n (M := M_X12_isLater) dX12_isLater_54 rfl ?_
      refine x_getf (M := M_X12_isLater) (ci := 15) (C := RX12) (T := TX12) (N := 135) (ty := tyX12) cl15 dX12_isLater_55 ha 130 (by decide) t_2521 e130 ?_
      refine x_iload_n (M := M_X12_isLater) dX12_isLater_58 rfl ?_
      refine x_iald (M := M_X12_isLater) dX12_isLater_59 o130 (i2 q0 q1) ?_
      refine x_iload (M := M_X12_isLater) dX12_isLater_60 rfl ?_
      refine x_icmp_le (M := M_X12_isLater) (tgt := 69) dX12_isLater_62 (by decide) (fun q2 => ?_) (fun q2 => ?_)
      · refine x_iconst (M := M_X12_isLater) dX12_isLater_69 ?_
        exact x_zret (M := M_X12_isLater) dX12_isLater_70 rfl (Or.inl rfl) ⟨by rw [f_X12_isLater, if_pos q0, if_pos q1, if_pos q2], rfl⟩ (Nat.le_of_ble_eq_true rfl) (Nat.le_of_ble_eq_true rfl)
      · refine x_iconst (M := M_X12_isLater) dX12_isLater_65 ?_
        refine x_goto (M := M_X12_isLater) (tgt := 70) dX12_isLater_66 (by decide) ?_
        exact x_zret (M := M_X12_isLater) dX12_isLater_70 rfl (Or.inr rfl) ⟨by rw [f_X12_isLater, if_pos q0, if_pos q1, if_neg q2], rfl⟩ (Nat.le_of_ble_eq_true rfl) (Nat.le_of_ble_eq_true rfl)
    · refine x_aload_n (M := M_X12_isLater) dX12_isLater_36 rfl ?_
      refine x_getf (M := M_X12_isLater) (ci := 15) (C := RX12) (T := TX12) (N := 135) (ty := tyX12) cl15 dX12_isLater_37 ha 129 (by decide) t_2520 e129 ?_
      refine x_iload_n (M := M_X12_isLater) dX12_isLater_40 rfl ?_
      refine x_iald (M := M_X12_isLater) dX12_isLater_41 o129 (i3 q0 q1) ?_
      refine x_iload_n (M := M_X12_isLater) dX12_isLater_42 rfl ?_
      refine x_icmp_le (M := M_X12_isLater) (tgt := 50) dX12_isLater_43 (by decide) (fun q2 => ?_) (fun q2 => ?_)
      · refine x_iconst (M := M_X12_isLater) dX12_isLater_50 ?_
        refine x_goto (M := M_X12_isLater) (tgt := 70) dX12_isLater_51 (by decide) ?_
        exact x_zret (M := M_X12_isLater) dX12_isLater_70 rfl (Or.inl rfl) ⟨by rw [f_X12_isLater, if_pos q0, if_neg q1, if_pos q2], rfl⟩ (Nat.le_of_ble_eq_true rfl) (Nat.le_of_ble_eq_true rfl)
      · refine x_iconst (M := M_X12_isLater) dX12_isLater_46 ?_
        refine x_goto (M := M_X12_isLater) (tgt := 70) dX12_isLater_47 (by decide) ?_
        exact x_zret (M := M_X12_isLater) dX12_isLater_70 rfl (Or.inr rfl) ⟨by rw [f_X12_isLater, if_pos q0, if_neg q1, if_neg q2], rfl⟩ (Nat.le_of_ble_eq_true rfl) (Nat.le_of_ble_eq_true rfl)
  · refine x_aload_n (M := M_X12_isLater) dX12_isLater_10 rfl ?_
    refine x_getf (M := M_X12_isLater) (ci := 15) (C := RX12) (T := TX12) (N := 135) (ty := tyX12) cl15 dX12_isLater_11 ha 128 (by decide) t_2519 e128 ?_
    refine x_iload_n (M := M_X12_isLater) dX12_isLater_14 rfl ?_
    refine x_iald (M := M_X12_isLater) dX12_isLater_15 o128 (i4 q0) ?_
    refine x_iload_n (M := M_X12_isLater) dX12_isLater_16 rfl ?_
    refine x_icmp_le (M := M_X12_isLater) (tgt := 24) dX12_isLater_17 (by decide) (fun q1 => ?_) (fun q1 => ?_)
    · refine x_iconst (M := M_X12_isLater) dX12_isLater_24 ?_
      exact x_zret (M := M_X12_isLater) dX12_isLater_25 rfl (Or.inl rfl) ⟨by rw [f_X12_isLater, if_neg q0, if_pos q1], rfl⟩ (Nat.le_of_ble_eq_true rfl) (Nat.le_of_ble_eq_true rfl)
    · refine x_iconst (M := M_X12_isLater) dX12_isLater_20 ?_
      refine x_goto (M := M_X12_isLater) (tgt := 25) dX12_isLater_21 (by decide) ?_
      exact x_zret (M := M_X12_isLater) dX12_isLater_25 rfl (Or.inr rfl) ⟨by rw [f_X12_isLater, if_neg q0, if_neg q1], rfl⟩ (Nat.le_of_ble_eq_true rfl) (Nat.le_of_ble_eq_true rfl)
end PUR
