section PUR
theorem ite01 {c : Prop} [Decidable c] {x y : Int32} (hx : x = 0 ∨ x = 1) (hy : y = 0 ∨ y = 1) : (if c then x else y) = 0 ∨ (if c then x else y) = 1 := by split <;> assumption
def f_X0_has (g5 : Int32) (g6 : Int32) (w0 : Int32) : Int32 := if (g5 - g6) < w0 then (Int32.ofInt 0) else ((Int32.ofInt 1))
theorem b_X0_has (g5 : Int32) (g6 : Int32) (w0 : Int32) : f_X0_has g5 g6 w0 = 0 ∨ f_X0_has g5 g6 w0 = 1 := (ite01 (Or.inl rfl) (Or.inr rfl))
theorem p_X0_has {l : Launch} {E : EE} (hl : l.stackTraces = false) {h : HP} {g5 : Int32} {g6 : Int32} {w0 : Int32} {a : Nat} {z0 z1 z2 z3 z4 z7 z8 z9 z10 z11 z12 : Value} (ha : ob h a = some (.inr (3, [z0, z1, z2, z3, z4, .int g5, .int g6, z7, z8, z9, z10, z11, z12]))) : en_C l E M_X0_has 0 0 0 [.ref a, .int w0] h (pR (some (.int (f_X0_has g5 g6 w0))) h) := by
  refine en_mk m_X0_has rfl hl (Nat.le_of_ble_eq_true rfl) ?_
  refine x_aload_n (M := M_X0_has) dX0_has_0 rfl ?_
  refine x_getf (M := M_X0_has) (ci := 3) (C := RX0) (T := TX0) (N := 13) (ty := tyX0) cl3 dX0_has_1 ha 5 (by decide) t_156 rfl ?_
  refine x_aload_n (M := M_X0_has) dX0_has_4 rfl ?_
  refine x_getf (M := M_X0_has) (ci := 3) (C := RX0) (T := TX0) (N := 13) (ty := tyX0) cl3 dX0_has_5 ha 6 (by decide) t_157 rfl ?_
  refine x_isub (M := M_X0_has) dX0_has_8 ?_
  refine x_iload_n (M := M_X0_has) dX0_has_9 rfl ?_
  refine x_icmp_lt (M := M_X0_has) (tgt := 17) dX0_has_10 (by decide) (fun q0 => ?_) (fun q0 => ?_)
  · refine x_iconst (M := M_X0_has) dX0_has_17 ?_
    exact x_zret (M := M_X0_has) dX0_has_18 rfl (Or.inl rfl) ⟨by rw [f_X0_has, if_pos q0], rfl⟩ (Nat.le_of_ble_eq_true rfl) (Nat.le_of_ble_eq_true rfl)
  · refine x_iconst (M := M_X0_has) dX0_has_13 ?_
    refine x_goto (M := M_X0_has) (tgt := 18) dX0_has_14 (by decide) ?_
    exact x_zret (M := M_X0_has) dX0_has_18 rfl (Or.inr rfl) ⟨by rw [f_X0_has, if_neg q0], rfl⟩ (Nat.le_of_ble_eq_true rfl) (Nat.le_of_ble_eq_true rfl)
def f_X0_isNoNumber (w0 : Int64) : Int32 := if (lg_cmp (((w0.toUInt64 >>> ((Int8.ofInt 52).toInt32.toInt64.toUInt64 &&& Int64.toUInt64 63)).toInt64) &&& (2047 : Int64)) (2047 : Int64)) = 0 then if (lg_cmp (w0 &&& (4503599627370495 : Int64)) (Int64.ofNat ((0 : Fin 2) : Nat))) = 0 then (Int32.ofInt 0) else ((Int32.ofInt 1)) else ((Int32.ofInt 0))
theorem b_X0_isNoNumber (w0 : Int64) : f_X0_isNoNumber w0 = 0 ∨ f_X0_isNoNumber w0 = 1 := (ite01 (ite01 (Or.inl rfl) (Or.inr rfl)) (Or.inl rfl))
theorem p_X0_isNoNumber {l : Launch} {E : EE} (hl : l.stackTraces = false) {h : HP} {w0 : Int64} : en_C l E M_X0_isNoNumber 0 0 0 [.long w0] h (pR (some (.int (f_X0_isNoNumber w0))) h) := by
  refine en_mk m_X0_isNoNumber rfl hl (Nat.le_of_ble_eq_true rfl) ?_
  refine x_lload_n (M := M_X0_isNoNumber) dX0_isNoNumber_0 rfl ?_
  refine x_bipush (M := M_X0_isNoNumber) dX0_isNoNumber_1 ?_
  refine x_lushr (M := M_X0_isNoNumber) dX0_isNoNumber_3 ?_
  refine x_ldc2 (M := M_X0_isNoNumber) dX0_isNoNumber_4 t_997 ?_
  refine x_land (M := M_X0_isNoNumber) dX0_isNoNumber_7 ?_
  refine x_ldc2 (M := M_X0_isNoNumber) dX0_isNoNumber_8 t_997 ?_
  refine x_lcmp (M := M_X0_isNoNumber) dX0_isNoNumber_11 ?_
  refine x_if_ne (M := M_X0_isNoNumber) (tgt := 29) dX0_isNoNumber_12 (by decide) (fun q0 => ?_) (fun q0 => ?_)
  · refine x_iconst (M := M_X0_isNoNumber) dX0_isNoNumber_29 ?_
    exact x_zret (M := M_X0_isNoNumber) dX0_isNoNumber_30 rfl (Or.inl rfl) ⟨by rw [f_X0_isNoNumber, if_neg q0], rfl⟩ (Nat.le_of_ble_eq_true rfl) (Nat.le_of_ble_eq_true rfl)
  · refine x_lload_n (M := M_X0_isNoNumber) dX0_isNoNumber_15 rfl ?_
    refine x_ldc2 (M := M_X0_isNoNumber) dX0_isNoNumber_16 t_998 ?_
    refine x_land (M := M_X0_isNoNumber) dX0_isNoNumber_19 ?_
    refine x_lconst (M := M_X0_isNoNumber) dX0_isNoNumber_20 ?_
    refine x_lcmp (M := M_X0_isNoNumber) dX0_isNoNumber_21 ?_
    refine x_if_eq (M := M_X0_isNoNumber) (tgt := 29) dX0_isNoNumber_22 (by decide) (fun q1 => ?_) (fun q1 => ?_)
    · refine x_iconst (M := M_X0_isNoNumber) dX0_isNoNumber_29 ?_
      exact x_zret (M := M_X0_isNoNumber) dX0_isNoNumber_30 rfl (Or.inl rfl) ⟨by rw [f_X0_isNoNumber, if_pos q0, if_pos q1], rfl⟩ (Nat.le_of_ble_eq_true rfl) (Nat.le_of_ble_eq_true rfl)
    · refine x_iconst (M := M_X0_isNoNumber) dX0_isNoNumber_25 ?_
      refine x_goto (M := M_X0_isNoNumber) (tgt := 30) dX0_isNoNumber_26 (by decide) ?_
      exact x_zret (M := M_X0_isNoNumber) dX0_isNoNumber_30 rfl (Or.inr rfl) ⟨by rw [f_X0_isNoNumber, if_pos q0, if_neg q1], rfl⟩ (Nat.le_of_ble_eq_true rfl) (Nat.le_of_ble_eq_true rfl)
def f_X2_triangleKeyFrom (w0 : Int64) (w1 : Int64) (w2 : Int64) : Int64 := ((((w0 <<< ((Int8.ofInt 10).toInt32.toInt64 &&& 63)) ||| w1) <<< ((Int8.ofInt 10).toInt32.toInt64 &&& 63)) ||| w2)
theorem p_X2_triangleKeyFrom {l : Launch} {E : EE} (hl : l.stackTraces = false) {h : HP} {w0 : Int64} {w1 : Int64} {w2 : Int64} : en_C l E M_X2_triangleKeyFrom 0 0 0 [.long w0, .long w1, .long w2] h (pR (some (.long (f_X2_triangleKeyFrom w0 w1 w2))) h) := by
  refine en_mk m_X2_triangleKeyFrom rfl hl (Nat.le_of_ble_eq_true rfl) ?_
  refine x_lload_n (M := M_X2_triangleKeyFrom) dX2_triangleKeyFrom_0 rfl ?_
  refine x_bipush (M := M_X2_triangleKeyFrom) dX2_triangleKeyFrom_1 ?_
  refine x_lshl (M := M_X2_triangleKeyFrom) dX2_triangleKeyFrom_3 ?_
  refine x_lload_n (M := M_X2_triangleKeyFrom) dX2_triangleKeyFrom_4 rfl ?_
  refine x_lor (M := M_X2_triangleKeyFrom) dX2_triangleKeyFrom_5 ?_
  refine x_bipush (M := M_X2_triangleKeyFrom) dX2_triangleKeyFrom_6 ?_
  refine x_lshl (M := M_X2_triangleKeyFrom) dX2_triangleKeyFrom_8 ?_
  refine x_lload (M := M_X2_triangleKeyFrom) dX2_triangleKeyFrom_9 rfl ?_
  refine x_lor (M := M_X2_triangleKeyFrom) dX2_triangleKeyFrom_11 ?_
  exact x_lret (M := M_X2_triangleKeyFrom) dX2_triangleKeyFrom_12 rfl ⟨rfl, rfl⟩ (Nat.le_of_ble_eq_true rfl) (Nat.le_of_ble_eq_true rfl)
def f_X6_isThere (g3 : Int32)  : Int32 := if g3 ≤ 0 then (Int32.ofInt 0) else ((Int32.ofInt 1))
theorem b_X6_isThere (g3 : Int32)  : f_X6_isThere g3 = 0 ∨ f_X6_isThere g3 = 1 := (ite01 (Or.inl rfl) (Or.inr rfl))
theorem p_X6_isThere {l : Launch} {E : EE} (hl : l.stackTraces = false) {h : HP} {g3 : Int32}  {a : Nat} {z0 z1 z2 z4 : Value} (ha : ob h a = some (.inr (9, [z0, z1, z2, .int g3, z4]))) : en_C l E M_X6_isThere 0 0 0 [.ref a] h (pR (some (.int (f_X6_isThere g3))) h) := by
  refine en_mk m_X6_isThere rfl hl (Nat.le_of_ble_eq_true rfl) ?_
  refine x_aload_n (M := M_X6_isThere) dX6_isThere_0 rfl ?_
  refine x_getf (M := M_X6_isThere) (ci := 9) (C := RX6) (T := TX6) (N := 5) (ty := tyX6) cl9 dX6_isThere_1 ha 3 (by decide) t_72 rfl ?_
  refine x_if_le (M := M_X6_isThere) (tgt := 11) dX6_isThere_4 (by decide) (fun q0 => ?_) (fun q0 => ?_)
  · refine x_iconst (M := M_X6_isThere) dX6_isThere_11 ?_
    exact x_zret (M := M_X6_isThere) dX6_isThere_12 rfl (Or.inl rfl) ⟨by rw [f_X6_isThere, if_pos q0], rfl⟩ (Nat.le_of_ble_eq_true rfl) (Nat.le_of_ble_eq_true rfl)
  · refine x_iconst (M := M_X6_isThere) dX6_isThere_7 ?_
    refine x_goto (M := M_X6_isThere) (tgt := 12) dX6_isThere_8 (by decide) ?_
    exact x_zret (M := M_X6_isThere) dX6_isThere_12 rfl (Or.inr rfl) ⟨by rw [f_X6_isThere, if_neg q0], rfl⟩ (Nat.le_of_ble_eq_true rfl) (Nat.le_of_ble_eq_true rfl)
def f_X6_hasRoomForPoint (g4 : Int32)  : Int32 := if (Int16.ofInt 2048).toInt32 ≤ g4 then (Int32.ofInt 0) else ((Int32.ofInt 1))
theorem b_X6_hasRoomForPoint (g4 : Int32)  : f_X6_hasRoomForPoint g4 = 0 ∨ f_X6_hasRoomForPoint g4 = 1 := (ite01 (Or.inl rfl) (Or.inr rfl))
theorem p_X6_hasRoomForPoint {l : Launch} {E : EE} (hl : l.stackTraces = false) {h : HP} {g4 : Int32}  {a : Nat} {z0 z1 z2 z3 : Value} (ha : ob h a = some (.inr (9, [z0, z1, z2, z3, .int g4]))) : en_C l E M_X6_hasRoomForPoint 0 0 0 [.ref a] h (pR (some (.int (f_X6_hasRoomForPoint g4))) h) := by
  refine en_mk m_X6_hasRoomForPoint rfl hl (Nat.le_of_ble_eq_true rfl) ?_
  refine x_aload_n (M := M_X6_hasRoomForPoint) dX6_hasRoomForPoint_0 rfl ?_
  refine x_getf (M := M_X6_hasRoomForPoint) (ci := 9) (C := RX6) (T := TX6) (N := 5) (ty := tyX6) cl9 dX6_hasRoomForPoint_1 ha 4 (by decide) t_83 rfl ?_
  refine x_sipush (M := M_X6_hasRoomForPoint) dX6_hasRoomForPoint_4 ?_
  refine x_icmp_ge (M := M_X6_hasRoomForPoint) (tgt := 14) dX6_hasRoomForPoint_7 (by decide) (fun q0 => ?_) (fun q0 => ?_)
  · refine x_iconst (M := M_X6_hasRoomForPoint) dX6_hasRoomForPoint_14 ?_
    exact x_zret (M := M_X6_hasRoomForPoint) dX6_hasRoomForPoint_15 rfl (Or.inl rfl) ⟨by rw [f_X6_hasRoomForPoint, if_pos q0], rfl⟩ (Nat.le_of_ble_eq_true rfl) (Nat.le_of_ble_eq_true rfl)
  · refine x_iconst (M := M_X6_hasRoomForPoint) dX6_hasRoomForPoint_10 ?_
    refine x_goto (M := M_X6_hasRoomForPoint) (tgt := 15) dX6_hasRoomForPoint_11 (by decide) ?_
    exact x_zret (M := M_X6_hasRoomForPoint) dX6_hasRoomForPoint_15 rfl (Or.inr rfl) ⟨by rw [f_X6_hasRoomForPoint, if_neg q0], rfl⟩ (Nat.le_of_ble_eq_true rfl) (Nat.le_of_ble_eq_true rfl)
def f_X8_meetsPixel (w0 : Int64) (w1 : Int64) (w2 : Int64) (w3 : Int64) : Int32 := if (lg_cmp w0 (Int64.ofNat ((0 : Fin 2) : Nat))) = 0 then (Int32.ofInt 1) else (if (lg_cmp w1 (Int64.ofNat ((0 : Fin 2) : Nat))) = 0 then (Int32.ofInt 1) else (if (lg_cmp w1 (Int64.ofNat ((0 : Fin 2) : Nat))) ≤ 0 then if (lg_cmp ((w2 - (Int64.ofNat ((1 : Fin 2) : Nat))) * w1) ((w3 - (Int64.ofNat ((1 : Fin 2) : Nat))) * w0)) < 0 then (Int32.ofInt 0) else (if (lg_cmp ((w3 + (Int64.ofNat ((1 : Fin 2) : Nat))) * w0) ((w2 + (Int64.ofNat ((1 : Fin 2) : Nat))) * w1)) ≤ 0 then (Int32.ofInt 0) else ((Int32.ofInt 1))) else (if 0 ≤ (lg_cmp ((w2 - (Int64.ofNat ((1 : Fin 2) : Nat))) * w1) ((w3 + (Int64.ofNat ((1 : Fin 2) : Nat))) * w0)) then (Int32.ofInt 0) else (if 0 ≤ (lg_cmp ((w3 - (Int64.ofNat ((1 : Fin 2) : Nat))) * w0) ((w2 + (Int64.ofNat ((1 : Fin 2) : Nat))) * w1)) then (Int32.ofInt 0) else ((Int32.ofInt 1))))))
theorem b_X8_meetsPixel (w0 : Int64) (w1 : Int64) (w2 : Int64) (w3 : Int64) : f_X8_meetsPixel w0 w1 w2 w3 = 0 ∨ f_X8_meetsPixel w0 w1 w2 w3 = 1 := (ite01 (Or.inr rfl) (ite01 (Or.inr rfl) (ite01 (ite01 (Or.inl rfl) (ite01 (Or.inl rfl) (Or.inr rfl))) (ite01 (Or.inl rfl) (ite01 (Or.inl rfl) (Or.inr rfl))))))
theorem p_X8_meetsPixel {l : Launch} {E : EE} (hl : l.stackTraces = false) {h : HP} {w0 : Int64} {w1 : Int64} {w2 : Int64} {w3 : Int64} : en_C l E M_X8_meetsPixel 0 0 0 [.long w0, .long w1, .long w2, .long w3] h (pR (some (.int (f_X8_meetsPixel w0 w1 w2 w3))) h) := by
  refine en_mk m_X8_meetsPixel rfl hl (Nat.le_of_ble_eq_true rfl) ?_
  refine x_lload_n (M := M_X8_meetsPixel) dX8_meetsPixel_0 rfl ?_
  refine x_lconst (M := M_X8_meetsPixel) dX8_meetsPixel_1 ?_
  refine x_lcmp (M := M_X8_meetsPixel) dX8_meetsPixel_2 ?_
  refine x_if_eq (M := M_X8_meetsPixel) (tgt := 12) dX8_meetsPixel_3 (by decide) (fun q0 => ?_) (fun q0 => ?_)
  · refine x_iconst (M := M_X8_meetsPixel) dX8_meetsPixel_12 ?_
    exact x_zret (M := M_X8_meetsPixel) dX8_meetsPixel_13 rfl (Or.inr rfl) ⟨by rw [f_X8_meetsPixel, if_pos q0], rfl⟩ (Nat.le_of_ble_eq_true rfl) (Nat.le_of_ble_eq_true rfl)
  · refine x_lload_n (M := M_X8_meetsPixel) dX8_meetsPixel_6 rfl ?_
    refine x_lconst (M := M_X8_meetsPixel) dX8_meetsPixel_7 ?_
    refine x_lcmp (M := M_X8_meetsPixel) dX8_meetsPixel_8 ?_
    refine x_if_ne (M := M_X8_meetsPixel) (tgt := 14) dX8_meetsPixel_9 (by decide) (fun q1 => ?_) (fun q1 => ?_)
    · refine x_lload_n (M := M_X8_meetsPixel) dX8_meetsPixel_14 rfl ?_
      refine x_lconst (M := M_X8_meetsPixel) dX8_meetsPixel_15 ?_
      refine x_lcmp (M := M_X8_meetsPixel) dX8_meetsPixel_16 ?_
      refine x_if_le (M := M_X8_meetsPixel) (tgt := 58) dX8_meetsPixel_17 (by decide) (fun q2 => ?_) (fun q2 => ?_)
      · refine x_lload (M := M_X8_meetsPixel) dX8_meetsPixel_58 rfl ?_
        refine x_lconst (M := M_X8_meetsPixel) dX8_meetsPixel_60 ?_
        refine x_lsub (M := M_X8_meetsPixel) dX8_meetsPixel_61 ?_
        refine x_lload_n (M := M_X8_meetsPixel) dX8_meetsPixel_62 rfl ?_
        refine x_lmul (M := M_X8_meetsPixel) dX8_meetsPixel_63 ?_
        refine x_lload (M := M_X8_meetsPixel) dX8_meetsPixel_64 rfl ?_
        refine x_lconst (M := M_X8_meetsPixel) dX8_meetsPixel_66 ?_
        refine x_lsub (M := M_X8_meetsPixel) dX8_meetsPixel_67 ?_
        refine x_lload_n (M := M_X8_meetsPixel) dX8_meetsPixel_68 rfl ?_
        refine x_lmul (M := M_X8_meetsPixel) dX8_meetsPixel_69 ?_
        refine x_lcmp (M := M_X8_meetsPixel) dX8_meetsPixel_70 ?_
        refine x_if_lt (M := M_X8_meetsPixel) (tgt := 94) dX8_meetsPixel_71 (by decide) (fun q3 => ?_) (fun q3 => ?_)
        · refine x_iconst (M := M_X8_meetsPixel) dX8_meetsPixel_94 ?_
          exact x_zret (M := M_X8_meetsPixel) dX8_meetsPixel_95 rfl (Or.inl rfl) ⟨by rw [f_X8_meetsPixel, if_neg q0, if_neg q1, if_pos q2, if_pos q3], rfl⟩ (Nat.le_of_ble_eq_true rfl) (Nat.le_of_ble_eq_true rfl)
        · refine x_lload (M := M_X8_meetsPixel) dX8_meetsPixel_74 rfl ?_
          refine x_lconst (M := M_X8_meetsPixel) dX8_meetsPixel_76 ?_
          refine x_ladd (M := M_X8_meetsPixel) dX8_meetsPixel_77 ?_
          refine x_lload_n (M := M_X8_meetsPixel) dX8_meetsPixel_78 rfl ?_
          refine x_lmul (M := M_X8_meetsPixel) dX8_meetsPixel_79 ?_
          refine x_lload (M := M_X8_meetsPixel) dX8_meetsPixel_80 rfl ?_
          refine x_lconst (M := M_X8_meetsPixel) dX8_meetsPixel_82 ?_
          refine x_ladd (M := M_X8_meetsPixel) dX8_meetsPixel_83 ?_
          refine x_lload_n (M := M_X8_meetsPixel) dX8_meetsPixel_84 rfl ?_
          refine x_lmul (M := M_X8_meetsPixel) dX8_meetsPixel_85 ?_
          refine x_lcmp (M := M_X8_meetsPixel) dX8_meetsPixel_86 ?_
          refine x_if_le (M := M_X8_meetsPixel) (tgt := 94) dX8_meetsPixel_87 (by decide) (fun q4 => ?_) (fun q4 => ?_)
          · refine x_iconst (M := M_X8_meetsPixel) dX8_meetsPixel_94 ?_
            exact x_zret (M := M_X8_meetsPixel) dX8_meetsPixel_95 rfl (Or.inl rfl) ⟨by rw [f_X8_meetsPixel, if_neg q0, if_neg q1, if_pos q2, if_neg q3, if_pos q4], rfl⟩ (Nat.le_of_ble_eq_true rfl) (Nat.le_of_ble_eq_true rfl)
          · refine x_iconst (M := M_X8_meetsPixel) dX8_meetsPixel_90 ?_
            refine x_goto (M := M_X8_meetsPixel) (tgt := 95) dX8_meetsPixel_91 (by decide) ?_
            exact x_zret (M := M_X8_meetsPixel) dX8_meetsPixel_95 rfl (Or.inr rfl) ⟨by rw [f_X8_meetsPixel, if_neg q0, if_neg q1, if_pos q2, if_neg q3, if_neg q4], rfl⟩ (Nat.le_of_ble_eq_true rfl) (Nat.le_of_ble_eq_true rfl)
      · refine x_lload (M := M_X8_meetsPixel) dX8_meetsPixel_20 rfl ?_
        refine x_lconst (M := M_X8_meetsPixel) dX8_meetsPixel_22 ?_
        refine x_lsub (M := M_X8_meetsPixel) dX8_meetsPixel_23 ?_
        refine x_lload_n (M := M_X8_meetsPixel) dX8_meetsPixel_24 rfl ?_
        refine x_lmul (M := M_X8_meetsPixel) dX8_meetsPixel_25 ?_
        refine x_lload (M := M_X8_meetsPixel) dX8_meetsPixel_26 rfl ?_
        refine x_lconst (M := M_X8_meetsPixel) dX8_meetsPixel_28 ?_
        refine x_ladd (M := M_X8_meetsPixel) dX8_meetsPixel_29 ?_
        refine x_lload_n (M := M_X8_meetsPixel) dX8_meetsPixel_30 rfl ?_
        refine x_lmul (M := M_X8_meetsPixel) dX8_meetsPixel_31 ?_
        refine x_lcmp (M := M_X8_meetsPixel) dX8_meetsPixel_32 ?_
        refine x_if_ge (M := M_X8_meetsPixel) (tgt := 56) dX8_meetsPixel_33 (by decide) (fun q3 => ?_) (fun q3 => ?_)
        · refine x_iconst (M := M_X8_meetsPixel) dX8_meetsPixel_56 ?_
          exact x_zret (M := M_X8_meetsPixel) dX8_meetsPixel_57 rfl (Or.inl rfl) ⟨by rw [f_X8_meetsPixel, if_neg q0, if_neg q1, if_neg q2, if_pos q3], rfl⟩ (Nat.le_of_ble_eq_true rfl) (Nat.le_of_ble_eq_true rfl)
        · refine x_lload (M := M_X8_meetsPixel) dX8_meetsPixel_36 rfl ?_
          refine x_lconst (M := M_X8_meetsPixel) dX8_meetsPixel_38 ?_
          refine x_lsub (M := M_X8_meetsPixel) dX8_meetsPixel_39 ?_
          refine x_lload_n (M := M_X8_meetsPixel) dX8_meetsPixel_40 rfl ?_
          refine x_lmul (M := M_X8_meetsPixel) dX8_meetsPixel_41 ?_
          refine x_lload (M := M_X8_meetsPixel) dX8_meetsPixel_42 rfl ?_
          refine x_lconst (M := M_X8_meetsPixel) dX8_meetsPixel_44 ?_
          refine x_ladd (M := M_X8_meetsPixel) dX8_meetsPixel_45 ?_
          refine x_lload_n (M := M_X8_meetsPixel) dX8_meetsPixel_46 rfl ?_
          refine x_lmul (M := M_X8_meetsPixel) dX8_meetsPixel_47 ?_
          refine x_lcmp (M := M_X8_meetsPixel) dX8_meetsPixel_48 ?_
          refine x_if_ge (M := M_X8_meetsPixel) (tgt := 56) dX8_meetsPixel_49 (by decide) (fun q4 => ?_) (fun q4 => ?_)
          · refine x_iconst (M := M_X8_meetsPixel) dX8_meetsPixel_56 ?_
            exact x_zret (M := M_X8_meetsPixel) dX8_meetsPixel_57 rfl (Or.inl rfl) ⟨by rw [f_X8_meetsPixel, if_neg q0, if_neg q1, if_neg q2, if_neg q3, if_pos q4], rfl⟩ (Nat.le_of_ble_eq_true rfl) (Nat.le_of_ble_eq_true rfl)
          · refine x_iconst (M := M_X8_meetsPixel) dX8_meetsPixel_52 ?_
            refine x_goto (M := M_X8_meetsPixel) (tgt := 57) dX8_meetsPixel_53 (by decide) ?_
            exact x_zret (M := M_X8_meetsPixel) dX8_meetsPixel_57 rfl (Or.inr rfl) ⟨by rw [f_X8_meetsPixel, if_neg q0, if_neg q1, if_neg q2, if_neg q3, if_neg q4], rfl⟩ (Nat.le_of_ble_eq_true rfl) (Nat.le_of_ble_eq_true rfl)
    · refine x_iconst (M := M_X8_meetsPixel) dX8_meetsPixel_12 ?_
      exact x_zret (M := M_X8_meetsPixel) dX8_meetsPixel_13 rfl (Or.inr rfl) ⟨by rw [f_X8_meetsPixel, if_neg q0, if_pos q1], rfl⟩ (Nat.le_of_ble_eq_true rfl) (Nat.le_of_ble_eq_true rfl)
def f_X9_isBlank (w0 : Int32) : Int32 := if w0 = (Int8.ofInt 32).toInt32 then (Int32.ofInt 1) else (if w0 = (Int8.ofInt 9).toInt32 then (Int32.ofInt 1) else (if w0 = (Int8.ofInt 10).toInt32 then (Int32.ofInt 1) else (if w0 = (Int8.ofInt 13).toInt32 then (Int32.ofInt 1) else ((Int32.ofInt 0)))))
theorem b_X9_isBlank (w0 : Int32) : f_X9_isBlank w0 = 0 ∨ f_X9_isBlank w0 = 1 := (ite01 (Or.inr rfl) (ite01 (Or.inr rfl) (ite01 (Or.inr rfl) (ite01 (Or.inr rfl) (Or.inl rfl)))))
theorem p_X9_isBlank {l : Launch} {E : EE} (hl : l.stackTraces = false) {h : HP} {w0 : Int32} : en_C l E M_X9_isBlank 0 0 0 [.int w0] h (pR (some (.int (f_X9_isBlank w0))) h) := by
  refine en_mk m_X9_isBlank rfl hl (Nat.le_of_ble_eq_true rfl) ?_
  refine x_iload_n (M := M_X9_isBlank) dX9_isBlank_0 rfl ?_
  refine x_bipush (M := M_X9_isBlank) dX9_isBlank_1 ?_
  refine x_icmp_eq (M := M_X9_isBlank) (tgt := 24) dX9_isBlank_3 (by decide) (fun q0 => ?_) (fun q0 => ?_)
  · refine x_iconst (M := M_X9_isBlank) dX9_isBlank_24 ?_
    refine x_goto (M := M_X9_isBlank) (tgt := 29) dX9_isBlank_25 (by decide) ?_
    exact x_zret (M := M_X9_isBlank) dX9_isBlank_29 rfl (Or.inr rfl) ⟨by rw [f_X9_isBlank, if_pos q0], rfl⟩ (Nat.le_of_ble_eq_true rfl) (Nat.le_of_ble_eq_true rfl)
  · refine x_iload_n (M := M_X9_isBlank) dX9_isBlank_6 rfl ?_
    refine x_bipush (M := M_X9_isBlank) dX9_isBlank_7 ?_
    refine x_icmp_eq (M := M_X9_isBlank) (tgt := 24) dX9_isBlank_9 (by decide) (fun q1 => ?_) (fun q1 => ?_)
    · refine x_iconst (M := M_X9_isBlank) dX9_isBlank_24 ?_
      refine x_goto (M := M_X9_isBlank) (tgt := 29) dX9_isBlank_25 (by decide) ?_
      exact x_zret (M := M_X9_isBlank) dX9_isBlank_29 rfl (Or.inr rfl) ⟨by rw [f_X9_isBlank, if_neg q0, if_pos q1], rfl⟩ (Nat.le_of_ble_eq_true rfl) (Nat.le_of_ble_eq_true rfl)
    · refine x_iload_n (M := M_X9_isBlank) dX9_isBlank_12 rfl ?_
      refine x_bipush (M := M_X9_isBlank) dX9_isBlank_13 ?_
      refine x_icmp_eq (M := M_X9_isBlank) (tgt := 24) dX9_isBlank_15 (by decide) (fun q2 => ?_) (fun q2 => ?_)
      · refine x_iconst (M := M_X9_isBlank) dX9_isBlank_24 ?_
        refine x_goto (M := M_X9_isBlank) (tgt := 29) dX9_isBlank_25 (by decide) ?_
        exact x_zret (M := M_X9_isBlank) dX9_isBlank_29 rfl (Or.inr rfl) ⟨by rw [f_X9_isBlank, if_neg q0, if_neg q1, if_pos q2], rfl⟩ (Nat.le_of_ble_eq_true rfl) (Nat.le_of_ble_eq_true rfl)
      · refine x_iload_n (M := M_X9_isBlank) dX9_isBlank_18 rfl ?_
        refine x_bipush (M := M_X9_isBlank) dX9_isBlank_19 ?_
        refine x_icmp_ne (M := M_X9_isBlank) (tgt := 28) dX9_isBlank_21 (by decide) (fun q3 => ?_) (fun q3 => ?_)
        · refine x_iconst (M := M_X9_isBlank) dX9_isBlank_28 ?_
          exact x_zret (M := M_X9_isBlank) dX9_isBlank_29 rfl (Or.inl rfl) ⟨by rw [f_X9_isBlank, if_neg q0, if_neg q1, if_neg q2, if_neg q3], rfl⟩ (Nat.le_of_ble_eq_true rfl) (Nat.le_of_ble_eq_true rfl)
        · refine x_iconst (M := M_X9_isBlank) dX9_isBlank_24 ?_
          refine x_goto (M := M_X9_isBlank) (tgt := 29) dX9_isBlank_25 (by decide) ?_
          exact x_zret (M := M_X9_isBlank) dX9_isBlank_29 rfl (Or.inr rfl) ⟨by rw [f_X9_isBlank, if_neg q0, if_neg q1, if_neg q2, if_pos q3], rfl⟩ (Nat.le_of_ble_eq_true rfl) (Nat.le_of_ble_eq_true rfl)
def f_X9_isLetter (w0 : Int32) : Int32 := if w0 < (Int8.ofInt 65).toInt32 then if w0 < (Int8.ofInt 97).toInt32 then (Int32.ofInt 0) else (if (Int8.ofInt 122).toInt32 < w0 then (Int32.ofInt 0) else ((Int32.ofInt 1))) else (if w0 ≤ (Int8.ofInt 90).toInt32 then (Int32.ofInt 1) else (if w0 < (Int8.ofInt 97).toInt32 then (Int32.ofInt 0) else (if (Int8.ofInt 122).toInt32 < w0 then (Int32.ofInt 0) else ((Int32.ofInt 1)))))
theorem b_X9_isLetter (w0 : Int32) : f_X9_isLetter w0 = 0 ∨ f_X9_isLetter w0 = 1 := (ite01 (ite01 (Or.inl rfl) (ite01 (Or.inl rfl) (Or.inr rfl))) (ite01 (Or.inr rfl) (ite01 (Or.inl rfl) (ite01 (Or.inl rfl) (Or.inr rfl)))))
theorem p_X9_isLetter {l : Launch} {E : EE} (hl : l.stackTraces = false) {h : HP} {w0 : Int32} : en_C l E M_X9_isLetter 0 0 0 [.int w0] h (pR (some (.int (f_X9_isLetter w0))) h) := by
  refine en_mk m_X9_isLetter rfl hl (Nat.le_of_ble_eq_true rfl) ?_
  refine x_iload_n (M := M_X9_isLetter) dX9_isLetter_0 rfl ?_
  refine x_bipush (M := M_X9_isLetter) dX9_isLetter_1 ?_
  refine x_icmp_lt (M := M_X9_isLetter) (tgt := 12) dX9_isLetter_3 (by decide) (fun q0 => ?_) (fun q0 => ?_)
  · refine x_iload_n (M := M_X9_isLetter) dX9_isLetter_12 rfl ?_
    refine x_bipush (M := M_X9_isLetter) dX9_isLetter_13 ?_
    refine x_icmp_lt (M := M_X9_isLetter) (tgt := 28) dX9_isLetter_15 (by decide) (fun q1 => ?_) (fun q1 => ?_)
    · refine x_iconst (M := M_X9_isLetter) dX9_isLetter_28 ?_
      exact x_zret (M := M_X9_isLetter) dX9_isLetter_29 rfl (Or.inl rfl) ⟨by rw [f_X9_isLetter, if_pos q0, if_pos q1], rfl⟩ (Nat.le_of_ble_eq_true rfl) (Nat.le_of_ble_eq_true rfl)
    · refine x_iload_n (M := M_X9_isLetter) dX9_isLetter_18 rfl ?_
      refine x_bipush (M := M_X9_isLetter) dX9_isLetter_19 ?_
      refine x_icmp_gt (M := M_X9_isLetter) (tgt := 28) dX9_isLetter_21 (by decide) (fun q2 => ?_) (fun q2 => ?_)
      · refine x_iconst (M := M_X9_isLetter) dX9_isLetter_28 ?_
        exact x_zret (M := M_X9_isLetter) dX9_isLetter_29 rfl (Or.inl rfl) ⟨by rw [f_X9_isLetter, if_pos q0, if_neg q1, if_pos q2], rfl⟩ (Nat.le_of_ble_eq_true rfl) (Nat.le_of_ble_eq_true rfl)
      · refine x_iconst (M := M_X9_isLetter) dX9_isLetter_24 ?_
        refine x_goto (M := M_X9_isLetter) (tgt := 29) dX9_isLetter_25 (by decide) ?_
        exact x_zret (M := M_X9_isLetter) dX9_isLetter_29 rfl (Or.inr rfl) ⟨by rw [f_X9_isLetter, if_pos q0, if_neg q1, if_neg q2], rfl⟩ (Nat.le_of_ble_eq_true rfl) (Nat.le_of_ble_eq_true rfl)
  · refine x_iload_n (M := M_X9_isLetter) dX9_isLetter_6 rfl ?_
    refine x_bipush (M := M_X9_isLetter) dX9_isLetter_7 ?_
    refine x_icmp_le (M := M_X9_isLetter) (tgt := 24) dX9_isLetter_9 (by decide) (fun q1 => ?_) (fun q1 => ?_)
    · refine x_iconst (M := M_X9_isLetter) dX9_isLetter_24 ?_
      refine x_goto (M := M_X9_isLetter) (tgt := 29) dX9_isLetter_25 (by decide) ?_
      exact x_zret (M := M_X9_isLetter) dX9_isLetter_29 rfl (Or.inr rfl) ⟨by rw [f_X9_isLetter, if_neg q0, if_pos q1], rfl⟩ (Nat.le_of_ble_eq_true rfl) (Nat.le_of_ble_eq_true rfl)
    · refine x_iload_n (M := M_X9_isLetter) dX9_isLetter_12 rfl ?_
      refine x_bipush (M := M_X9_isLetter) dX9_isLetter_13 ?_
      refine x_icmp_lt (M := M_X9_isLetter) (tgt := 28) dX9_isLetter_15 (by decide) (fun q2 => ?_) (fun q2 => ?_)
      · refine x_iconst (M := M_X9_isLetter) dX9_isLetter_28 ?_
        exact x_zret (M := M_X9_isLetter) dX9_isLetter_29 rfl (Or.inl rfl) ⟨by rw [f_X9_isLetter, if_neg q0, if_neg q1, if_pos q2], rfl⟩ (Nat.le_of_ble_eq_true rfl) (Nat.le_of_ble_eq_true rfl)
      · refine x_iload_n (M := M_X9_isLetter) dX9_isLetter_18 rfl ?_
        refine x_bipush (M := M_X9_isLetter) dX9_isLetter_19 ?_
        refine x_icmp_gt (M := M_X9_isLetter) (tgt := 28) dX9_isLetter_21 (by decide) (fun q3 => ?_) (fun q3 => ?_)
        · refine x_iconst (M := M_X9_isLetter) dX9_isLetter_28 ?_
          exact x_zret (M := M_X9_isLetter) dX9_isLetter_29 rfl (Or.inl rfl) ⟨by rw [f_X9_isLetter, if_neg q0, if_neg q1, if_neg q2, if_pos q3], rfl⟩ (Nat.le_of_ble_eq_true rfl) (Nat.le_of_ble_eq_true rfl)
        · refine x_iconst (M := M_X9_isLetter) dX9_isLetter_24 ?_
          refine x_goto (M := M_X9_isLetter) (tgt := 29) dX9_isLetter_25 (by decide) ?_
          exact x_zret (M := M_X9_isLetter) dX9_isLetter_29 rfl (Or.inr rfl) ⟨by rw [f_X9_isLetter, if_neg q0, if_neg q1, if_neg q2, if_neg q3], rfl⟩ (Nat.le_of_ble_eq_true rfl) (Nat.le_of_ble_eq_true rfl)
def f_X9_isDigit (w0 : Int32) : Int32 := if w0 < (Int8.ofInt 48).toInt32 then (Int32.ofInt 0) else (if (Int8.ofInt 57).toInt32 < w0 then (Int32.ofInt 0) else ((Int32.ofInt 1)))
theorem b_X9_isDigit (w0 : Int32) : f_X9_isDigit w0 = 0 ∨ f_X9_isDigit w0 = 1 := (ite01 (Or.inl rfl) (ite01 (Or.inl rfl) (Or.inr rfl)))
theorem p_X9_isDigit {l : Launch} {E : EE} (hl : l.stackTraces = false) {h : HP} {w0 : Int32} : en_C l E M_X9_isDigit 0 0 0 [.int w0] h (pR (some (.int (f_X9_isDigit w0))) h) := by
  refine en_mk m_X9_isDigit rfl hl (Nat.le_of_ble_eq_true rfl) ?_
  refine x_iload_n (M := M_X9_isDigit) dX9_isDigit_0 rfl ?_
  refine x_bipush (M := M_X9_isDigit) dX9_isDigit_1 ?_
  refine x_icmp_lt (M := M_X9_isDigit) (tgt := 16) dX9_isDigit_3 (by decide) (fun q0 => ?_) (fun q0 => ?_)
  · refine x_iconst (M := M_X9_isDigit) dX9_isDigit_16 ?_
    exact x_zret (M := M_X9_isDigit) dX9_isDigit_17 rfl (Or.inl rfl) ⟨by rw [f_X9_isDigit, if_pos q0], rfl⟩ (Nat.le_of_ble_eq_true rfl) (Nat.le_of_ble_eq_true rfl)
  · refine x_iload_n (M := M_X9_isDigit) dX9_isDigit_6 rfl ?_
    refine x_bipush (M := M_X9_isDigit) dX9_isDigit_7 ?_
    refine x_icmp_gt (M := M_X9_isDigit) (tgt := 16) dX9_isDigit_9 (by decide) (fun q1 => ?_) (fun q1 => ?_)
    · refine x_iconst (M := M_X9_isDigit) dX9_isDigit_16 ?_
      exact x_zret (M := M_X9_isDigit) dX9_isDigit_17 rfl (Or.inl rfl) ⟨by rw [f_X9_isDigit, if_neg q0, if_pos q1], rfl⟩ (Nat.le_of_ble_eq_true rfl) (Nat.le_of_ble_eq_true rfl)
    · refine x_iconst (M := M_X9_isDigit) dX9_isDigit_12 ?_
      refine x_goto (M := M_X9_isDigit) (tgt := 17) dX9_isDigit_13 (by decide) ?_
      exact x_zret (M := M_X9_isDigit) dX9_isDigit_17 rfl (Or.inr rfl) ⟨by rw [f_X9_isDigit, if_neg q0, if_neg q1], rfl⟩ (Nat.le_of_ble_eq_true rfl) (Nat.le_of_ble_eq_true rfl)
def f_X9_beginsNumber (w0 : Int32) : Int32 := if w0 < (Int8.ofInt 48).toInt32 then if w0 = (Int8.ofInt 43).toInt32 then (Int32.ofInt 1) else (if w0 = (Int8.ofInt 45).toInt32 then (Int32.ofInt 1) else (if w0 = (Int8.ofInt 46).toInt32 then (Int32.ofInt 1) else ((Int32.ofInt 0)))) else (if w0 ≤ (Int8.ofInt 57).toInt32 then (Int32.ofInt 1) else (if w0 = (Int8.ofInt 43).toInt32 then (Int32.ofInt 1) else (if w0 = (Int8.ofInt 45).toInt32 then (Int32.ofInt 1) else (if w0 = (Int8.ofInt 46).toInt32 then (Int32.ofInt 1) else ((Int32.ofInt 0))))))
theorem b_X9_beginsNumber (w0 : Int32) : f_X9_beginsNumber w0 = 0 ∨ f_X9_beginsNumber w0 = 1 := (ite01 (ite01 (Or.inr rfl) (ite01 (Or.inr rfl) (ite01 (Or.inr rfl) (Or.inl rfl)))) (ite01 (Or.inr rfl) (ite01 (Or.inr rfl) (ite01 (Or.inr rfl) (ite01 (Or.inr rfl) (Or.inl rfl))))))
theorem p_X9_beginsNumber {l : Launch} {E : EE} (hl : l.stackTraces = false) {h : HP} {w0 : Int32} : en_C l E M_X9_beginsNumber 0 0 0 [.int w0] h (pR (some (.int (f_X9_beginsNumber w0))) h) := by
  refine en_mk m_X9_beginsNumber rfl hl (Nat.le_of_ble_eq_true rfl) ?_
  refine x_iload_n (M := M_X9_beginsNumber) dX9_beginsNumber_0 rfl ?_
  refine x_bipush (M := M_X9_beginsNumber) dX9_beginsNumber_1 ?_
  refine x_icmp_lt (M := M_X9_beginsNumber) (tgt := 12) dX9_beginsNumber_3 (by decide) (fun q0 => ?_) (fun q0 => ?_)
  · refine x_iload_n (M := M_X9_beginsNumber) dX9_beginsNumber_12 rfl ?_
    refine x_bipush (M := M_X9_beginsNumber) dX9_beginsNumber_13 ?_
    refine x_icmp_eq (M := M_X9_beginsNumber) (tgt := 30) dX9_beginsNumber_15 (by decide) (fun q1 => ?_) (fun q1 => ?_)
    · refine x_iconst (M := M_X9_beginsNumber) dX9_beginsNumber_30 ?_
      refine x_goto (M := M_X9_beginsNumber) (tgt := 35) dX9_beginsNumber_31 (by decide) ?_
      exact x_zret (M := M_X9_beginsNumber) dX9_beginsNumber_35 rfl (Or.inr rfl) ⟨by rw [f_X9_beginsNumber, if_pos q0, if_pos q1], rfl⟩ (Nat.le_of_ble_eq_true rfl) (Nat.le_of_ble_eq_true rfl)
    · refine x_iload_n (M := M_X9_beginsNumber) dX9_beginsNumber_18 rfl ?_
      refine x_bipush (M := M_X9_beginsNumber) dX9_beginsNumber_19 ?_
      refine x_icmp_eq (M := M_X9_beginsNumber) (tgt := 30) dX9_beginsNumber_21 (by decide) (fun q2 => ?_) (fun q2 => ?_)
      · refine x_iconst (M := M_X9_beginsNumber) dX9_beginsNumber_30 ?_
        refine x_goto (M := M_X9_beginsNumber) (tgt := 35) dX9_beginsNumber_31 (by decide) ?_
        exact x_zret (M := M_X9_beginsNumber) dX9_beginsNumber_35 rfl (Or.inr rfl) ⟨by rw [f_X9_beginsNumber, if_pos q0, if_neg q1, if_pos q2], rfl⟩ (Nat.le_of_ble_eq_true rfl) (Nat.le_of_ble_eq_true rfl)
      · refine x_iload_n (M := M_X9_beginsNumber) dX9_beginsNumber_24 rfl ?_
        refine x_bipush (M := M_X9_beginsNumber) dX9_beginsNumber_25 ?_
        refine x_icmp_ne (M := M_X9_beginsNumber) (tgt := 34) dX9_beginsNumber_27 (by decide) (fun q3 => ?_) (fun q3 => ?_)
        · refine x_iconst (M := M_X9_beginsNumber) dX9_beginsNumber_34 ?_
          exact x_zret (M := M_X9_beginsNumber) dX9_beginsNumber_35 rfl (Or.inl rfl) ⟨by rw [f_X9_beginsNumber, if_pos q0, if_neg q1, if_neg q2, if_neg q3], rfl⟩ (Nat.le_of_ble_eq_true rfl) (Nat.le_of_ble_eq_true rfl)
        · refine x_iconst (M := M_X9_beginsNumber) dX9_beginsNumber_30 ?_
          refine x_goto (M := M_X9_beginsNumber) (tgt := 35) dX9_beginsNumber_31 (by decide) ?_
          exact x_zret (M := M_X9_beginsNumber) dX9_beginsNumber_35 rfl (Or.inr rfl) ⟨by rw [f_X9_beginsNumber, if_pos q0, if_neg q1, if_neg q2, if_pos q3], rfl⟩ (Nat.le_of_ble_eq_true rfl) (Nat.le_of_ble_eq_true rfl)
  · refine x_iload_n (M := M_X9_beginsNumber) dX9_beginsNumber_6 rfl ?_
    refine x_bipush (M := M_X9_beginsNumber) dX9_beginsNumber_7 ?_
    refine x_icmp_le (M := M_X9_beginsNumber) (tgt := 30) dX9_beginsNumber_9 (by decide) (fun q1 => ?_) (fun q1 => ?_)
    · refine x_iconst (M := M_X9_beginsNumber) dX9_beginsNumber_30 ?_
      refine x_goto (M := M_X9_beginsNumber) (tgt := 35) dX9_beginsNumber_31 (by decide) ?_
      exact x_zret (M := M_X9_beginsNumber) dX9_beginsNumber_35 rfl (Or.inr rfl) ⟨by rw [f_X9_beginsNumber, if_neg q0, if_pos q1], rfl⟩ (Nat.le_of_ble_eq_true rfl) (Nat.le_of_ble_eq_true rfl)
    · refine x_iload_n (M := M_X9_beginsNumber) dX9_beginsNumber_12 rfl ?_
      refine x_bipush (M := M_X9_beginsNumber) dX9_beginsNumber_13 ?_
      refine x_icmp_eq (M := M_X9_beginsNumber) (tgt := 30) dX9_beginsNumber_15 (by decide) (fun q2 => ?_) (fun q2 => ?_)
      · refine x_iconst (M := M_X9_beginsNumber) dX9_beginsNumber_30 ?_
        refine x_goto (M := M_X9_beginsNumber) (tgt := 35) dX9_beginsNumber_31 (by decide) ?_
        exact x_zret (M := M_X9_beginsNumber) dX9_beginsNumber_35 rfl (Or.inr rfl) ⟨by rw [f_X9_beginsNumber, if_neg q0, if_neg q1, if_pos q2], rfl⟩ (Nat.le_of_ble_eq_true rfl) (Nat.le_of_ble_eq_true rfl)
      · refine x_iload_n (M := M_X9_beginsNumber) dX9_beginsNumber_18 rfl ?_
        refine x_bipush (M := M_X9_beginsNumber) dX9_beginsNumber_19 ?_
        refine x_icmp_eq (M := M_X9_beginsNumber) (tgt := 30) dX9_beginsNumber_21 (by decide) (fun q3 => ?_) (fun q3 => ?_)
        · refine x_iconst (M := M_X9_beginsNumber) dX9_beginsNumber_30 ?_
          refine x_goto (M := M_X9_beginsNumber) (tgt := 35) dX9_beginsNumber_31 (by decide) ?_
          exact x_zret (M := M_X9_beginsNumber) dX9_beginsNumber_35 rfl (Or.inr rfl) ⟨by rw [f_X9_beginsNumber, if_neg q0, if_neg q1, if_neg q2, if_pos q3], rfl⟩ (Nat.le_of_ble_eq_true rfl) (Nat.le_of_ble_eq_true rfl)
        · refine x_iload_n (M := M_X9_beginsNumber) dX9_beginsNumber_24 rfl ?_
          refine x_bipush (M := M_X9_beginsNumber) dX9_beginsNumber_25 ?_
          refine x_icmp_ne (M := M_X9_beginsNumber) (tgt := 34) dX9_beginsNumber_27 (by decide) (fun q4 => ?_) (fun q4 => ?_)
          · refine x_iconst (M := M_X9_beginsNumber) dX9_beginsNumber_34 ?_
            exact x_zret (M := M_X9_beginsNumber) dX9_beginsNumber_35 rfl (Or.inl rfl) ⟨by rw [f_X9_beginsNumber, if_neg q0, if_neg q1, if_neg q2, if_neg q3, if_neg q4], rfl⟩ (Nat.le_of_ble_eq_true rfl) (Nat.le_of_ble_eq_true rfl)
          · refine x_iconst (M := M_X9_beginsNumber) dX9_beginsNumber_30 ?_
            refine x_goto (M := M_X9_beginsNumber) (tgt := 35) dX9_beginsNumber_31 (by decide) ?_
            exact x_zret (M := M_X9_beginsNumber) dX9_beginsNumber_35 rfl (Or.inr rfl) ⟨by rw [f_X9_beginsNumber, if_neg q0, if_neg q1, if_neg q2, if_neg q3, if_pos q4], rfl⟩ (Nat.le_of_ble_eq_true rfl) (Nat.le_of_ble_eq_true rfl)
def f_X9_isSign (w0 : Int32) : Int32 := if w0 = (Int8.ofInt 43).toInt32 then (Int32.ofInt 1) else (if w0 = (Int8.ofInt 45).toInt32 then (Int32.ofInt 1) else ((Int32.ofInt 0)))
theorem b_X9_isSign (w0 : Int32) : f_X9_isSign w0 = 0 ∨ f_X9_isSign w0 = 1 := (ite01 (Or.inr rfl) (ite01 (Or.inr rfl) (Or.inl rfl)))
theorem p_X9_isSign {l : Launch} {E : EE} (hl : l.stackTraces = false) {h : HP} {w0 : Int32} : en_C l E M_X9_isSign 0 0 0 [.int w0] h (pR (some (.int (f_X9_isSign w0))) h) := by
  refine en_mk m_X9_isSign rfl hl (Nat.le_of_ble_eq_true rfl) ?_
  refine x_iload_n (M := M_X9_isSign) dX9_isSign_0 rfl ?_
  refine x_bipush (M := M_X9_isSign) dX9_isSign_1 ?_
  refine x_icmp_eq (M := M_X9_isSign) (tgt := 12) dX9_isSign_3 (by decide) (fun q0 => ?_) (fun q0 => ?_)
  · refine x_iconst (M := M_X9_isSign) dX9_isSign_12 ?_
    refine x_goto (M := M_X9_isSign) (tgt := 17) dX9_isSign_13 (by decide) ?_
    exact x_zret (M := M_X9_isSign) dX9_isSign_17 rfl (Or.inr rfl) ⟨by rw [f_X9_isSign, if_pos q0], rfl⟩ (Nat.le_of_ble_eq_true rfl) (Nat.le_of_ble_eq_true rfl)
  · refine x_iload_n (M := M_X9_isSign) dX9_isSign_6 rfl ?_
    refine x_bipush (M := M_X9_isSign) dX9_isSign_7 ?_
    refine x_icmp_ne (M := M_X9_isSign) (tgt := 16) dX9_isSign_9 (by decide) (fun q1 => ?_) (fun q1 => ?_)
    · refine x_iconst (M := M_X9_isSign) dX9_isSign_16 ?_
      exact x_zret (M := M_X9_isSign) dX9_isSign_17 rfl (Or.inl rfl) ⟨by rw [f_X9_isSign, if_neg q0, if_neg q1], rfl⟩ (Nat.le_of_ble_eq_true rfl) (Nat.le_of_ble_eq_true rfl)
    · refine x_iconst (M := M_X9_isSign) dX9_isSign_12 ?_
      refine x_goto (M := M_X9_isSign) (tgt := 17) dX9_isSign_13 (by decide) ?_
      exact x_zret (M := M_X9_isSign) dX9_isSign_17 rfl (Or.inr rfl) ⟨by rw [f_X9_isSign, if_neg q0, if_pos q1], rfl⟩ (Nat.le_of_ble_eq_true rfl) (Nat.le_of_ble_eq_true rfl)
def f_X11_isBeyond (w0 : Int32) (w1 : Int32) : Int32 := if w0 < (-w1) then (Int32.ofInt 1) else (if w0 ≤ w1 then (Int32.ofInt 0) else ((Int32.ofInt 1)))
theorem b_X11_isBeyond (w0 : Int32) (w1 : Int32) : f_X11_isBeyond w0 w1 = 0 ∨ f_X11_isBeyond w0 w1 = 1 := (ite01 (Or.inr rfl) (ite01 (Or.inl rfl) (Or.inr rfl)))
theorem p_X11_isBeyond {l : Launch} {E : EE} (hl : l.stackTraces = false) {h : HP} {w0 : Int32} {w1 : Int32} : en_C l E M_X11_isBeyond 0 0 0 [.int w0, .int w1] h (pR (some (.int (f_X11_isBeyond w0 w1))) h) := by
  refine en_mk m_X11_isBeyond rfl hl (Nat.le_of_ble_eq_true rfl) ?_
  refine x_iload_n (M := M_X11_isBeyond) dX11_isBeyond_0 rfl ?_
  refine x_iload_n (M := M_X11_isBeyond) dX11_isBeyond_1 rfl ?_
  refine x_ineg (M := M_X11_isBeyond) dX11_isBeyond_2 ?_
  refine x_icmp_lt (M := M_X11_isBeyond) (tgt := 11) dX11_isBeyond_3 (by decide) (fun q0 => ?_) (fun q0 => ?_)
  · refine x_iconst (M := M_X11_isBeyond) dX11_isBeyond_11 ?_
    refine x_goto (M := M_X11_isBeyond) (tgt := 16) dX11_isBeyond_12 (by decide) ?_
    exact x_zret (M := M_X11_isBeyond) dX11_isBeyond_16 rfl (Or.inr rfl) ⟨by rw [f_X11_isBeyond, if_pos q0], rfl⟩ (Nat.le_of_ble_eq_true rfl) (Nat.le_of_ble_eq_true rfl)
  · refine x_iload_n (M := M_X11_isBeyond) dX11_isBeyond_6 rfl ?_
    refine x_iload_n (M := M_X11_isBeyond) dX11_isBeyond_7 rfl ?_
    refine x_icmp_le (M := M_X11_isBeyond) (tgt := 15) dX11_isBeyond_8 (by decide) (fun q1 => ?_) (fun q1 => ?_)
    · refine x_iconst (M := M_X11_isBeyond) dX11_isBeyond_15 ?_
      exact x_zret (M := M_X11_isBeyond) dX11_isBeyond_16 rfl (Or.inl rfl) ⟨by rw [f_X11_isBeyond, if_neg q0, if_pos q1], rfl⟩ (Nat.le_of_ble_eq_true rfl) (Nat.le_of_ble_eq_true rfl)
    · refine x_iconst (M := M_X11_isBeyond) dX11_isBeyond_11 ?_
      refine x_goto (M := M_X11_isBeyond) (tgt := 16) dX11_isBeyond_12 (by decide) ?_
      exact x_zret (M := M_X11_isBeyond) dX11_isBeyond_16 rfl (Or.inr rfl) ⟨by rw [f_X11_isBeyond, if_neg q0, if_neg q1], rfl⟩ (Nat.le_of_ble_eq_true rfl) (Nat.le_of_ble_eq_true rfl)
def f_X11_isNoSignPoint (w0 : Int32) : Int32 := if w0 < 0 then (Int32.ofInt 1) else (if w0 < (Int8.ofInt 32).toInt32 then (Int32.ofInt 0) else ((Int32.ofInt 1)))
theorem b_X11_isNoSignPoint (w0 : Int32) : f_X11_isNoSignPoint w0 = 0 ∨ f_X11_isNoSignPoint w0 = 1 := (ite01 (Or.inr rfl) (ite01 (Or.inl rfl) (Or.inr rfl)))
theorem p_X11_isNoSignPoint {l : Launch} {E : EE} (hl : l.stackTraces = false) {h : HP} {w0 : Int32} : en_C l E M_X11_isNoSignPoint 0 0 0 [.int w0] h (pR (some (.int (f_X11_isNoSignPoint w0))) h) := by
  refine en_mk m_X11_isNoSignPoint rfl hl (Nat.le_of_ble_eq_true rfl) ?_
  refine x_iload_n (M := M_X11_isNoSignPoint) dX11_isNoSignPoint_0 rfl ?_
  refine x_if_lt (M := M_X11_isNoSignPoint) (tgt := 10) dX11_isNoSignPoint_1 (by decide) (fun q0 => ?_) (fun q0 => ?_)
  · refine x_iconst (M := M_X11_isNoSignPoint) dX11_isNoSignPoint_10 ?_
    refine x_goto (M := M_X11_isNoSignPoint) (tgt := 15) dX11_isNoSignPoint_11 (by decide) ?_
    exact x_zret (M := M_X11_isNoSignPoint) dX11_isNoSignPoint_15 rfl (Or.inr rfl) ⟨by rw [f_X11_isNoSignPoint, if_pos q0], rfl⟩ (Nat.le_of_ble_eq_true rfl) (Nat.le_of_ble_eq_true rfl)
  · refine x_iload_n (M := M_X11_isNoSignPoint) dX11_isNoSignPoint_4 rfl ?_
    refine x_bipush (M := M_X11_isNoSignPoint) dX11_isNoSignPoint_5 ?_
    refine x_icmp_lt (M := M_X11_isNoSignPoint) (tgt := 14) dX11_isNoSignPoint_7 (by decide) (fun q1 => ?_) (fun q1 => ?_)
    · refine x_iconst (M := M_X11_isNoSignPoint) dX11_isNoSignPoint_14 ?_
      exact x_zret (M := M_X11_isNoSignPoint) dX11_isNoSignPoint_15 rfl (Or.inl rfl) ⟨by rw [f_X11_isNoSignPoint, if_neg q0, if_pos q1], rfl⟩ (Nat.le_of_ble_eq_true rfl) (Nat.le_of_ble_eq_true rfl)
    · refine x_iconst (M := M_X11_isNoSignPoint) dX11_isNoSignPoint_10 ?_
      refine x_goto (M := M_X11_isNoSignPoint) (tgt := 15) dX11_isNoSignPoint_11 (by decide) ?_
      exact x_zret (M := M_X11_isNoSignPoint) dX11_isNoSignPoint_15 rfl (Or.inr rfl) ⟨by rw [f_X11_isNoSignPoint, if_neg q0, if_neg q1], rfl⟩ (Nat.le_of_ble_eq_true rfl) (Nat.le_of_ble_eq_true rfl)
def f_X11_isNoNumber (w0 : Int64) : Int32 := if (lg_cmp (((w0.toUInt64 >>> ((Int8.ofInt 52).toInt32.toInt64.toUInt64 &&& Int64.toUInt64 63)).toInt64) &&& (2047 : Int64)) (2047 : Int64)) = 0 then (Int32.ofInt 1) else ((Int32.ofInt 0))
theorem b_X11_isNoNumber (w0 : Int64) : f_X11_isNoNumber w0 = 0 ∨ f_X11_isNoNumber w0 = 1 := (ite01 (Or.inr rfl) (Or.inl rfl))
theorem p_X11_isNoNumber {l : Launch} {E : EE} (hl : l.stackTraces = false) {h : HP} {w0 : Int64} : en_C l E M_X11_isNoNumber 0 0 0 [.long w0] h (pR (some (.int (f_X11_isNoNumber w0))) h) := by
  refine en_mk m_X11_isNoNumber rfl hl (Nat.le_of_ble_eq_true rfl) ?_
  refine x_lload_n (M := M_X11_isNoNumber) dX11_isNoNumber_0 rfl ?_
  refine x_bipush (M := M_X11_isNoNumber) dX11_isNoNumber_1 ?_
  refine x_lushr (M := M_X11_isNoNumber) dX11_isNoNumber_3 ?_
  refine x_ldc2 (M := M_X11_isNoNumber) dX11_isNoNumber_4 t_2315 ?_
  refine x_land (M := M_X11_isNoNumber) dX11_isNoNumber_7 ?_
  refine x_ldc2 (M := M_X11_isNoNumber) dX11_isNoNumber_8 t_2315 ?_
  refine x_lcmp (M := M_X11_isNoNumber) dX11_isNoNumber_11 ?_
  refine x_if_ne (M := M_X11_isNoNumber) (tgt := 19) dX11_isNoNumber_12 (by decide) (fun q0 => ?_) (fun q0 => ?_)
  · refine x_iconst (M := M_X11_isNoNumber) dX11_isNoNumber_19 ?_
    exact x_zret (M := M_X11_isNoNumber) dX11_isNoNumber_20 rfl (Or.inl rfl) ⟨by rw [f_X11_isNoNumber, if_neg q0], rfl⟩ (Nat.le_of_ble_eq_true rfl) (Nat.le_of_ble_eq_true rfl)
  · refine x_iconst (M := M_X11_isNoNumber) dX11_isNoNumber_15 ?_
    refine x_goto (M := M_X11_isNoNumber) (tgt := 20) dX11_isNoNumber_16 (by decide) ?_
    exact x_zret (M := M_X11_isNoNumber) dX11_isNoNumber_20 rfl (Or.inr rfl) ⟨by rw [f_X11_isNoNumber, if_pos q0], rfl⟩ (Nat.le_of_ble_eq_true rfl) (Nat.le_of_ble_eq_true rfl)
def f_X11_carryOf (w0 : Int64) (w1 : Int64) : Int32 := if 0 ≤ (lg_cmp (w0 + (-9223372036854775808 : Int64)) (w1 + (-9223372036854775808 : Int64))) then (Int32.ofInt 0) else ((Int32.ofInt 1))
theorem p_X11_carryOf {l : Launch} {E : EE} (hl : l.stackTraces = false) {h : HP} {w0 : Int64} {w1 : Int64} : en_C l E M_X11_carryOf 0 0 0 [.long w0, .long w1] h (pR (some (.int (f_X11_carryOf w0 w1))) h) := by
  refine en_mk m_X11_carryOf rfl hl (Nat.le_of_ble_eq_true rfl) ?_
  refine x_lload_n (M := M_X11_carryOf) dX11_carryOf_0 rfl ?_
  refine x_ldc2 (M := M_X11_carryOf) dX11_carryOf_1 t_1946 ?_
  refine x_ladd (M := M_X11_carryOf) dX11_carryOf_4 ?_
  refine x_lload_n (M := M_X11_carryOf) dX11_carryOf_5 rfl ?_
  refine x_ldc2 (M := M_X11_carryOf) dX11_carryOf_6 t_1946 ?_
  refine x_ladd (M := M_X11_carryOf) dX11_carryOf_9 ?_
  refine x_lcmp (M := M_X11_carryOf) dX11_carryOf_10 ?_
  refine x_if_ge (M := M_X11_carryOf) (tgt := 18) dX11_carryOf_11 (by decide) (fun q0 => ?_) (fun q0 => ?_)
  · refine x_iconst (M := M_X11_carryOf) dX11_carryOf_18 ?_
    exact x_iret (M := M_X11_carryOf) dX11_carryOf_19 rfl ⟨by rw [f_X11_carryOf, if_pos q0], rfl⟩ (Nat.le_of_ble_eq_true rfl) (Nat.le_of_ble_eq_true rfl)
  · refine x_iconst (M := M_X11_carryOf) dX11_carryOf_14 ?_
    refine x_goto (M := M_X11_carryOf) (tgt := 19) dX11_carryOf_15 (by decide) ?_
    exact x_iret (M := M_X11_carryOf) dX11_carryOf_19 rfl ⟨by rw [f_X11_carryOf, if_neg q0], rfl⟩ (Nat.le_of_ble_eq_true rfl) (Nat.le_of_ble_eq_true rfl)
def f_X11_highOf (w0 : Int64) (w1 : Int64) : Int64 := ((((w0 >>> ((Int8.ofInt 32).toInt32.toInt64 &&& 63)) * (w1 >>> ((Int8.ofInt 32).toInt32.toInt64 &&& 63))) + ((((w0 >>> ((Int8.ofInt 32).toInt32.toInt64 &&& 63)) * (w1 &&& (4294967295 : Int64))) + ((((w0 &&& (4294967295 : Int64)) * (w1 &&& (4294967295 : Int64))).toUInt64 >>> ((Int8.ofInt 32).toInt32.toInt64.toUInt64 &&& Int64.toUInt64 63)).toInt64)) >>> ((Int8.ofInt 32).toInt32.toInt64 &&& 63))) + ((((w0 &&& (4294967295 : Int64)) * (w1 >>> ((Int8.ofInt 32).toInt32.toInt64 &&& 63))) + ((((w0 >>> ((Int8.ofInt 32).toInt32.toInt64 &&& 63)) * (w1 &&& (4294967295 : Int64))) + ((((w0 &&& (4294967295 : Int64)) * (w1 &&& (4294967295 : Int64))).toUInt64 >>> ((Int8.ofInt 32).toInt32.toInt64.toUInt64 &&& Int64.toUInt64 63)).toInt64)) &&& (4294967295 : Int64))) >>> ((Int8.ofInt 32).toInt32.toInt64 &&& 63)))
theorem p_X11_highOf {l : Launch} {E : EE} (hl : l.stackTraces = false) {h : HP} {w0 : Int64} {w1 : Int64} : en_C l E M_X11_highOf 0 0 0 [.long w0, .long w1] h (pR (some (.long (f_X11_highOf w0 w1))) h) := by
  refine en_mk m_X11_highOf rfl hl (Nat.le_of_ble_eq_true rfl) ?_
  refine x_ldc2 (M := M_X11_highOf) dX11_highOf_0 t_1429 ?_
  refine x_lstore (M := M_X11_highOf) dX11_highOf_3 (by decide) rfl ?_
  refine x_lload_n (M := M_X11_highOf) dX11_highOf_5 rfl ?_
  refine x_lload (M := M_X11_highOf) dX11_highOf_6 rfl ?_
  refine x_land (M := M_X11_highOf) dX11_highOf_8 ?_
  refine x_lstore (M := M_X11_highOf) dX11_highOf_9 (by decide) rfl ?_
  refine x_lload_n (M := M_X11_highOf) dX11_highOf_11 rfl ?_
  refine x_bipush (M := M_X11_highOf) dX11_highOf_12 ?_
  refine x_lshr (M := M_X11_highOf) dX11_highOf_14 ?_
  refine x_lstore (M := M_X11_highOf) dX11_highOf_15 (by decide) rfl ?_
  refine x_lload_n (M := M_X11_highOf) dX11_highOf_17 rfl ?_
  refine x_lload (M := M_X11_highOf) dX11_highOf_18 rfl ?_
  refine x_land (M := M_X11_highOf) dX11_highOf_20 ?_
  refine x_lstore (M := M_X11_highOf) dX11_highOf_21 (by decide) rfl ?_
  refine x_lload_n (M := M_X11_highOf) dX11_highOf_23 rfl ?_
  refine x_bipush (M := M_X11_highOf) dX11_highOf_24 ?_
  refine x_lshr (M := M_X11_highOf) dX11_highOf_26 ?_
  refine x_lstore (M := M_X11_highOf) dX11_highOf_27 (by decide) rfl ?_
  refine x_lload (M := M_X11_highOf) dX11_highOf_29 rfl ?_
  refine x_lload (M := M_X11_highOf) dX11_highOf_31 rfl ?_
  refine x_lmul (M := M_X11_highOf) dX11_highOf_33 ?_
  refine x_lload (M := M_X11_highOf) dX11_highOf_34 rfl ?_
  refine x_lload (M := M_X11_highOf) dX11_highOf_36 rfl ?_
  refine x_lmul (M := M_X11_highOf) dX11_highOf_38 ?_
  refine x_bipush (M := M_X11_highOf) dX11_highOf_39 ?_
  refine x_lushr (M := M_X11_highOf) dX11_highOf_41 ?_
  refine x_ladd (M := M_X11_highOf) dX11_highOf_42 ?_
  refine x_lstore (M := M_X11_highOf) dX11_highOf_43 (by decide) rfl ?_
  refine x_lload (M := M_X11_highOf) dX11_highOf_45 rfl ?_
  refine x_lload (M := M_X11_highOf) dX11_highOf_47 rfl ?_
  refine x_lmul (M := M_X11_highOf) dX11_highOf_49 ?_
  refine x_lload (M := M_X11_highOf) dX11_highOf_50 rfl ?_
  refine x_lload (M := M_X11_highOf) dX11_highOf_52 rfl ?_
  refine x_land (M := M_X11_highOf) dX11_highOf_54 ?_
  refine x_ladd (M := M_X11_highOf) dX11_highOf_55 ?_
  refine x_lstore (M := M_X11_highOf) dX11_highOf_56 (by decide) rfl ?_
  refine x_lload (M := M_X11_highOf) dX11_highOf_58 rfl ?_
  refine x_lload (M := M_X11_highOf) dX11_highOf_60 rfl ?_
  refine x_lmul (M := M_X11_highOf) dX11_highOf_62 ?_
  refine x_lload (M := M_X11_highOf) dX11_highOf_63 rfl ?_
  refine x_bipush (M := M_X11_highOf) dX11_highOf_65 ?_
  refine x_lshr (M := M_X11_highOf) dX11_highOf_67 ?_
  refine x_ladd (M := M_X11_highOf) dX11_highOf_68 ?_
  refine x_lload (M := M_X11_highOf) dX11_highOf_69 rfl ?_
  refine x_bipush (M := M_X11_highOf) dX11_highOf_71 ?_
  refine x_lshr (M := M_X11_highOf) dX11_highOf_73 ?_
  refine x_ladd (M := M_X11_highOf) dX11_highOf_74 ?_
  exact x_lret (M := M_X11_highOf) dX11_highOf_75 rfl ⟨rfl, rfl⟩ (Nat.le_of_ble_eq_true rfl) (Nat.le_of_ble_eq_true rfl)
def f_X11_keyOf (w0 : Int32) (w1 : Int32) : Int64 := (((w0.toInt64) <<< ((Int8.ofInt 32).toInt32.toInt64 &&& 63)) ||| (((w1 ^^^ (-2147483648 : Int32)).toInt64) &&& (4294967295 : Int64)))
theorem p_X11_keyOf {l : Launch} {E : EE} (hl : l.stackTraces = false) {h : HP} {w0 : Int32} {w1 : Int32} : en_C l E M_X11_keyOf 0 0 0 [.int w0, .int w1] h (pR (some (.long (f_X11_keyOf w0 w1))) h) := by
  refine en_mk m_X11_keyOf rfl hl (Nat.le_of_ble_eq_true rfl) ?_
  refine x_iload_n (M := M_X11_keyOf) dX11_keyOf_0 rfl ?_
  refine x_i2l (M := M_X11_keyOf) dX11_keyOf_1 ?_
  refine x_bipush (M := M_X11_keyOf) dX11_keyOf_2 ?_
  refine x_lshl (M := M_X11_keyOf) dX11_keyOf_4 ?_
  refine x_iload_n (M := M_X11_keyOf) dX11_keyOf_5 rfl ?_
  refine x_ldcw (M := M_X11_keyOf) dX11_keyOf_6 t_1428 ?_
  refine x_ixor (M := M_X11_keyOf) dX11_keyOf_9 ?_
  refine x_i2l (M := M_X11_keyOf) dX11_keyOf_10 ?_
  refine x_ldc2 (M := M_X11_keyOf) dX11_keyOf_11 t_1429 ?_
  refine x_land (M := M_X11_keyOf) dX11_keyOf_14 ?_
  refine x_lor (M := M_X11_keyOf) dX11_keyOf_15 ?_
  exact x_lret (M := M_X11_keyOf) dX11_keyOf_16 rfl ⟨rfl, rfl⟩ (Nat.le_of_ble_eq_true rfl) (Nat.le_of_ble_eq_true rfl)
def f_X11_keyX (w0 : Int64) : Int32 := ((w0 >>> ((Int8.ofInt 32).toInt32.toInt64 &&& 63)).toInt32)
theorem p_X11_keyX {l : Launch} {E : EE} (hl : l.stackTraces = false) {h : HP} {w0 : Int64} : en_C l E M_X11_keyX 0 0 0 [.long w0] h (pR (some (.int (f_X11_keyX w0))) h) := by
  refine en_mk m_X11_keyX rfl hl (Nat.le_of_ble_eq_true rfl) ?_
  refine x_lload_n (M := M_X11_keyX) dX11_keyX_0 rfl ?_
  refine x_bipush (M := M_X11_keyX) dX11_keyX_1 ?_
  refine x_lshr (M := M_X11_keyX) dX11_keyX_3 ?_
  refine x_l2i (M := M_X11_keyX) dX11_keyX_4 ?_
  exact x_iret (M := M_X11_keyX) dX11_keyX_5 rfl ⟨rfl, rfl⟩ (Nat.le_of_ble_eq_true rfl) (Nat.le_of_ble_eq_true rfl)
def f_X11_keyY (w0 : Int64) : Int32 := ((w0.toInt32) ^^^ (-2147483648 : Int32))
theorem p_X11_keyY {l : Launch} {E : EE} (hl : l.stackTraces = false) {h : HP} {w0 : Int64} : en_C l E M_X11_keyY 0 0 0 [.long w0] h (pR (some (.int (f_X11_keyY w0))) h) := by
  refine en_mk m_X11_keyY rfl hl (Nat.le_of_ble_eq_true rfl) ?_
  refine x_lload_n (M := M_X11_keyY) dX11_keyY_0 rfl ?_
  refine x_l2i (M := M_X11_keyY) dX11_keyY_1 ?_
  refine x_ldcw (M := M_X11_keyY) dX11_keyY_2 t_1428 ?_
  refine x_ixor (M := M_X11_keyY) dX11_keyY_5 ?_
  exact x_iret (M := M_X11_keyY) dX11_keyY_6 rfl ⟨rfl, rfl⟩ (Nat.le_of_ble_eq_true rfl) (Nat.le_of_ble_eq_true rfl)
def f_X12_thrown (g0 : Int32)  : Int32 := g0
theorem p_X12_thrown {l : Launch} {E : EE} (hl : l.stackTraces = false) {h : HP} {g0 : Int32}  {a : Nat} {z1 z2 z3 z4 z5 z6 z7 z8 z9 z10 z11 z12 z13 z14 z15 z16 z17 z18 z19 z20 z21 z22 z23 z24 z25 z26 z27 z28 z29 z30 z31 z32 z33 z34 z35 z36 z37 z38 z39 z40 z41 z42 z43 z44 z45 z46 z47 z48 z49 z50 z51 z52 z53 z54 z55 z56 z57 z58 z59 z60 z61 z62 z63 z64 z65 z66 z67 z68 z69 z70 z71 z72 z73 z74 z75 z76 z77 z78 z79 z80 z81 z82 z83 z84 z85 z86 z87 z88 z89 z90 z91 z92 z93 z94 z95 z96 z97 z98 z99 z100 z101 z102 z103 z104 z105 z106 z107 z108 z109 z110 z111 z112 z113 z114 z115 z116 z117 z118 z119 z120 z121 z122 z123 z124 z125 z126 z127 z128 z129 z130 z131 z132 z133 z134 : Value} (ha : ob h a = some (.inr (15, [.int g0, z1, z2, z3, z4, z5, z6, z7, z8, z9, z10, z11, z12, z13, z14, z15, z16, z17, z18, z19, z20, z21, z22, z23, z24, z25, z26, z27, z28, z29, z30, z31, z32, z33, z34, z35, z36, z37, z38, z39, z40, z41, z42, z43, z44, z45, z46, z47, z48, z49, z50, z51, z52, z53, z54, z55, z56, z57, z58, z59, z60, z61, z62, z63, z64, z65, z66, z67, z68, z69, z70, z71, z72, z73, z74, z75, z76, z77, z78, z79, z80, z81, z82, z83, z84, z85, z86, z87, z88, z89, z90, z91, z92, z93, z94, z95, z96, z97, z98, z99, z100, z101, z102, z103, z104, z105, z106, z107, z108, z109, z110, z111, z112, z113, z114, z115, z116, z117, z118, z119, z120, z121, z122, z123, z124, z125, z126, z127, z128, z129, z130, z131, z132, z133, z134]))) : en_C l E M_X12_thrown 0 0 0 [.ref a] h (pR (some (.int (f_X12_thrown g0))) h) := by
  refine en_mk m_X12_thrown rfl hl (Nat.le_of_ble_eq_true rfl) ?_
  refine x_aload_n (M := M_X12_thrown) dX12_thrown_0 rfl ?_
  refine x_getf (M := M_X12_thrown) (ci := 15) (C := RX12) (T := TX12) (N := 135) (ty := tyX12) cl15 dX12_thrown_1 ha 0 (by decide) t_2391 rfl ?_
  exact x_iret (M := M_X12_thrown) dX12_thrown_4 rfl ⟨rfl, rfl⟩ (Nat.le_of_ble_eq_true rfl) (Nat.le_of_ble_eq_true rfl)
def f_X12_in (w0 : Int64) (w1 : Int64) (w2 : Int64) : Int32 := if (lg_cmp w0 w1) < 0 then (Int32.ofInt 0) else (if 0 < (lg_cmp w0 w2) then (Int32.ofInt 0) else ((Int32.ofInt 1)))
theorem b_X12_in (w0 : Int64) (w1 : Int64) (w2 : Int64) : f_X12_in w0 w1 w2 = 0 ∨ f_X12_in w0 w1 w2 = 1 := (ite01 (Or.inl rfl) (ite01 (Or.inl rfl) (Or.inr rfl)))
theorem p_X12_in {l : Launch} {E : EE} (hl : l.stackTraces = false) {h : HP} {w0 : Int64} {w1 : Int64} {w2 : Int64} : en_C l E M_X12_in 0 0 0 [.long w0, .long w1, .long w2] h (pR (some (.int (f_X12_in w0 w1 w2))) h) := by
  refine en_mk m_X12_in rfl hl (Nat.le_of_ble_eq_true rfl) ?_
  refine x_lload_n (M := M_X12_in) dX12_in_0 rfl ?_
  refine x_lload_n (M := M_X12_in) dX12_in_1 rfl ?_
  refine x_lcmp (M := M_X12_in) dX12_in_2 ?_
  refine x_if_lt (M := M_X12_in) (tgt := 17) dX12_in_3 (by decide) (fun q0 => ?_) (fun q0 => ?_)
  · refine x_iconst (M := M_X12_in) dX12_in_17 ?_
    exact x_zret (M := M_X12_in) dX12_in_18 rfl (Or.inl rfl) ⟨by rw [f_X12_in, if_pos q0], rfl⟩ (Nat.le_of_ble_eq_true rfl) (Nat.le_of_ble_eq_true rfl)
  · refine x_lload_n (M := M_X12_in) dX12_in_6 rfl ?_
    refine x_lload (M := M_X12_in) dX12_in_7 rfl ?_
    refine x_lcmp (M := M_X12_in) dX12_in_9 ?_
    refine x_if_gt (M := M_X12_in) (tgt := 17) dX12_in_10 (by decide) (fun q1 => ?_) (fun q1 => ?_)
    · refine x_iconst (M := M_X12_in) dX12_in_17 ?_
      exact x_zret (M := M_X12_in) dX12_in_18 rfl (Or.inl rfl) ⟨by rw [f_X12_in, if_neg q0, if_pos q1], rfl⟩ (Nat.le_of_ble_eq_true rfl) (Nat.le_of_ble_eq_true rfl)
    · refine x_iconst (M := M_X12_in) dX12_in_13 ?_
      refine x_goto (M := M_X12_in) (tgt := 18) dX12_in_14 (by decide) ?_
      exact x_zret (M := M_X12_in) dX12_in_18 rfl (Or.inr rfl) ⟨by rw [f_X12_in, if_neg q0, if_neg q1], rfl⟩ (Nat.le_of_ble_eq_true rfl) (Nat.le_of_ble_eq_true rfl)
def f_X12_isSlot (w0 : Int32) : Int32 := if w0 < 0 then (Int32.ofInt 0) else (if (Int8.ofInt 32).toInt32 ≤ w0 then (Int32.ofInt 0) else ((Int32.ofInt 1)))
theorem b_X12_isSlot (w0 : Int32) : f_X12_isSlot w0 = 0 ∨ f_X12_isSlot w0 = 1 := (ite01 (Or.inl rfl) (ite01 (Or.inl rfl) (Or.inr rfl)))
theorem p_X12_isSlot {l : Launch} {E : EE} (hl : l.stackTraces = false) {h : HP} {w0 : Int32} : en_C l E M_X12_isSlot 0 0 0 [.int w0] h (pR (some (.int (f_X12_isSlot w0))) h) := by
  refine en_mk m_X12_isSlot rfl hl (Nat.le_of_ble_eq_true rfl) ?_
  refine x_iload_n (M := M_X12_isSlot) dX12_isSlot_0 rfl ?_
  refine x_if_lt (M := M_X12_isSlot) (tgt := 14) dX12_isSlot_1 (by decide) (fun q0 => ?_) (fun q0 => ?_)
  · refine x_iconst (M := M_X12_isSlot) dX12_isSlot_14 ?_
    exact x_zret (M := M_X12_isSlot) dX12_isSlot_15 rfl (Or.inl rfl) ⟨by rw [f_X12_isSlot, if_pos q0], rfl⟩ (Nat.le_of_ble_eq_true rfl) (Nat.le_of_ble_eq_true rfl)
  · refine x_iload_n (M := M_X12_isSlot) dX12_isSlot_4 rfl ?_
    refine x_bipush (M := M_X12_isSlot) dX12_isSlot_5 ?_
    refine x_icmp_ge (M := M_X12_isSlot) (tgt := 14) dX12_isSlot_7 (by decide) (fun q1 => ?_) (fun q1 => ?_)
    · refine x_iconst (M := M_X12_isSlot) dX12_isSlot_14 ?_
      exact x_zret (M := M_X12_isSlot) dX12_isSlot_15 rfl (Or.inl rfl) ⟨by rw [f_X12_isSlot, if_neg q0, if_pos q1], rfl⟩ (Nat.le_of_ble_eq_true rfl) (Nat.le_of_ble_eq_true rfl)
    · refine x_iconst (M := M_X12_isSlot) dX12_isSlot_10 ?_
      refine x_goto (M := M_X12_isSlot) (tgt := 15) dX12_isSlot_11 (by decide) ?_
      exact x_zret (M := M_X12_isSlot) dX12_isSlot_15 rfl (Or.inr rfl) ⟨by rw [f_X12_isSlot, if_neg q0, if_neg q1], rfl⟩ (Nat.le_of_ble_eq_true rfl) (Nat.le_of_ble_eq_true rfl)
def f_X12_isBlank (w0 : Int32) : Int32 := if w0 = (Int8.ofInt 32).toInt32 then (Int32.ofInt 1) else (if w0 = (Int8.ofInt 9).toInt32 then (Int32.ofInt 1) else (if w0 = (Int8.ofInt 10).toInt32 then (Int32.ofInt 1) else (if w0 = (Int8.ofInt 13).toInt32 then (Int32.ofInt 1) else ((Int32.ofInt 0)))))
theorem b_X12_isBlank (w0 : Int32) : f_X12_isBlank w0 = 0 ∨ f_X12_isBlank w0 = 1 := (ite01 (Or.inr rfl) (ite01 (Or.inr rfl) (ite01 (Or.inr rfl) (ite01 (Or.inr rfl) (Or.inl rfl)))))
theorem p_X12_isBlank {l : Launch} {E : EE} (hl : l.stackTraces = false) {h : HP} {w0 : Int32} : en_C l E M_X12_isBlank 0 0 0 [.int w0] h (pR (some (.int (f_X12_isBlank w0))) h) := by
  refine en_mk m_X12_isBlank rfl hl (Nat.le_of_ble_eq_true rfl) ?_
  refine x_iload_n (M := M_X12_isBlank) dX12_isBlank_0 rfl ?_
  refine x_bipush (M := M_X12_isBlank) dX12_isBlank_1 ?_
  refine x_icmp_eq (M := M_X12_isBlank) (tgt := 24) dX12_isBlank_3 (by decide) (fun q0 => ?_) (fun q0 => ?_)
  · refine x_iconst (M := M_X12_isBlank) dX12_isBlank_24 ?_
    refine x_goto (M := M_X12_isBlank) (tgt := 29) dX12_isBlank_25 (by decide) ?_
    exact x_zret (M := M_X12_isBlank) dX12_isBlank_29 rfl (Or.inr rfl) ⟨by rw [f_X12_isBlank, if_pos q0], rfl⟩ (Nat.le_of_ble_eq_true rfl) (Nat.le_of_ble_eq_true rfl)
  · refine x_iload_n (M := M_X12_isBlank) dX12_isBlank_6 rfl ?_
    refine x_bipush (M := M_X12_isBlank) dX12_isBlank_7 ?_
    refine x_icmp_eq (M := M_X12_isBlank) (tgt := 24) dX12_isBlank_9 (by decide) (fun q1 => ?_) (fun q1 => ?_)
    · refine x_iconst (M := M_X12_isBlank) dX12_isBlank_24 ?_
      refine x_goto (M := M_X12_isBlank) (tgt := 29) dX12_isBlank_25 (by decide) ?_
      exact x_zret (M := M_X12_isBlank) dX12_isBlank_29 rfl (Or.inr rfl) ⟨by rw [f_X12_isBlank, if_neg q0, if_pos q1], rfl⟩ (Nat.le_of_ble_eq_true rfl) (Nat.le_of_ble_eq_true rfl)
    · refine x_iload_n (M := M_X12_isBlank) dX12_isBlank_12 rfl ?_
      refine x_bipush (M := M_X12_isBlank) dX12_isBlank_13 ?_
      refine x_icmp_eq (M := M_X12_isBlank) (tgt := 24) dX12_isBlank_15 (by decide) (fun q2 => ?_) (fun q2 => ?_)
      · refine x_iconst (M := M_X12_isBlank) dX12_isBlank_24 ?_
        refine x_goto (M := M_X12_isBlank) (tgt := 29) dX12_isBlank_25 (by decide) ?_
        exact x_zret (M := M_X12_isBlank) dX12_isBlank_29 rfl (Or.inr rfl) ⟨by rw [f_X12_isBlank, if_neg q0, if_neg q1, if_pos q2], rfl⟩ (Nat.le_of_ble_eq_true rfl) (Nat.le_of_ble_eq_true rfl)
      · refine x_iload_n (M := M_X12_isBlank) dX12_isBlank_18 rfl ?_
        refine x_bipush (M := M_X12_isBlank) dX12_isBlank_19 ?_
        refine x_icmp_ne (M := M_X12_isBlank) (tgt := 28) dX12_isBlank_21 (by decide) (fun q3 => ?_) (fun q3 => ?_)
        · refine x_iconst (M := M_X12_isBlank) dX12_isBlank_28 ?_
          exact x_zret (M := M_X12_isBlank) dX12_isBlank_29 rfl (Or.inl rfl) ⟨by rw [f_X12_isBlank, if_neg q0, if_neg q1, if_neg q2, if_neg q3], rfl⟩ (Nat.le_of_ble_eq_true rfl) (Nat.le_of_ble_eq_true rfl)
        · refine x_iconst (M := M_X12_isBlank) dX12_isBlank_24 ?_
          refine x_goto (M := M_X12_isBlank) (tgt := 29) dX12_isBlank_25 (by decide) ?_
          exact x_zret (M := M_X12_isBlank) dX12_isBlank_29 rfl (Or.inr rfl) ⟨by rw [f_X12_isBlank, if_neg q0, if_neg q1, if_neg q2, if_pos q3], rfl⟩ (Nat.le_of_ble_eq_true rfl) (Nat.le_of_ble_eq_true rfl)
def f_X12_isLetter (w0 : Int32) : Int32 := if w0 < (Int8.ofInt 97).toInt32 then if w0 < (Int8.ofInt 65).toInt32 then (Int32.ofInt 0) else (if (Int8.ofInt 90).toInt32 < w0 then (Int32.ofInt 0) else ((Int32.ofInt 1))) else (if w0 ≤ (Int8.ofInt 122).toInt32 then (Int32.ofInt 1) else (if w0 < (Int8.ofInt 65).toInt32 then (Int32.ofInt 0) else (if (Int8.ofInt 90).toInt32 < w0 then (Int32.ofInt 0) else ((Int32.ofInt 1)))))
theorem b_X12_isLetter (w0 : Int32) : f_X12_isLetter w0 = 0 ∨ f_X12_isLetter w0 = 1 := (ite01 (ite01 (Or.inl rfl) (ite01 (Or.inl rfl) (Or.inr rfl))) (ite01 (Or.inr rfl) (ite01 (Or.inl rfl) (ite01 (Or.inl rfl) (Or.inr rfl)))))
theorem p_X12_isLetter {l : Launch} {E : EE} (hl : l.stackTraces = false) {h : HP} {w0 : Int32} : en_C l E M_X12_isLetter 0 0 0 [.int w0] h (pR (some (.int (f_X12_isLetter w0))) h) := by
  refine en_mk m_X12_isLetter rfl hl (Nat.le_of_ble_eq_true rfl) ?_
  refine x_iload_n (M := M_X12_isLetter) dX12_isLetter_0 rfl ?_
  refine x_bipush (M := M_X12_isLetter) dX12_isLetter_1 ?_
  refine x_icmp_lt (M := M_X12_isLetter) (tgt := 12) dX12_isLetter_3 (by decide) (fun q0 => ?_) (fun q0 => ?_)
  · refine x_iload_n (M := M_X12_isLetter) dX12_isLetter_12 rfl ?_
    refine x_bipush (M := M_X12_isLetter) dX12_isLetter_13 ?_
    refine x_icmp_lt (M := M_X12_isLetter) (tgt := 28) dX12_isLetter_15 (by decide) (fun q1 => ?_) (fun q1 => ?_)
    · refine x_iconst (M := M_X12_isLetter) dX12_isLetter_28 ?_
      exact x_zret (M := M_X12_isLetter) dX12_isLetter_29 rfl (Or.inl rfl) ⟨by rw [f_X12_isLetter, if_pos q0, if_pos q1], rfl⟩ (Nat.le_of_ble_eq_true rfl) (Nat.le_of_ble_eq_true rfl)
    · refine x_iload_n (M := M_X12_isLetter) dX12_isLetter_18 rfl ?_
      refine x_bipush (M := M_X12_isLetter) dX12_isLetter_19 ?_
      refine x_icmp_gt (M := M_X12_isLetter) (tgt := 28) dX12_isLetter_21 (by decide) (fun q2 => ?_) (fun q2 => ?_)
      · refine x_iconst (M := M_X12_isLetter) dX12_isLetter_28 ?_
        exact x_zret (M := M_X12_isLetter) dX12_isLetter_29 rfl (Or.inl rfl) ⟨by rw [f_X12_isLetter, if_pos q0, if_neg q1, if_pos q2], rfl⟩ (Nat.le_of_ble_eq_true rfl) (Nat.le_of_ble_eq_true rfl)
      · refine x_iconst (M := M_X12_isLetter) dX12_isLetter_24 ?_
        refine x_goto (M := M_X12_isLetter) (tgt := 29) dX12_isLetter_25 (by decide) ?_
        exact x_zret (M := M_X12_isLetter) dX12_isLetter_29 rfl (Or.inr rfl) ⟨by rw [f_X12_isLetter, if_pos q0, if_neg q1, if_neg q2], rfl⟩ (Nat.le_of_ble_eq_true rfl) (Nat.le_of_ble_eq_true rfl)
  · refine x_iload_n (M := M_X12_isLetter) dX12_isLetter_6 rfl ?_
    refine x_bipush (M := M_X12_isLetter) dX12_isLetter_7 ?_
    refine x_icmp_le (M := M_X12_isLetter) (tgt := 24) dX12_isLetter_9 (by decide) (fun q1 => ?_) (fun q1 => ?_)
    · refine x_iconst (M := M_X12_isLetter) dX12_isLetter_24 ?_
      refine x_goto (M := M_X12_isLetter) (tgt := 29) dX12_isLetter_25 (by decide) ?_
      exact x_zret (M := M_X12_isLetter) dX12_isLetter_29 rfl (Or.inr rfl) ⟨by rw [f_X12_isLetter, if_neg q0, if_pos q1], rfl⟩ (Nat.le_of_ble_eq_true rfl) (Nat.le_of_ble_eq_true rfl)
    · refine x_iload_n (M := M_X12_isLetter) dX12_isLetter_12 rfl ?_
      refine x_bipush (M := M_X12_isLetter) dX12_isLetter_13 ?_
      refine x_icmp_lt (M := M_X12_isLetter) (tgt := 28) dX12_isLetter_15 (by decide) (fun q2 => ?_) (fun q2 => ?_)
      · refine x_iconst (M := M_X12_isLetter) dX12_isLetter_28 ?_
        exact x_zret (M := M_X12_isLetter) dX12_isLetter_29 rfl (Or.inl rfl) ⟨by rw [f_X12_isLetter, if_neg q0, if_neg q1, if_pos q2], rfl⟩ (Nat.le_of_ble_eq_true rfl) (Nat.le_of_ble_eq_true rfl)
      · refine x_iload_n (M := M_X12_isLetter) dX12_isLetter_18 rfl ?_
        refine x_bipush (M := M_X12_isLetter) dX12_isLetter_19 ?_
        refine x_icmp_gt (M := M_X12_isLetter) (tgt := 28) dX12_isLetter_21 (by decide) (fun q3 => ?_) (fun q3 => ?_)
        · refine x_iconst (M := M_X12_isLetter) dX12_isLetter_28 ?_
          exact x_zret (M := M_X12_isLetter) dX12_isLetter_29 rfl (Or.inl rfl) ⟨by rw [f_X12_isLetter, if_neg q0, if_neg q1, if_neg q2, if_pos q3], rfl⟩ (Nat.le_of_ble_eq_true rfl) (Nat.le_of_ble_eq_true rfl)
        · refine x_iconst (M := M_X12_isLetter) dX12_isLetter_24 ?_
          refine x_goto (M := M_X12_isLetter) (tgt := 29) dX12_isLetter_25 (by decide) ?_
          exact x_zret (M := M_X12_isLetter) dX12_isLetter_29 rfl (Or.inr rfl) ⟨by rw [f_X12_isLetter, if_neg q0, if_neg q1, if_neg q2, if_neg q3], rfl⟩ (Nat.le_of_ble_eq_true rfl) (Nat.le_of_ble_eq_true rfl)
def f_X12_isDigit (w0 : Int32) : Int32 := if w0 < (Int8.ofInt 48).toInt32 then (Int32.ofInt 0) else (if (Int8.ofInt 57).toInt32 < w0 then (Int32.ofInt 0) else ((Int32.ofInt 1)))
theorem b_X12_isDigit (w0 : Int32) : f_X12_isDigit w0 = 0 ∨ f_X12_isDigit w0 = 1 := (ite01 (Or.inl rfl) (ite01 (Or.inl rfl) (Or.inr rfl)))
theorem p_X12_isDigit {l : Launch} {E : EE} (hl : l.stackTraces = false) {h : HP} {w0 : Int32} : en_C l E M_X12_isDigit 0 0 0 [.int w0] h (pR (some (.int (f_X12_isDigit w0))) h) := by
  refine en_mk m_X12_isDigit rfl hl (Nat.le_of_ble_eq_true rfl) ?_
  refine x_iload_n (M := M_X12_isDigit) dX12_isDigit_0 rfl ?_
  refine x_bipush (M := M_X12_isDigit) dX12_isDigit_1 ?_
  refine x_icmp_lt (M := M_X12_isDigit) (tgt := 16) dX12_isDigit_3 (by decide) (fun q0 => ?_) (fun q0 => ?_)
  · refine x_iconst (M := M_X12_isDigit) dX12_isDigit_16 ?_
    exact x_zret (M := M_X12_isDigit) dX12_isDigit_17 rfl (Or.inl rfl) ⟨by rw [f_X12_isDigit, if_pos q0], rfl⟩ (Nat.le_of_ble_eq_true rfl) (Nat.le_of_ble_eq_true rfl)
  · refine x_iload_n (M := M_X12_isDigit) dX12_isDigit_6 rfl ?_
    refine x_bipush (M := M_X12_isDigit) dX12_isDigit_7 ?_
    refine x_icmp_gt (M := M_X12_isDigit) (tgt := 16) dX12_isDigit_9 (by decide) (fun q1 => ?_) (fun q1 => ?_)
    · refine x_iconst (M := M_X12_isDigit) dX12_isDigit_16 ?_
      exact x_zret (M := M_X12_isDigit) dX12_isDigit_17 rfl (Or.inl rfl) ⟨by rw [f_X12_isDigit, if_neg q0, if_pos q1], rfl⟩ (Nat.le_of_ble_eq_true rfl) (Nat.le_of_ble_eq_true rfl)
    · refine x_iconst (M := M_X12_isDigit) dX12_isDigit_12 ?_
      refine x_goto (M := M_X12_isDigit) (tgt := 17) dX12_isDigit_13 (by decide) ?_
      exact x_zret (M := M_X12_isDigit) dX12_isDigit_17 rfl (Or.inr rfl) ⟨by rw [f_X12_isDigit, if_neg q0, if_neg q1], rfl⟩ (Nat.le_of_ble_eq_true rfl) (Nat.le_of_ble_eq_true rfl)
def f_X12_isSign (w0 : Int32) : Int32 := if w0 = (Int8.ofInt 43).toInt32 then (Int32.ofInt 1) else (if w0 = (Int8.ofInt 45).toInt32 then (Int32.ofInt 1) else ((Int32.ofInt 0)))
theorem b_X12_isSign (w0 : Int32) : f_X12_isSign w0 = 0 ∨ f_X12_isSign w0 = 1 := (ite01 (Or.inr rfl) (ite01 (Or.inr rfl) (Or.inl rfl)))
theorem p_X12_isSign {l : Launch} {E : EE} (hl : l.stackTraces = false) {h : HP} {w0 : Int32} : en_C l E M_X12_isSign 0 0 0 [.int w0] h (pR (some (.int (f_X12_isSign w0))) h) := by
  refine en_mk m_X12_isSign rfl hl (Nat.le_of_ble_eq_true rfl) ?_
  refine x_iload_n (M := M_X12_isSign) dX12_isSign_0 rfl ?_
  refine x_bipush (M := M_X12_isSign) dX12_isSign_1 ?_
  refine x_icmp_eq (M := M_X12_isSign) (tgt := 12) dX12_isSign_3 (by decide) (fun q0 => ?_) (fun q0 => ?_)
  · refine x_iconst (M := M_X12_isSign) dX12_isSign_12 ?_
    refine x_goto (M := M_X12_isSign) (tgt := 17) dX12_isSign_13 (by decide) ?_
    exact x_zret (M := M_X12_isSign) dX12_isSign_17 rfl (Or.inr rfl) ⟨by rw [f_X12_isSign, if_pos q0], rfl⟩ (Nat.le_of_ble_eq_true rfl) (Nat.le_of_ble_eq_true rfl)
  · refine x_iload_n (M := M_X12_isSign) dX12_isSign_6 rfl ?_
    refine x_bipush (M := M_X12_isSign) dX12_isSign_7 ?_
    refine x_icmp_ne (M := M_X12_isSign) (tgt := 16) dX12_isSign_9 (by decide) (fun q1 => ?_) (fun q1 => ?_)
    · refine x_iconst (M := M_X12_isSign) dX12_isSign_16 ?_
      exact x_zret (M := M_X12_isSign) dX12_isSign_17 rfl (Or.inl rfl) ⟨by rw [f_X12_isSign, if_neg q0, if_neg q1], rfl⟩ (Nat.le_of_ble_eq_true rfl) (Nat.le_of_ble_eq_true rfl)
    · refine x_iconst (M := M_X12_isSign) dX12_isSign_12 ?_
      refine x_goto (M := M_X12_isSign) (tgt := 17) dX12_isSign_13 (by decide) ?_
      exact x_zret (M := M_X12_isSign) dX12_isSign_17 rfl (Or.inr rfl) ⟨by rw [f_X12_isSign, if_neg q0, if_pos q1], rfl⟩ (Nat.le_of_ble_eq_true rfl) (Nat.le_of_ble_eq_true rfl)
def f_X12_large (w0 : Int32) : Int32 := if w0 < (Int8.ofInt 97).toInt32 then w0 else (if (Int8.ofInt 122).toInt32 < w0 then w0 else ((w0 - (Int8.ofInt 32).toInt32)))
theorem p_X12_large {l : Launch} {E : EE} (hl : l.stackTraces = false) {h : HP} {w0 : Int32} : en_C l E M_X12_large 0 0 0 [.int w0] h (pR (some (.int (f_X12_large w0))) h) := by
  refine en_mk m_X12_large rfl hl (Nat.le_of_ble_eq_true rfl) ?_
  refine x_iload_n (M := M_X12_large) dX12_large_0 rfl ?_
  refine x_bipush (M := M_X12_large) dX12_large_1 ?_
  refine x_icmp_lt (M := M_X12_large) (tgt := 19) dX12_large_3 (by decide) (fun q0 => ?_) (fun q0 => ?_)
  · refine x_iload_n (M := M_X12_large) dX12_large_19 rfl ?_
    exact x_iret (M := M_X12_large) dX12_large_20 rfl ⟨by rw [f_X12_large, if_pos q0], rfl⟩ (Nat.le_of_ble_eq_true rfl) (Nat.le_of_ble_eq_true rfl)
  · refine x_iload_n (M := M_X12_large) dX12_large_6 rfl ?_
    refine x_bipush (M := M_X12_large) dX12_large_7 ?_
    refine x_icmp_gt (M := M_X12_large) (tgt := 19) dX12_large_9 (by decide) (fun q1 => ?_) (fun q1 => ?_)
    · refine x_iload_n (M := M_X12_large) dX12_large_19 rfl ?_
      exact x_iret (M := M_X12_large) dX12_large_20 rfl ⟨by rw [f_X12_large, if_neg q0, if_pos q1], rfl⟩ (Nat.le_of_ble_eq_true rfl) (Nat.le_of_ble_eq_true rfl)
    · refine x_iload_n (M := M_X12_large) dX12_large_12 rfl ?_
      refine x_bipush (M := M_X12_large) dX12_large_13 ?_
      refine x_isub (M := M_X12_large) dX12_large_15 ?_
      refine x_goto (M := M_X12_large) (tgt := 20) dX12_large_16 (by decide) ?_
      exact x_iret (M := M_X12_large) dX12_large_20 rfl ⟨by rw [f_X12_large, if_neg q0, if_neg q1], rfl⟩ (Nat.le_of_ble_eq_true rfl) (Nat.le_of_ble_eq_true rfl)
def f_X12_there (g17 : Int32) (g18 : Int32) (w0 : Int32) : Int32 := if g18 < (g17 + w0) then (Int32.ofInt 0) else ((Int32.ofInt 1))
theorem b_X12_there (g17 : Int32) (g18 : Int32) (w0 : Int32) : f_X12_there g17 g18 w0 = 0 ∨ f_X12_there g17 g18 w0 = 1 := (ite01 (Or.inl rfl) (Or.inr rfl))
theorem p_X12_there {l : Launch} {E : EE} (hl : l.stackTraces = false) {h : HP} {g17 : Int32} {g18 : Int32} {w0 : Int32} {a : Nat} {z0 z1 z2 z3 z4 z5 z6 z7 z8 z9 z10 z11 z12 z13 z14 z15 z16 z19 z20 z21 z22 z23 z24 z25 z26 z27 z28 z29 z30 z31 z32 z33 z34 z35 z36 z37 z38 z39 z40 z41 z42 z43 z44 z45 z46 z47 z48 z49 z50 z51 z52 z53 z54 z55 z56 z57 z58 z59 z60 z61 z62 z63 z64 z65 z66 z67 z68 z69 z70 z71 z72 z73 z74 z75 z76 z77 z78 z79 z80 z81 z82 z83 z84 z85 z86 z87 z88 z89 z90 z91 z92 z93 z94 z95 z96 z97 z98 z99 z100 z101 z102 z103 z104 z105 z106 z107 z108 z109 z110 z111 z112 z113 z114 z115 z116 z117 z118 z119 z120 z121 z122 z123 z124 z125 z126 z127 z128 z129 z130 z131 z132 z133 z134 : Value} (ha : ob h a = some (.inr (15, [z0, z1, z2, z3, z4, z5, z6, z7, z8, z9, z10, z11, z12, z13, z14, z15, z16, .int g17, .int g18, z19, z20, z21, z22, z23, z24, z25, z26, z27, z28, z29, z30, z31, z32, z33, z34, z35, z36, z37, z38, z39, z40, z41, z42, z43, z44, z45, z46, z47, z48, z49, z50, z51, z52, z53, z54, z55, z56, z57, z58, z59, z60, z61, z62, z63, z64, z65, z66, z67, z68, z69, z70, z71, z72, z73, z74, z75, z76, z77, z78, z79, z80, z81, z82, z83, z84, z85, z86, z87, z88, z89, z90, z91, z92, z93, z94, z95, z96, z97, z98, z99, z100, z101, z102, z103, z104, z105, z106, z107, z108, z109, z110, z111, z112, z113, z114, z115, z116, z117, z118, z119, z120, z121, z122, z123, z124, z125, z126, z127, z128, z129, z130, z131, z132, z133, z134]))) : en_C l E M_X12_there 0 0 0 [.ref a, .int w0] h (pR (some (.int (f_X12_there g17 g18 w0))) h) := by
  refine en_mk m_X12_there rfl hl (Nat.le_of_ble_eq_true rfl) ?_
  refine x_aload_n (M := M_X12_there) dX12_there_0 rfl ?_
  refine x_getf (M := M_X12_there) (ci := 15) (C := RX12) (T := TX12) (N := 135) (ty := tyX12) cl15 dX12_there_1 ha 17 (by decide) t_2408 rfl ?_
  refine x_iload_n (M := M_X12_there) dX12_there_4 rfl ?_
  refine x_iadd (M := M_X12_there) dX12_there_5 ?_
  refine x_aload_n (M := M_X12_there) dX12_there_6 rfl ?_
  refine x_getf (M := M_X12_there) (ci := 15) (C := RX12) (T := TX12) (N := 135) (ty := tyX12) cl15 dX12_there_7 ha 18 (by decide) t_2409 rfl ?_
  refine x_icmp_gt (M := M_X12_there) (tgt := 17) dX12_there_10 (by decide) (fun q0 => ?_) (fun q0 => ?_)
  · refine x_iconst (M := M_X12_there) dX12_there_17 ?_
    exact x_zret (M := M_X12_there) dX12_there_18 rfl (Or.inl rfl) ⟨by rw [f_X12_there, if_pos q0], rfl⟩ (Nat.le_of_ble_eq_true rfl) (Nat.le_of_ble_eq_true rfl)
  · refine x_iconst (M := M_X12_there) dX12_there_13 ?_
    refine x_goto (M := M_X12_there) (tgt := 18) dX12_there_14 (by decide) ?_
    exact x_zret (M := M_X12_there) dX12_there_18 rfl (Or.inr rfl) ⟨by rw [f_X12_there, if_neg q0], rfl⟩ (Nat.le_of_ble_eq_true rfl) (Nat.le_of_ble_eq_true rfl)
def f_X12_isNoNumber (w0 : Int64) : Int32 := if (lg_cmp (((w0.toUInt64 >>> ((Int8.ofInt 52).toInt32.toInt64.toUInt64 &&& Int64.toUInt64 63)).toInt64) &&& (2047 : Int64)) (2047 : Int64)) = 0 then if (lg_cmp (w0 &&& (4503599627370495 : Int64)) (Int64.ofNat ((0 : Fin 2) : Nat))) = 0 then (Int32.ofInt 0) else ((Int32.ofInt 1)) else ((Int32.ofInt 0))
theorem b_X12_isNoNumber (w0 : Int64) : f_X12_isNoNumber w0 = 0 ∨ f_X12_isNoNumber w0 = 1 := (ite01 (ite01 (Or.inl rfl) (Or.inr rfl)) (Or.inl rfl))
theorem p_X12_isNoNumber {l : Launch} {E : EE} (hl : l.stackTraces = false) {h : HP} {w0 : Int64} : en_C l E M_X12_isNoNumber 0 0 0 [.long w0] h (pR (some (.int (f_X12_isNoNumber w0))) h) := by
  refine en_mk m_X12_isNoNumber rfl hl (Nat.le_of_ble_eq_true rfl) ?_
  refine x_lload_n (M := M_X12_isNoNumber) dX12_isNoNumber_0 rfl ?_
  refine x_bipush (M := M_X12_isNoNumber) dX12_isNoNumber_1 ?_
  refine x_lushr (M := M_X12_isNoNumber) dX12_isNoNumber_3 ?_
  refine x_ldc2 (M := M_X12_isNoNumber) dX12_isNoNumber_4 t_2994 ?_
  refine x_land (M := M_X12_isNoNumber) dX12_isNoNumber_7 ?_
  refine x_ldc2 (M := M_X12_isNoNumber) dX12_isNoNumber_8 t_2994 ?_
  refine x_lcmp (M := M_X12_isNoNumber) dX12_isNoNumber_11 ?_
  refine x_if_ne (M := M_X12_isNoNumber) (tgt := 29) dX12_isNoNumber_12 (by decide) (fun q0 => ?_) (fun q0 => ?_)
  · refine x_iconst (M := M_X12_isNoNumber) dX12_isNoNumber_29 ?_
    exact x_zret (M := M_X12_isNoNumber) dX12_isNoNumber_30 rfl (Or.inl rfl) ⟨by rw [f_X12_isNoNumber, if_neg q0], rfl⟩ (Nat.le_of_ble_eq_true rfl) (Nat.le_of_ble_eq_true rfl)
  · refine x_lload_n (M := M_X12_isNoNumber) dX12_isNoNumber_15 rfl ?_
    refine x_ldc2 (M := M_X12_isNoNumber) dX12_isNoNumber_16 t_2995 ?_
    refine x_land (M := M_X12_isNoNumber) dX12_isNoNumber_19 ?_
    refine x_lconst (M := M_X12_isNoNumber) dX12_isNoNumber_20 ?_
    refine x_lcmp (M := M_X12_isNoNumber) dX12_isNoNumber_21 ?_
    refine x_if_eq (M := M_X12_isNoNumber) (tgt := 29) dX12_isNoNumber_22 (by decide) (fun q1 => ?_) (fun q1 => ?_)
    · refine x_iconst (M := M_X12_isNoNumber) dX12_isNoNumber_29 ?_
      exact x_zret (M := M_X12_isNoNumber) dX12_isNoNumber_30 rfl (Or.inl rfl) ⟨by rw [f_X12_isNoNumber, if_pos q0, if_pos q1], rfl⟩ (Nat.le_of_ble_eq_true rfl) (Nat.le_of_ble_eq_true rfl)
    · refine x_iconst (M := M_X12_isNoNumber) dX12_isNoNumber_25 ?_
      refine x_goto (M := M_X12_isNoNumber) (tgt := 30) dX12_isNoNumber_26 (by decide) ?_
      exact x_zret (M := M_X12_isNoNumber) dX12_isNoNumber_30 rfl (Or.inr rfl) ⟨by rw [f_X12_isNoNumber, if_pos q0, if_neg q1], rfl⟩ (Nat.le_of_ble_eq_true rfl) (Nat.le_of_ble_eq_true rfl)
def f_X12_isFar (w0 : Int64) : Int32 := (f_X12_in w0 (-1000000000 : Int64) (1000000000 : Int64))
theorem b_X12_isFar (w0 : Int64) : f_X12_isFar w0 = 0 ∨ f_X12_isFar w0 = 1 := (b_X12_in _ _ _)
theorem p_X12_isFar {l : Launch} {E : EE} (hl : l.stackTraces = false) {h : HP} {w0 : Int64} : en_C l E M_X12_isFar 1 0 0 [.long w0] h (pR (some (.int (f_X12_isFar w0))) h) := by
  refine en_mk m_X12_isFar rfl hl (Nat.le_of_ble_eq_true rfl) ?_
  refine x_lload_n (M := M_X12_isFar) dX12_isFar_0 rfl ?_
  refine x_ldc2 (M := M_X12_isFar) dX12_isFar_1 t_3136 ?_
  refine x_ldc2 (M := M_X12_isFar) dX12_isFar_4 t_2937 ?_
  refine x_callSR (M := M_X12_isFar) (M' := M_X12_in) rfl rfl dX12_isFar_7 m_X12_in t_2818 t_2819 (p_X12_in hl) rfl rfl (Nat.le_of_ble_eq_true rfl) (Nat.le_of_ble_eq_true rfl) (Nat.le_of_ble_eq_true rfl) (Nat.le_of_ble_eq_true rfl) ?_
  exact x_zret (M := M_X12_isFar) dX12_isFar_10 rfl (b_X12_in _ _ _) ⟨rfl, rfl⟩ (Nat.le_of_ble_eq_true rfl) (Nat.le_of_ble_eq_true rfl)
def f_X12_gap (w0 : Int64) (w1 : Int64) (w2 : Int64) : Int64 := if 0 ≤ (lg_cmp w0 w1) then if (lg_cmp w0 w2) ≤ 0 then (Int64.ofNat ((0 : Fin 2) : Nat)) else ((w0 - w2)) else ((w1 - w0))
theorem p_X12_gap {l : Launch} {E : EE} (hl : l.stackTraces = false) {h : HP} {w0 : Int64} {w1 : Int64} {w2 : Int64} : en_C l E M_X12_gap 0 0 0 [.long w0, .long w1, .long w2] h (pR (some (.long (f_X12_gap w0 w1 w2))) h) := by
  refine en_mk m_X12_gap rfl hl (Nat.le_of_ble_eq_true rfl) ?_
  refine x_lload_n (M := M_X12_gap) dX12_gap_0 rfl ?_
  refine x_lload_n (M := M_X12_gap) dX12_gap_1 rfl ?_
  refine x_lcmp (M := M_X12_gap) dX12_gap_2 ?_
  refine x_if_ge (M := M_X12_gap) (tgt := 12) dX12_gap_3 (by decide) (fun q0 => ?_) (fun q0 => ?_)
  · refine x_lload_n (M := M_X12_gap) dX12_gap_12 rfl ?_
    refine x_lload (M := M_X12_gap) dX12_gap_13 rfl ?_
    refine x_lcmp (M := M_X12_gap) dX12_gap_15 ?_
    refine x_if_le (M := M_X12_gap) (tgt := 26) dX12_gap_16 (by decide) (fun q1 => ?_) (fun q1 => ?_)
    · refine x_lconst (M := M_X12_gap) dX12_gap_26 ?_
      exact x_lret (M := M_X12_gap) dX12_gap_27 rfl ⟨by rw [f_X12_gap, if_pos q0, if_pos q1], rfl⟩ (Nat.le_of_ble_eq_true rfl) (Nat.le_of_ble_eq_true rfl)
    · refine x_lload_n (M := M_X12_gap) dX12_gap_19 rfl ?_
      refine x_lload (M := M_X12_gap) dX12_gap_20 rfl ?_
      refine x_lsub (M := M_X12_gap) dX12_gap_22 ?_
      refine x_goto (M := M_X12_gap) (tgt := 27) dX12_gap_23 (by decide) ?_
      exact x_lret (M := M_X12_gap) dX12_gap_27 rfl ⟨by rw [f_X12_gap, if_pos q0, if_neg q1], rfl⟩ (Nat.le_of_ble_eq_true rfl) (Nat.le_of_ble_eq_true rfl)
  · refine x_lload_n (M := M_X12_gap) dX12_gap_6 rfl ?_
    refine x_lload_n (M := M_X12_gap) dX12_gap_7 rfl ?_
    refine x_lsub (M := M_X12_gap) dX12_gap_8 ?_
    refine x_goto (M := M_X12_gap) (tgt := 27) dX12_gap_9 (by decide) ?_
    exact x_lret (M := M_X12_gap) dX12_gap_27 rfl ⟨by rw [f_X12_gap, if_neg q0], rfl⟩ (Nat.le_of_ble_eq_true rfl) (Nat.le_of_ble_eq_true rfl)
def f_X12_isPoint (w0 : Int32) : Int32 := if w0 < 0 then (Int32.ofInt 0) else (if (Int8.ofInt 32).toInt32 ≤ w0 then (Int32.ofInt 0) else ((Int32.ofInt 1)))
theorem b_X12_isPoint (w0 : Int32) : f_X12_isPoint w0 = 0 ∨ f_X12_isPoint w0 = 1 := (ite01 (Or.inl rfl) (ite01 (Or.inl rfl) (Or.inr rfl)))
theorem p_X12_isPoint {l : Launch} {E : EE} (hl : l.stackTraces = false) {h : HP} {w0 : Int32} : en_C l E M_X12_isPoint 0 0 0 [.int w0] h (pR (some (.int (f_X12_isPoint w0))) h) := by
  refine en_mk m_X12_isPoint rfl hl (Nat.le_of_ble_eq_true rfl) ?_
  refine x_iload_n (M := M_X12_isPoint) dX12_isPoint_0 rfl ?_
  refine x_if_lt (M := M_X12_isPoint) (tgt := 14) dX12_isPoint_1 (by decide) (fun q0 => ?_) (fun q0 => ?_)
  · refine x_iconst (M := M_X12_isPoint) dX12_isPoint_14 ?_
    exact x_zret (M := M_X12_isPoint) dX12_isPoint_15 rfl (Or.inl rfl) ⟨by rw [f_X12_isPoint, if_pos q0], rfl⟩ (Nat.le_of_ble_eq_true rfl) (Nat.le_of_ble_eq_true rfl)
  · refine x_iload_n (M := M_X12_isPoint) dX12_isPoint_4 rfl ?_
    refine x_bipush (M := M_X12_isPoint) dX12_isPoint_5 ?_
    refine x_icmp_ge (M := M_X12_isPoint) (tgt := 14) dX12_isPoint_7 (by decide) (fun q1 => ?_) (fun q1 => ?_)
    · refine x_iconst (M := M_X12_isPoint) dX12_isPoint_14 ?_
      exact x_zret (M := M_X12_isPoint) dX12_isPoint_15 rfl (Or.inl rfl) ⟨by rw [f_X12_isPoint, if_neg q0, if_pos q1], rfl⟩ (Nat.le_of_ble_eq_true rfl) (Nat.le_of_ble_eq_true rfl)
    · refine x_iconst (M := M_X12_isPoint) dX12_isPoint_10 ?_
      refine x_goto (M := M_X12_isPoint) (tgt := 15) dX12_isPoint_11 (by decide) ?_
      exact x_zret (M := M_X12_isPoint) dX12_isPoint_15 rfl (Or.inr rfl) ⟨by rw [f_X12_isPoint, if_neg q0, if_neg q1], rfl⟩ (Nat.le_of_ble_eq_true rfl) (Nat.le_of_ble_eq_true rfl)
def f_X12_cross (w0 : Int64) (w1 : Int64) (w2 : Int64) (w3 : Int64) : Int64 := ((w0 * w3) - (w1 * w2))
theorem p_X12_cross {l : Launch} {E : EE} (hl : l.stackTraces = false) {h : HP} {w0 : Int64} {w1 : Int64} {w2 : Int64} {w3 : Int64} : en_C l E M_X12_cross 0 0 0 [.long w0, .long w1, .long w2, .long w3] h (pR (some (.long (f_X12_cross w0 w1 w2 w3))) h) := by
  refine en_mk m_X12_cross rfl hl (Nat.le_of_ble_eq_true rfl) ?_
  refine x_lload_n (M := M_X12_cross) dX12_cross_0 rfl ?_
  refine x_lload (M := M_X12_cross) dX12_cross_1 rfl ?_
  refine x_lmul (M := M_X12_cross) dX12_cross_3 ?_
  refine x_lload_n (M := M_X12_cross) dX12_cross_4 rfl ?_
  refine x_lload (M := M_X12_cross) dX12_cross_5 rfl ?_
  refine x_lmul (M := M_X12_cross) dX12_cross_7 ?_
  refine x_lsub (M := M_X12_cross) dX12_cross_8 ?_
  exact x_lret (M := M_X12_cross) dX12_cross_9 rfl ⟨rfl, rfl⟩ (Nat.le_of_ble_eq_true rfl) (Nat.le_of_ble_eq_true rfl)
def f_X12_signOf (w0 : Int64) : Int32 := if 0 ≤ (lg_cmp w0 (Int64.ofNat ((0 : Fin 2) : Nat))) then if (lg_cmp w0 (Int64.ofNat ((0 : Fin 2) : Nat))) ≤ 0 then (Int32.ofInt 0) else ((Int32.ofInt 1)) else ((Int32.ofInt (-1)))
theorem p_X12_signOf {l : Launch} {E : EE} (hl : l.stackTraces = false) {h : HP} {w0 : Int64} : en_C l E M_X12_signOf 0 0 0 [.long w0] h (pR (some (.int (f_X12_signOf w0))) h) := by
  refine en_mk m_X12_signOf rfl hl (Nat.le_of_ble_eq_true rfl) ?_
  refine x_lload_n (M := M_X12_signOf) dX12_signOf_0 rfl ?_
  refine x_lconst (M := M_X12_signOf) dX12_signOf_1 ?_
  refine x_lcmp (M := M_X12_signOf) dX12_signOf_2 ?_
  refine x_if_ge (M := M_X12_signOf) (tgt := 10) dX12_signOf_3 (by decide) (fun q0 => ?_) (fun q0 => ?_)
  · refine x_lload_n (M := M_X12_signOf) dX12_signOf_10 rfl ?_
    refine x_lconst (M := M_X12_signOf) dX12_signOf_11 ?_
    refine x_lcmp (M := M_X12_signOf) dX12_signOf_12 ?_
    refine x_if_le (M := M_X12_signOf) (tgt := 20) dX12_signOf_13 (by decide) (fun q1 => ?_) (fun q1 => ?_)
    · refine x_iconst (M := M_X12_signOf) dX12_signOf_20 ?_
      exact x_iret (M := M_X12_signOf) dX12_signOf_21 rfl ⟨by rw [f_X12_signOf, if_pos q0, if_pos q1], rfl⟩ (Nat.le_of_ble_eq_true rfl) (Nat.le_of_ble_eq_true rfl)
    · refine x_iconst (M := M_X12_signOf) dX12_signOf_16 ?_
      refine x_goto (M := M_X12_signOf) (tgt := 21) dX12_signOf_17 (by decide) ?_
      exact x_iret (M := M_X12_signOf) dX12_signOf_21 rfl ⟨by rw [f_X12_signOf, if_pos q0, if_neg q1], rfl⟩ (Nat.le_of_ble_eq_true rfl) (Nat.le_of_ble_eq_true rfl)
  · refine x_iconst (M := M_X12_signOf) dX12_signOf_6 ?_
    refine x_goto (M := M_X12_signOf) (tgt := 21) dX12_signOf_7 (by decide) ?_
    exact x_iret (M := M_X12_signOf) dX12_signOf_21 rfl ⟨by rw [f_X12_signOf, if_neg q0], rfl⟩ (Nat.le_of_ble_eq_true rfl) (Nat.le_of_ble_eq_true rfl)
def f_X12_turn (w0 : Int64) (w1 : Int64) (w2 : Int64) (w3 : Int64) (w4 : Int64) (w5 : Int64) : Int32 := (f_X12_signOf (f_X12_cross (w2 - w0) (w3 - w1) (w4 - w0) (w5 - w1)))
theorem p_X12_turn {l : Launch} {E : EE} (hl : l.stackTraces = false) {h : HP} {w0 : Int64} {w1 : Int64} {w2 : Int64} {w3 : Int64} {w4 : Int64} {w5 : Int64} : en_C l E M_X12_turn 1 0 0 [.long w0, .long w1, .long w2, .long w3, .long w4, .long w5] h (pR (some (.int (f_X12_turn w0 w1 w2 w3 w4 w5))) h) := by
  refine en_mk m_X12_turn rfl hl (Nat.le_of_ble_eq_true rfl) ?_
  refine x_lload (M := M_X12_turn) dX12_turn_0 rfl ?_
  refine x_lload_n (M := M_X12_turn) dX12_turn_2 rfl ?_
  refine x_lsub (M := M_X12_turn) dX12_turn_3 ?_
  refine x_lload (M := M_X12_turn) dX12_turn_4 rfl ?_
  refine x_lload_n (M := M_X12_turn) dX12_turn_6 rfl ?_
  refine x_lsub (M := M_X12_turn) dX12_turn_7 ?_
  refine x_lload (M := M_X12_turn) dX12_turn_8 rfl ?_
  refine x_lload_n (M := M_X12_turn) dX12_turn_10 rfl ?_
  refine x_lsub (M := M_X12_turn) dX12_turn_11 ?_
  refine x_lload (M := M_X12_turn) dX12_turn_12 rfl ?_
  refine x_lload_n (M := M_X12_turn) dX12_turn_14 rfl ?_
  refine x_lsub (M := M_X12_turn) dX12_turn_15 ?_
  refine x_callSR (M := M_X12_turn) (M' := M_X12_cross) rfl rfl dX12_turn_16 m_X12_cross t_3265 t_3266 (p_X12_cross hl) rfl rfl (Nat.le_of_ble_eq_true rfl) (Nat.le_of_ble_eq_true rfl) (Nat.le_of_ble_eq_true rfl) (Nat.le_of_ble_eq_true rfl) ?_
  refine x_callSR (M := M_X12_turn) (M' := M_X12_signOf) rfl rfl dX12_turn_19 m_X12_signOf t_3268 t_3269 (p_X12_signOf hl) rfl rfl (Nat.le_of_ble_eq_true rfl) (Nat.le_of_ble_eq_true rfl) (Nat.le_of_ble_eq_true rfl) (Nat.le_of_ble_eq_true rfl) ?_
  exact x_iret (M := M_X12_turn) dX12_turn_22 rfl ⟨rfl, rfl⟩ (Nat.le_of_ble_eq_true rfl) (Nat.le_of_ble_eq_true rfl)
def f_X12_isBefore (w0 : Int64) (w1 : Int64) (w2 : Int64) (w3 : Int64) : Int32 := if (lg_cmp w0 w2) < 0 then (Int32.ofInt 1) else (if (lg_cmp w0 w2) = 0 then if 0 ≤ (lg_cmp w1 w3) then (Int32.ofInt 0) else ((Int32.ofInt 1)) else ((Int32.ofInt 0)))
theorem b_X12_isBefore (w0 : Int64) (w1 : Int64) (w2 : Int64) (w3 : Int64) : f_X12_isBefore w0 w1 w2 w3 = 0 ∨ f_X12_isBefore w0 w1 w2 w3 = 1 := (ite01 (Or.inr rfl) (ite01 (ite01 (Or.inl rfl) (Or.inr rfl)) (Or.inl rfl)))
theorem p_X12_isBefore {l : Launch} {E : EE} (hl : l.stackTraces = false) {h : HP} {w0 : Int64} {w1 : Int64} {w2 : Int64} {w3 : Int64} : en_C l E M_X12_isBefore 0 0 0 [.long w0, .long w1, .long w2, .long w3] h (pR (some (.int (f_X12_isBefore w0 w1 w2 w3))) h) := by
  refine en_mk m_X12_isBefore rfl hl (Nat.le_of_ble_eq_true rfl) ?_
  refine x_lload_n (M := M_X12_isBefore) dX12_isBefore_0 rfl ?_
  refine x_lload (M := M_X12_isBefore) dX12_isBefore_1 rfl ?_
  refine x_lcmp (M := M_X12_isBefore) dX12_isBefore_3 ?_
  refine x_if_lt (M := M_X12_isBefore) (tgt := 21) dX12_isBefore_4 (by decide) (fun q0 => ?_) (fun q0 => ?_)
  · refine x_iconst (M := M_X12_isBefore) dX12_isBefore_21 ?_
    refine x_goto (M := M_X12_isBefore) (tgt := 26) dX12_isBefore_22 (by decide) ?_
    exact x_zret (M := M_X12_isBefore) dX12_isBefore_26 rfl (Or.inr rfl) ⟨by rw [f_X12_isBefore, if_pos q0], rfl⟩ (Nat.le_of_ble_eq_true rfl) (Nat.le_of_ble_eq_true rfl)
  · refine x_lload_n (M := M_X12_isBefore) dX12_isBefore_7 rfl ?_
    refine x_lload (M := M_X12_isBefore) dX12_isBefore_8 rfl ?_
    refine x_lcmp (M := M_X12_isBefore) dX12_isBefore_10 ?_
    refine x_if_ne (M := M_X12_isBefore) (tgt := 25) dX12_isBefore_11 (by decide) (fun q1 => ?_) (fun q1 => ?_)
    · refine x_iconst (M := M_X12_isBefore) dX12_isBefore_25 ?_
      exact x_zret (M := M_X12_isBefore) dX12_isBefore_26 rfl (Or.inl rfl) ⟨by rw [f_X12_isBefore, if_neg q0, if_neg q1], rfl⟩ (Nat.le_of_ble_eq_true rfl) (Nat.le_of_ble_eq_true rfl)
    · refine x_lload_n (M := M_X12_isBefore) dX12_isBefore_14 rfl ?_
      refine x_lload (M := M_X12_isBefore) dX12_isBefore_15 rfl ?_
      refine x_lcmp (M := M_X12_isBefore) dX12_isBefore_17 ?_
      refine x_if_ge (M := M_X12_isBefore) (tgt := 25) dX12_isBefore_18 (by decide) (fun q2 => ?_) (fun q2 => ?_)
      · refine x_iconst (M := M_X12_isBefore) dX12_isBefore_25 ?_
        exact x_zret (M := M_X12_isBefore) dX12_isBefore_26 rfl (Or.inl rfl) ⟨by rw [f_X12_isBefore, if_neg q0, if_pos q1, if_pos q2], rfl⟩ (Nat.le_of_ble_eq_true rfl) (Nat.le_of_ble_eq_true rfl)
      · refine x_iconst (M := M_X12_isBefore) dX12_isBefore_21 ?_
        refine x_goto (M := M_X12_isBefore) (tgt := 26) dX12_isBefore_22 (by decide) ?_
        exact x_zret (M := M_X12_isBefore) dX12_isBefore_26 rfl (Or.inr rfl) ⟨by rw [f_X12_isBefore, if_neg q0, if_pos q1, if_neg q2], rfl⟩ (Nat.le_of_ble_eq_true rfl) (Nat.le_of_ble_eq_true rfl)
def f_X12_isBetween (w0 : Int64) (w1 : Int64) (w2 : Int64) (w3 : Int64) (w4 : Int64) (w5 : Int64) : Int32 := if (lg_cmp (f_X12_cross w0 w1 w2 w3) (Int64.ofNat ((0 : Fin 2) : Nat))) ≤ 0 then if (lg_cmp (f_X12_cross w0 w1 w2 w3) (Int64.ofNat ((0 : Fin 2) : Nat))) = 0 then if 0 ≤ (lg_cmp ((w0 * w2) + (w1 * w3)) (Int64.ofNat ((0 : Fin 2) : Nat))) then (Int32.ofInt 0) else (if (lg_cmp (f_X12_cross w0 w1 w4 w5) (Int64.ofNat ((0 : Fin 2) : Nat))) ≤ 0 then (Int32.ofInt 0) else ((Int32.ofInt 1))) else (if 0 < (lg_cmp (f_X12_cross w0 w1 w4 w5) (Int64.ofNat ((0 : Fin 2) : Nat))) then (Int32.ofInt 1) else (if (lg_cmp (f_X12_cross w4 w5 w2 w3) (Int64.ofNat ((0 : Fin 2) : Nat))) ≤ 0 then (Int32.ofInt 0) else ((Int32.ofInt 1)))) else (if (lg_cmp (f_X12_cross w0 w1 w4 w5) (Int64.ofNat ((0 : Fin 2) : Nat))) ≤ 0 then (Int32.ofInt 0) else (if (lg_cmp (f_X12_cross w4 w5 w2 w3) (Int64.ofNat ((0 : Fin 2) : Nat))) ≤ 0 then (Int32.ofInt 0) else ((Int32.ofInt 1))))
theorem b_X12_isBetween (w0 : Int64) (w1 : Int64) (w2 : Int64) (w3 : Int64) (w4 : Int64) (w5 : Int64) : f_X12_isBetween w0 w1 w2 w3 w4 w5 = 0 ∨ f_X12_isBetween w0 w1 w2 w3 w4 w5 = 1 := (ite01 (ite01 (ite01 (Or.inl rfl) (ite01 (Or.inl rfl) (Or.inr rfl))) (ite01 (Or.inr rfl) (ite01 (Or.inl rfl) (Or.inr rfl)))) (ite01 (Or.inl rfl) (ite01 (Or.inl rfl) (Or.inr rfl))))
theorem p_X12_isBetween {l : Launch} {E : EE} (hl : l.stackTraces = false) {h : HP} {w0 : Int64} {w1 : Int64} {w2 : Int64} {w3 : Int64} {w4 : Int64} {w5 : Int64} : en_C l E M_X12_isBetween 1 0 0 [.long w0, .long w1, .long w2, .long w3, .long w4, .long w5] h (pR (some (.int (f_X12_isBetween w0 w1 w2 w3 w4 w5))) h) := by
  refine en_mk m_X12_isBetween rfl hl (Nat.le_of_ble_eq_true rfl) ?_
  refine x_lload_n (M := M_X12_isBetween) dX12_isBetween_0 rfl ?_
  refine x_lload_n (M := M_X12_isBetween) dX12_isBetween_1 rfl ?_
  refine x_lload (M := M_X12_isBetween) dX12_isBetween_2 rfl ?_
  refine x_lload (M := M_X12_isBetween) dX12_isBetween_4 rfl ?_
  refine x_callSR (M := M_X12_isBetween) (M' := M_X12_cross) rfl rfl dX12_isBetween_6 m_X12_cross t_3265 t_3266 (p_X12_cross hl) rfl rfl (Nat.le_of_ble_eq_true rfl) (Nat.le_of_ble_eq_true rfl) (Nat.le_of_ble_eq_true rfl) (Nat.le_of_ble_eq_true rfl) ?_
  refine x_lstore (M := M_X12_isBetween) dX12_isBetween_9 (by decide) rfl ?_
  refine x_lload_n (M := M_X12_isBetween) dX12_isBetween_11 rfl ?_
  refine x_lload_n (M := M_X12_isBetween) dX12_isBetween_12 rfl ?_
  refine x_lload (M := M_X12_isBetween) dX12_isBetween_13 rfl ?_
  refine x_lload (M := M_X12_isBetween) dX12_isBetween_15 rfl ?_
  refine x_callSR (M := M_X12_isBetween) (M' := M_X12_cross) rfl rfl dX12_isBetween_17 m_X12_cross t_3265 t_3266 (p_X12_cross hl) rfl rfl (Nat.le_of_ble_eq_true rfl) (Nat.le_of_ble_eq_true rfl) (Nat.le_of_ble_eq_true rfl) (Nat.le_of_ble_eq_true rfl) ?_
  refine x_lstore (M := M_X12_isBetween) dX12_isBetween_20 (by decide) rfl ?_
  refine x_lload (M := M_X12_isBetween) dX12_isBetween_22 rfl ?_
  refine x_lload (M := M_X12_isBetween) dX12_isBetween_24 rfl ?_
  refine x_lload (M := M_X12_isBetween) dX12_isBetween_26 rfl ?_
  refine x_lload (M := M_X12_isBetween) dX12_isBetween_28 rfl ?_
  refine x_callSR (M := M_X12_isBetween) (M' := M_X12_cross) rfl rfl dX12_isBetween_30 m_X12_cross t_3265 t_3266 (p_X12_cross hl) rfl rfl (Nat.le_of_ble_eq_true rfl) (Nat.le_of_ble_eq_true rfl) (Nat.le_of_ble_eq_true rfl) (Nat.le_of_ble_eq_true rfl) ?_
  refine x_lstore (M := M_X12_isBetween) dX12_isBetween_33 (by decide) rfl ?_
  refine x_lload (M := M_X12_isBetween) dX12_isBetween_35 rfl ?_
  refine x_lconst (M := M_X12_isBetween) dX12_isBetween_37 ?_
  refine x_lcmp (M := M_X12_isBetween) dX12_isBetween_38 ?_
  refine x_if_le (M := M_X12_isBetween) (tgt := 62) dX12_isBetween_39 (by decide) (fun q0 => ?_) (fun q0 => ?_)
  · refine x_lload (M := M_X12_isBetween) dX12_isBetween_62 rfl ?_
    refine x_lconst (M := M_X12_isBetween) dX12_isBetween_64 ?_
    refine x_lcmp (M := M_X12_isBetween) dX12_isBetween_65 ?_
    refine x_if_ne (M := M_X12_isBetween) (tgt := 96) dX12_isBetween_66 (by decide) (fun q1 => ?_) (fun q1 => ?_)
    · refine x_lload (M := M_X12_isBetween) dX12_isBetween_96 rfl ?_
      refine x_lconst (M := M_X12_isBetween) dX12_isBetween_98 ?_
      refine x_lcmp (M := M_X12_isBetween) dX12_isBetween_99 ?_
      refine x_if_gt (M := M_X12_isBetween) (tgt := 110) dX12_isBetween_100 (by decide) (fun q2 => ?_) (fun q2 => ?_)
      · refine x_iconst (M := M_X12_isBetween) dX12_isBetween_110 ?_
        refine x_goto (M := M_X12_isBetween) (tgt := 115) dX12_isBetween_111 (by decide) ?_
        exact x_zret (M := M_X12_isBetween) dX12_isBetween_115 rfl (Or.inr rfl) ⟨by rw [f_X12_isBetween, if_pos q0, if_neg q1, if_pos q2], rfl⟩ (Nat.le_of_ble_eq_true rfl) (Nat.le_of_ble_eq_true rfl)
      · refine x_lload (M := M_X12_isBetween) dX12_isBetween_103 rfl ?_
        refine x_lconst (M := M_X12_isBetween) dX12_isBetween_105 ?_
        refine x_lcmp (M := M_X12_isBetween) dX12_isBetween_106 ?_
        refine x_if_le (M := M_X12_isBetween) (tgt := 114) dX12_isBetween_107 (by decide) (fun q3 => ?_) (fun q3 => ?_)
        · refine x_iconst (M := M_X12_isBetween) dX12_isBetween_114 ?_
          exact x_zret (M := M_X12_isBetween) dX12_isBetween_115 rfl (Or.inl rfl) ⟨by rw [f_X12_isBetween, if_pos q0, if_neg q1, if_neg q2, if_pos q3], rfl⟩ (Nat.le_of_ble_eq_true rfl) (Nat.le_of_ble_eq_true rfl)
        · refine x_iconst (M := M_X12_isBetween) dX12_isBetween_110 ?_
          refine x_goto (M := M_X12_isBetween) (tgt := 115) dX12_isBetween_111 (by decide) ?_
          exact x_zret (M := M_X12_isBetween) dX12_isBetween_115 rfl (Or.inr rfl) ⟨by rw [f_X12_isBetween, if_pos q0, if_neg q1, if_neg q2, if_neg q3], rfl⟩ (Nat.le_of_ble_eq_true rfl) (Nat.le_of_ble_eq_true rfl)
    · refine x_lload_n (M := M_X12_isBetween) dX12_isBetween_69 rfl ?_
      refine x_lload (M := M_X12_isBetween) dX12_isBetween_70 rfl ?_
      refine x_lmul (M := M_X12_isBetween) dX12_isBetween_72 ?_
      refine x_lload_n (M := M_X12_isBetween) dX12_isBetween_73 rfl ?_
      refine x_lload (M := M_X12_isBetween) dX12_isBetween_74 rfl ?_
      refine x_lmul (M := M_X12_isBetween) dX12_isBetween_76 ?_
      refine x_ladd (M := M_X12_isBetween) dX12_isBetween_77 ?_
      refine x_lconst (M := M_X12_isBetween) dX12_isBetween_78 ?_
      refine x_lcmp (M := M_X12_isBetween) dX12_isBetween_79 ?_
      refine x_if_ge (M := M_X12_isBetween) (tgt := 94) dX12_isBetween_80 (by decide) (fun q2 => ?_) (fun q2 => ?_)
      · refine x_iconst (M := M_X12_isBetween) dX12_isBetween_94 ?_
        exact x_zret (M := M_X12_isBetween) dX12_isBetween_95 rfl (Or.inl rfl) ⟨by rw [f_X12_isBetween, if_pos q0, if_pos q1, if_pos q2], rfl⟩ (Nat.le_of_ble_eq_true rfl) (Nat.le_of_ble_eq_true rfl)
      · refine x_lload (M := M_X12_isBetween) dX12_isBetween_83 rfl ?_
        refine x_lconst (M := M_X12_isBetween) dX12_isBetween_85 ?_
        refine x_lcmp (M := M_X12_isBetween) dX12_isBetween_86 ?_
        refine x_if_le (M := M_X12_isBetween) (tgt := 94) dX12_isBetween_87 (by decide) (fun q3 => ?_) (fun q3 => ?_)
        · refine x_iconst (M := M_X12_isBetween) dX12_isBetween_94 ?_
          exact x_zret (M := M_X12_isBetween) dX12_isBetween_95 rfl (Or.inl rfl) ⟨by rw [f_X12_isBetween, if_pos q0, if_pos q1, if_neg q2, if_pos q3], rfl⟩ (Nat.le_of_ble_eq_true rfl) (Nat.le_of_ble_eq_true rfl)
        · refine x_iconst (M := M_X12_isBetween) dX12_isBetween_90 ?_
          refine x_goto (M := M_X12_isBetween) (tgt := 95) dX12_isBetween_91 (by decide) ?_
          exact x_zret (M := M_X12_isBetween) dX12_isBetween_95 rfl (Or.inr rfl) ⟨by rw [f_X12_isBetween, if_pos q0, if_pos q1, if_neg q2, if_neg q3], rfl⟩ (Nat.le_of_ble_eq_true rfl) (Nat.le_of_ble_eq_true rfl)
  · refine x_lload (M := M_X12_isBetween) dX12_isBetween_42 rfl ?_
    refine x_lconst (M := M_X12_isBetween) dX12_isBetween_44 ?_
    refine x_lcmp (M := M_X12_isBetween) dX12_isBetween_45 ?_
    refine x_if_le (M := M_X12_isBetween) (tgt := 60) dX12_isBetween_46 (by decide) (fun q1 => ?_) (fun q1 => ?_)
    · refine x_iconst (M := M_X12_isBetween) dX12_isBetween_60 ?_
      exact x_zret (M := M_X12_isBetween) dX12_isBetween_61 rfl (Or.inl rfl) ⟨by rw [f_X12_isBetween, if_neg q0, if_pos q1], rfl⟩ (Nat.le_of_ble_eq_true rfl) (Nat.le_of_ble_eq_true rfl)
    · refine x_lload (M := M_X12_isBetween) dX12_isBetween_49 rfl ?_
      refine x_lconst (M := M_X12_isBetween) dX12_isBetween_51 ?_
      refine x_lcmp (M := M_X12_isBetween) dX12_isBetween_52 ?_
      refine x_if_le (M := M_X12_isBetween) (tgt := 60) dX12_isBetween_53 (by decide) (fun q2 => ?_) (fun q2 => ?_)
      · refine x_iconst (M := M_X12_isBetween) dX12_isBetween_60 ?_
        exact x_zret (M := M_X12_isBetween) dX12_isBetween_61 rfl (Or.inl rfl) ⟨by rw [f_X12_isBetween, if_neg q0, if_neg q1, if_pos q2], rfl⟩ (Nat.le_of_ble_eq_true rfl) (Nat.le_of_ble_eq_true rfl)
      · refine x_iconst (M := M_X12_isBetween) dX12_isBetween_56 ?_
        refine x_goto (M := M_X12_isBetween) (tgt := 61) dX12_isBetween_57 (by decide) ?_
        exact x_zret (M := M_X12_isBetween) dX12_isBetween_61 rfl (Or.inr rfl) ⟨by rw [f_X12_isBetween, if_neg q0, if_neg q1, if_neg q2], rfl⟩ (Nat.le_of_ble_eq_true rfl) (Nat.le_of_ble_eq_true rfl)
def f_X12_isAhead (w0 : Int64) (w1 : Int64) (w2 : Int64) (w3 : Int64) (w4 : Int64) (w5 : Int64) : Int32 := if 0 ≤ (lg_cmp (f_X12_cross w0 w1 w2 w3) (Int64.ofNat ((0 : Fin 2) : Nat))) then if (lg_cmp (f_X12_cross w0 w1 w2 w3) (Int64.ofNat ((0 : Fin 2) : Nat))) = 0 then if 0 ≤ (lg_cmp (f_X12_cross w0 w1 w4 w5) (Int64.ofNat ((0 : Fin 2) : Nat))) then if (lg_cmp (f_X12_cross w0 w1 w4 w5) (Int64.ofNat ((0 : Fin 2) : Nat))) = 0 then if (Int32.ofInt 1) < (Int32.ofInt 1) then (Int32.ofInt 1) else (if (Int32.ofInt 1) = (Int32.ofInt 1) then if 0 ≤ (lg_cmp (f_X12_cross w2 w3 w4 w5) (Int64.ofNat ((0 : Fin 2) : Nat))) then (Int32.ofInt 0) else ((Int32.ofInt 1)) else ((Int32.ofInt 0))) else (if (Int32.ofInt 1) < (Int32.ofInt 2) then (Int32.ofInt 1) else (if (Int32.ofInt 1) = (Int32.ofInt 2) then if 0 ≤ (lg_cmp (f_X12_cross w2 w3 w4 w5) (Int64.ofNat ((0 : Fin 2) : Nat))) then (Int32.ofInt 0) else ((Int32.ofInt 1)) else ((Int32.ofInt 0)))) else (if (Int32.ofInt 1) < (Int32.ofInt 0) then (Int32.ofInt 1) else (if (Int32.ofInt 1) = (Int32.ofInt 0) then if 0 ≤ (lg_cmp (f_X12_cross w2 w3 w4 w5) (Int64.ofNat ((0 : Fin 2) : Nat))) then (Int32.ofInt 0) else ((Int32.ofInt 1)) else ((Int32.ofInt 0)))) else (if 0 ≤ (lg_cmp (f_X12_cross w0 w1 w4 w5) (Int64.ofNat ((0 : Fin 2) : Nat))) then if (lg_cmp (f_X12_cross w0 w1 w4 w5) (Int64.ofNat ((0 : Fin 2) : Nat))) = 0 then if (Int32.ofInt 2) < (Int32.ofInt 1) then (Int32.ofInt 1) else (if (Int32.ofInt 2) = (Int32.ofInt 1) then if 0 ≤ (lg_cmp (f_X12_cross w2 w3 w4 w5) (Int64.ofNat ((0 : Fin 2) : Nat))) then (Int32.ofInt 0) else ((Int32.ofInt 1)) else ((Int32.ofInt 0))) else (if (Int32.ofInt 2) < (Int32.ofInt 2) then (Int32.ofInt 1) else (if (Int32.ofInt 2) = (Int32.ofInt 2) then if 0 ≤ (lg_cmp (f_X12_cross w2 w3 w4 w5) (Int64.ofNat ((0 : Fin 2) : Nat))) then (Int32.ofInt 0) else ((Int32.ofInt 1)) else ((Int32.ofInt 0)))) else (if (Int32.ofInt 2) < (Int32.ofInt 0) then (Int32.ofInt 1) else (if (Int32.ofInt 2) = (Int32.ofInt 0) then if 0 ≤ (lg_cmp (f_X12_cross w2 w3 w4 w5) (Int64.ofNat ((0 : Fin 2) : Nat))) then (Int32.ofInt 0) else ((Int32.ofInt 1)) else ((Int32.ofInt 0))))) else (if 0 ≤ (lg_cmp (f_X12_cross w0 w1 w4 w5) (Int64.ofNat ((0 : Fin 2) : Nat))) then if (lg_cmp (f_X12_cross w0 w1 w4 w5) (Int64.ofNat ((0 : Fin 2) : Nat))) = 0 then if (Int32.ofInt 0) < (Int32.ofInt 1) then (Int32.ofInt 1) else (if (Int32.ofInt 0) = (Int32.ofInt 1) then if 0 ≤ (lg_cmp (f_X12_cross w2 w3 w4 w5) (Int64.ofNat ((0 : Fin 2) : Nat))) then (Int32.ofInt 0) else ((Int32.ofInt 1)) else ((Int32.ofInt 0))) else (if (Int32.ofInt 0) < (Int32.ofInt 2) then (Int32.ofInt 1) else (if (Int32.ofInt 0) = (Int32.ofInt 2) then if 0 ≤ (lg_cmp (f_X12_cross w2 w3 w4 w5) (Int64.ofNat ((0 : Fin 2) : Nat))) then (Int32.ofInt 0) else ((Int32.ofInt 1)) else ((Int32.ofInt 0)))) else (if (Int32.ofInt 0) < (Int32.ofInt 0) then (Int32.ofInt 1) else (if (Int32.ofInt 0) = (Int32.ofInt 0) then if 0 ≤ (lg_cmp (f_X12_cross w2 w3 w4 w5) (Int64.ofNat ((0 : Fin 2) : Nat))) then (Int32.ofInt 0) else ((Int32.ofInt 1)) else ((Int32.ofInt 0)))))
theorem b_X12_isAhead (w0 : Int64) (w1 : Int64) (w2 : Int64) (w3 : Int64) (w4 : Int64) (w5 : Int64) : f_X12_isAhead w0 w1 w2 w3 w4 w5 = 0 ∨ f_X12_isAhead w0 w1 w2 w3 w4 w5 = 1 := (ite01 (ite01 (ite01 (ite01 (ite01 (Or.inr rfl) (ite01 (ite01 (Or.inl rfl) (Or.inr rfl)) (Or.inl rfl))) (ite01 (Or.inr rfl) (ite01 (ite01 (Or.inl rfl) (Or.inr rfl)) (Or.inl rfl)))) (ite01 (Or.inr rfl) (ite01 (ite01 (Or.inl rfl) (Or.inr rfl)) (Or.inl rfl)))) (ite01 (ite01 (ite01 (Or.inr rfl) (ite01 (ite01 (Or.inl rfl) (Or.inr rfl)) (Or.inl rfl))) (ite01 (Or.inr rfl) (ite01 (ite01 (Or.inl rfl) (Or.inr rfl)) (Or.inl rfl)))) (ite01 (Or.inr rfl) (ite01 (ite01 (Or.inl rfl) (Or.inr rfl)) (Or.inl rfl))))) (ite01 (ite01 (ite01 (Or.inr rfl) (ite01 (ite01 (Or.inl rfl) (Or.inr rfl)) (Or.inl rfl))) (ite01 (Or.inr rfl) (ite01 (ite01 (Or.inl rfl) (Or.inr rfl)) (Or.inl rfl)))) (ite01 (Or.inr rfl) (ite01 (ite01 (Or.inl rfl) (Or.inr rfl)) (Or.inl rfl)))))
theorem p_X12_isAhead {l : Launch} {E : EE} (hl : l.stackTraces = false) {h : HP} {w0 : Int64} {w1 : Int64} {w2 : Int64} {w3 : Int64} {w4 : Int64} {w5 : Int64} : en_C l E M_X12_isAhead 1 0 0 [.long w0, .long w1, .long w2, .long w3, .long w4, .long w5] h (pR (some (.int (f_X12_isAhead w0 w1 w2 w3 w4 w5))) h) := by
  refine en_mk m_X12_isAhead rfl hl (Nat.le_of_ble_eq_true rfl) ?_
  refine x_lload_n (M := M_X12_isAhead) dX12_isAhead_0 rfl ?_
  refine x_lload_n (M := M_X12_isAhead) dX12_isAhead_1 rfl ?_
  refine x_lload (M := M_X12_isAhead) dX12_isAhead_2 rfl ?_
  refine x_lload (M := M_X12_isAhead) dX12_isAhead_4 rfl ?_
  refine x_callSR (M := M_X12_isAhead) (M' := M_X12_cross) rfl rfl dX12_isAhead_6 m_X12_cross t_3265 t_3266 (p_X12_cross hl) rfl rfl (Nat.le_of_ble_eq_true rfl) (Nat.le_of_ble_eq_true rfl) (Nat.le_of_ble_eq_true rfl) (Nat.le_of_ble_eq_true rfl) ?_
  refine x_lstore (M := M_X12_isAhead) dX12_isAhead_9 (by decide) rfl ?_
  refine x_lload_n (M := M_X12_isAhead) dX12_isAhead_11 rfl ?_
  refine x_lload_n (M := M_X12_isAhead) dX12_isAhead_12 rfl ?_
  refine x_lload (M := M_X12_isAhead) dX12_isAhead_13 rfl ?_
  refine x_lload (M := M_X12_isAhead) dX12_isAhead_15 rfl ?_
  refine x_callSR (M := M_X12_isAhead) (M' := M_X12_cross) rfl rfl dX12_isAhead_17 m_X12_cross t_3265 t_3266 (p_X12_cross hl) rfl rfl (Nat.le_of_ble_eq_true rfl) (Nat.le_of_ble_eq_true rfl) (Nat.le_of_ble_eq_true rfl) (Nat.le_of_ble_eq_true rfl) ?_
  refine x_lstore (M := M_X12_isAhead) dX12_isAhead_20 (by decide) rfl ?_
  refine x_lload (M := M_X12_isAhead) dX12_isAhead_22 rfl ?_
  refine x_lconst (M := M_X12_isAhead) dX12_isAhead_24 ?_
  refine x_lcmp (M := M_X12_isAhead) dX12_isAhead_25 ?_
  refine x_if_ge (M := M_X12_isAhead) (tgt := 33) dX12_isAhead_26 (by decide) (fun q0 => ?_) (fun q0 => ?_)
  · refine x_lload (M := M_X12_isAhead) dX12_isAhead_33 rfl ?_
    refine x_lconst (M := M_X12_isAhead) dX12_isAhead_35 ?_
    refine x_lcmp (M := M_X12_isAhead) dX12_isAhead_36 ?_
    refine x_if_ne (M := M_X12_isAhead) (tgt := 44) dX12_isAhead_37 (by decide) (fun q1 => ?_) (fun q1 => ?_)
    · refine x_iconst (M := M_X12_isAhead) dX12_isAhead_44 ?_
      refine x_istore (M := M_X12_isAhead) dX12_isAhead_45 (by decide) rfl ?_
      refine x_lload (M := M_X12_isAhead) dX12_isAhead_47 rfl ?_
      refine x_lconst (M := M_X12_isAhead) dX12_isAhead_49 ?_
      refine x_lcmp (M := M_X12_isAhead) dX12_isAhead_50 ?_
      refine x_if_ge (M := M_X12_isAhead) (tgt := 58) dX12_isAhead_51 (by decide) (fun q2 => ?_) (fun q2 => ?_)
      · refine x_lload (M := M_X12_isAhead) dX12_isAhead_58 rfl ?_
        refine x_lconst (M := M_X12_isAhead) dX12_isAhead_60 ?_
        refine x_lcmp (M := M_X12_isAhead) dX12_isAhead_61 ?_
        refine x_if_ne (M := M_X12_isAhead) (tgt := 69) dX12_isAhead_62 (by decide) (fun q3 => ?_) (fun q3 => ?_)
        · refine x_iconst (M := M_X12_isAhead) dX12_isAhead_69 ?_
          refine x_istore (M := M_X12_isAhead) dX12_isAhead_70 (by decide) rfl ?_
          refine x_iload (M := M_X12_isAhead) dX12_isAhead_72 rfl ?_
          refine x_iload (M := M_X12_isAhead) dX12_isAhead_74 rfl ?_
          refine x_icmp_lt (M := M_X12_isAhead) (tgt := 102) dX12_isAhead_76 (by decide) (fun q4 => ?_) (fun q4 => ?_)
          · refine x_iconst (M := M_X12_isAhead) dX12_isAhead_102 ?_
            refine x_goto (M := M_X12_isAhead) (tgt := 107) dX12_isAhead_103 (by decide) ?_
            exact x_zret (M := M_X12_isAhead) dX12_isAhead_107 rfl (Or.inr rfl) ⟨by rw [f_X12_isAhead, if_pos q0, if_neg q1, if_pos q2, if_neg q3, if_pos q4], rfl⟩ (Nat.le_of_ble_eq_true rfl) (Nat.le_of_ble_eq_true rfl)
          · refine x_iload (M := M_X12_isAhead) dX12_isAhead_79 rfl ?_
            refine x_iload (M := M_X12_isAhead) dX12_isAhead_81 rfl ?_
            refine x_icmp_ne (M := M_X12_isAhead) (tgt := 106) dX12_isAhead_83 (by decide) (fun q5 => ?_) (fun q5 => ?_)
            · refine x_iconst (M := M_X12_isAhead) dX12_isAhead_106 ?_
              exact x_zret (M := M_X12_isAhead) dX12_isAhead_107 rfl (Or.inl rfl) ⟨by rw [f_X12_isAhead, if_pos q0, if_neg q1, if_pos q2, if_neg q3, if_neg q4, if_neg q5], rfl⟩ (Nat.le_of_ble_eq_true rfl) (Nat.le_of_ble_eq_true rfl)
            · refine x_lload (M := M_X12_isAhead) dX12_isAhead_86 rfl ?_
              refine x_lload (M := M_X12_isAhead) dX12_isAhead_88 rfl ?_
              refine x_lload (M := M_X12_isAhead) dX12_isAhead_90 rfl ?_
              refine x_lload (M := M_X12_isAhead) dX12_isAhead_92 rfl ?_
              refine x_callSR (M := M_X12_isAhead) (M' := M_X12_cross) rfl rfl dX12_isAhead_94 m_X12_cross t_3265 t_3266 (p_X12_cross hl) rfl rfl (Nat.le_of_ble_eq_true rfl) (Nat.le_of_ble_eq_true rfl) (Nat.le_of_ble_eq_true rfl) (Nat.le_of_ble_eq_true rfl) ?_
              refine x_lconst (M := M_X12_isAhead) dX12_isAhead_97 ?_
              refine x_lcmp (M := M_X12_isAhead) dX12_isAhead_98 ?_
              refine x_if_ge (M := M_X12_isAhead) (tgt := 106) dX12_isAhead_99 (by decide) (fun q6 => ?_) (fun q6 => ?_)
              · refine x_iconst (M := M_X12_isAhead) dX12_isAhead_106 ?_
                exact x_zret (M := M_X12_isAhead) dX12_isAhead_107 rfl (Or.inl rfl) ⟨by rw [f_X12_isAhead, if_pos q0, if_neg q1, if_pos q2, if_neg q3, if_neg q4, if_pos q5, if_pos q6], rfl⟩ (Nat.le_of_ble_eq_true rfl) (Nat.le_of_ble_eq_true rfl)
              · refine x_iconst (M := M_X12_isAhead) dX12_isAhead_102 ?_
                refine x_goto (M := M_X12_isAhead) (tgt := 107) dX12_isAhead_103 (by decide) ?_
                exact x_zret (M := M_X12_isAhead) dX12_isAhead_107 rfl (Or.inr rfl) ⟨by rw [f_X12_isAhead, if_pos q0, if_neg q1, if_pos q2, if_neg q3, if_neg q4, if_pos q5, if_neg q6], rfl⟩ (Nat.le_of_ble_eq_true rfl) (Nat.le_of_ble_eq_true rfl)
        · refine x_iconst (M := M_X12_isAhead) dX12_isAhead_65 ?_
          refine x_goto (M := M_X12_isAhead) (tgt := 70) dX12_isAhead_66 (by decide) ?_
          refine x_istore (M := M_X12_isAhead) dX12_isAhead_70 (by decide) rfl ?_
          refine x_iload (M := M_X12_isAhead) dX12_isAhead_72 rfl ?_
          refine x_iload (M := M_X12_isAhead) dX12_isAhead_74 rfl ?_
          refine x_icmp_lt (M := M_X12_isAhead) (tgt := 102) dX12_isAhead_76 (by decide) (fun q4 => ?_) (fun q4 => ?_)
          · refine x_iconst (M := M_X12_isAhead) dX12_isAhead_102 ?_
            refine x_goto (M := M_X12_isAhead) (tgt := 107) dX12_isAhead_103 (by decide) ?_
            exact x_zret (M := M_X12_isAhead) dX12_isAhead_107 rfl (Or.inr rfl) ⟨by rw [f_X12_isAhead, if_pos q0, if_neg q1, if_pos q2, if_pos q3, if_pos q4], rfl⟩ (Nat.le_of_ble_eq_true rfl) (Nat.le_of_ble_eq_true rfl)
          · refine x_iload (M := M_X12_isAhead) dX12_isAhead_79 rfl ?_
            refine x_iload (M := M_X12_isAhead) dX12_isAhead_81 rfl ?_
            refine x_icmp_ne (M := M_X12_isAhead) (tgt := 106) dX12_isAhead_83 (by decide) (fun q5 => ?_) (fun q5 => ?_)
            · refine x_iconst (M := M_X12_isAhead) dX12_isAhead_106 ?_
              exact x_zret (M := M_X12_isAhead) dX12_isAhead_107 rfl (Or.inl rfl) ⟨by rw [f_X12_isAhead, if_pos q0, if_neg q1, if_pos q2, if_pos q3, if_neg q4, if_neg q5], rfl⟩ (Nat.le_of_ble_eq_true rfl) (Nat.le_of_ble_eq_true rfl)
            · refine x_lload (M := M_X12_isAhead) dX12_isAhead_86 rfl ?_
              refine x_lload (M := M_X12_isAhead) dX12_isAhead_88 rfl ?_
              refine x_lload (M := M_X12_isAhead) dX12_isAhead_90 rfl ?_
              refine x_lload (M := M_X12_isAhead) dX12_isAhead_92 rfl ?_
              refine x_callSR (M := M_X12_isAhead) (M' := M_X12_cross) rfl rfl dX12_isAhead_94 m_X12_cross t_3265 t_3266 (p_X12_cross hl) rfl rfl (Nat.le_of_ble_eq_true rfl) (Nat.le_of_ble_eq_true rfl) (Nat.le_of_ble_eq_true rfl) (Nat.le_of_ble_eq_true rfl) ?_
              refine x_lconst (M := M_X12_isAhead) dX12_isAhead_97 ?_
              refine x_lcmp (M := M_X12_isAhead) dX12_isAhead_98 ?_
              refine x_if_ge (M := M_X12_isAhead) (tgt := 106) dX12_isAhead_99 (by decide) (fun q6 => ?_) (fun q6 => ?_)
              · refine x_iconst (M := M_X12_isAhead) dX12_isAhead_106 ?_
                exact x_zret (M := M_X12_isAhead) dX12_isAhead_107 rfl (Or.inl rfl) ⟨by rw [f_X12_isAhead, if_pos q0, if_neg q1, if_pos q2, if_pos q3, if_neg q4, if_pos q5, if_pos q6], rfl⟩ (Nat.le_of_ble_eq_true rfl) (Nat.le_of_ble_eq_true rfl)
              · refine x_iconst (M := M_X12_isAhead) dX12_isAhead_102 ?_
                refine x_goto (M := M_X12_isAhead) (tgt := 107) dX12_isAhead_103 (by decide) ?_
                exact x_zret (M := M_X12_isAhead) dX12_isAhead_107 rfl (Or.inr rfl) ⟨by rw [f_X12_isAhead, if_pos q0, if_neg q1, if_pos q2, if_pos q3, if_neg q4, if_pos q5, if_neg q6], rfl⟩ (Nat.le_of_ble_eq_true rfl) (Nat.le_of_ble_eq_true rfl)
      · refine x_iconst (M := M_X12_isAhead) dX12_isAhead_54 ?_
        refine x_goto (M := M_X12_isAhead) (tgt := 70) dX12_isAhead_55 (by decide) ?_
        refine x_istore (M := M_X12_isAhead) dX12_isAhead_70 (by decide) rfl ?_
        refine x_iload (M := M_X12_isAhead) dX12_isAhead_72 rfl ?_
        refine x_iload (M := M_X12_isAhead) dX12_isAhead_74 rfl ?_
        refine x_icmp_lt (M := M_X12_isAhead) (tgt := 102) dX12_isAhead_76 (by decide) (fun q3 => ?_) (fun q3 => ?_)
        · refine x_iconst (M := M_X12_isAhead) dX12_isAhead_102 ?_
          refine x_goto (M := M_X12_isAhead) (tgt := 107) dX12_isAhead_103 (by decide) ?_
          exact x_zret (M := M_X12_isAhead) dX12_isAhead_107 rfl (Or.inr rfl) ⟨by rw [f_X12_isAhead, if_pos q0, if_neg q1, if_neg q2, if_pos q3], rfl⟩ (Nat.le_of_ble_eq_true rfl) (Nat.le_of_ble_eq_true rfl)
        · refine x_iload (M := M_X12_isAhead) dX12_isAhead_79 rfl ?_
          refine x_iload (M := M_X12_isAhead) dX12_isAhead_81 rfl ?_
          refine x_icmp_ne (M := M_X12_isAhead) (tgt := 106) dX12_isAhead_83 (by decide) (fun q4 => ?_) (fun q4 => ?_)
          · refine x_iconst (M := M_X12_isAhead) dX12_isAhead_106 ?_
            exact x_zret (M := M_X12_isAhead) dX12_isAhead_107 rfl (Or.inl rfl) ⟨by rw [f_X12_isAhead, if_pos q0, if_neg q1, if_neg q2, if_neg q3, if_neg q4], rfl⟩ (Nat.le_of_ble_eq_true rfl) (Nat.le_of_ble_eq_true rfl)
          · refine x_lload (M := M_X12_isAhead) dX12_isAhead_86 rfl ?_
            refine x_lload (M := M_X12_isAhead) dX12_isAhead_88 rfl ?_
            refine x_lload (M := M_X12_isAhead) dX12_isAhead_90 rfl ?_
            refine x_lload (M := M_X12_isAhead) dX12_isAhead_92 rfl ?_
            refine x_callSR (M := M_X12_isAhead) (M' := M_X12_cross) rfl rfl dX12_isAhead_94 m_X12_cross t_3265 t_3266 (p_X12_cross hl) rfl rfl (Nat.le_of_ble_eq_true rfl) (Nat.le_of_ble_eq_true rfl) (Nat.le_of_ble_eq_true rfl) (Nat.le_of_ble_eq_true rfl) ?_
            refine x_lconst (M := M_X12_isAhead) dX12_isAhead_97 ?_
            refine x_lcmp (M := M_X12_isAhead) dX12_isAhead_98 ?_
            refine x_if_ge (M := M_X12_isAhead) (tgt := 106) dX12_isAhead_99 (by decide) (fun q5 => ?_) (fun q5 => ?_)
            · refine x_iconst (M := M_X12_isAhead) dX12_isAhead_106 ?_
              exact x_zret (M := M_X12_isAhead) dX12_isAhead_107 rfl (Or.inl rfl) ⟨by rw [f_X12_isAhead, if_pos q0, if_neg q1, if_neg q2, if_neg q3, if_pos q4, if_pos q5], rfl⟩ (Nat.le_of_ble_eq_true rfl) (Nat.le_of_ble_eq_true rfl)
            · refine x_iconst (M := M_X12_isAhead) dX12_isAhead_102 ?_
              refine x_goto (M := M_X12_isAhead) (tgt := 107) dX12_isAhead_103 (by decide) ?_
              exact x_zret (M := M_X12_isAhead) dX12_isAhead_107 rfl (Or.inr rfl) ⟨by rw [f_X12_isAhead, if_pos q0, if_neg q1, if_neg q2, if_neg q3, if_pos q4, if_neg q5], rfl⟩ (Nat.le_of_ble_eq_true rfl) (Nat.le_of_ble_eq_true rfl)
    · refine x_iconst (M := M_X12_isAhead) dX12_isAhead_40 ?_
      refine x_goto (M := M_X12_isAhead) (tgt := 45) dX12_isAhead_41 (by decide) ?_
      refine x_istore (M := M_X12_isAhead) dX12_isAhead_45 (by decide) rfl ?_
      refine x_lload (M := M_X12_isAhead) dX12_isAhead_47 rfl ?_
      refine x_lconst (M := M_X12_isAhead) dX12_isAhead_49 ?_
      refine x_lcmp (M := M_X12_isAhead) dX12_isAhead_50 ?_
      refine x_if_ge (M := M_X12_isAhead) (tgt := 58) dX12_isAhead_51 (by decide) (fun q2 => ?_) (fun q2 => ?_)
      · refine x_lload (M := M_X12_isAhead) dX12_isAhead_58 rfl ?_
        refine x_lconst (M := M_X12_isAhead) dX12_isAhead_60 ?_
        refine x_lcmp (M := M_X12_isAhead) dX12_isAhead_61 ?_
        refine x_if_ne (M := M_X12_isAhead) (tgt := 69) dX12_isAhead_62 (by decide) (fun q3 => ?_) (fun q3 => ?_)
        · refine x_iconst (M := M_X12_isAhead) dX12_isAhead_69 ?_
          refine x_istore (M := M_X12_isAhead) dX12_isAhead_70 (by decide) rfl ?_
          refine x_iload (M := M_X12_isAhead) dX12_isAhead_72 rfl ?_
          refine x_iload (M := M_X12_isAhead) dX12_isAhead_74 rfl ?_
          refine x_icmp_lt (M := M_X12_isAhead) (tgt := 102) dX12_isAhead_76 (by decide) (fun q4 => ?_) (fun q4 => ?_)
          · refine x_iconst (M := M_X12_isAhead) dX12_isAhead_102 ?_
            refine x_goto (M := M_X12_isAhead) (tgt := 107) dX12_isAhead_103 (by decide) ?_
            exact x_zret (M := M_X12_isAhead) dX12_isAhead_107 rfl (Or.inr rfl) ⟨by rw [f_X12_isAhead, if_pos q0, if_pos q1, if_pos q2, if_neg q3, if_pos q4], rfl⟩ (Nat.le_of_ble_eq_true rfl) (Nat.le_of_ble_eq_true rfl)
          · refine x_iload (M := M_X12_isAhead) dX12_isAhead_79 rfl ?_
            refine x_iload (M := M_X12_isAhead) dX12_isAhead_81 rfl ?_
            refine x_icmp_ne (M := M_X12_isAhead) (tgt := 106) dX12_isAhead_83 (by decide) (fun q5 => ?_) (fun q5 => ?_)
            · refine x_iconst (M := M_X12_isAhead) dX12_isAhead_106 ?_
              exact x_zret (M := M_X12_isAhead) dX12_isAhead_107 rfl (Or.inl rfl) ⟨by rw [f_X12_isAhead, if_pos q0, if_pos q1, if_pos q2, if_neg q3, if_neg q4, if_neg q5], rfl⟩ (Nat.le_of_ble_eq_true rfl) (Nat.le_of_ble_eq_true rfl)
            · refine x_lload (M := M_X12_isAhead) dX12_isAhead_86 rfl ?_
              refine x_lload (M := M_X12_isAhead) dX12_isAhead_88 rfl ?_
              refine x_lload (M := M_X12_isAhead) dX12_isAhead_90 rfl ?_
              refine x_lload (M := M_X12_isAhead) dX12_isAhead_92 rfl ?_
              refine x_callSR (M := M_X12_isAhead) (M' := M_X12_cross) rfl rfl dX12_isAhead_94 m_X12_cross t_3265 t_3266 (p_X12_cross hl) rfl rfl (Nat.le_of_ble_eq_true rfl) (Nat.le_of_ble_eq_true rfl) (Nat.le_of_ble_eq_true rfl) (Nat.le_of_ble_eq_true rfl) ?_
              refine x_lconst (M := M_X12_isAhead) dX12_isAhead_97 ?_
              refine x_lcmp (M := M_X12_isAhead) dX12_isAhead_98 ?_
              refine x_if_ge (M := M_X12_isAhead) (tgt := 106) dX12_isAhead_99 (by decide) (fun q6 => ?_) (fun q6 => ?_)
              · refine x_iconst (M := M_X12_isAhead) dX12_isAhead_106 ?_
                exact x_zret (M := M_X12_isAhead) dX12_isAhead_107 rfl (Or.inl rfl) ⟨by rw [f_X12_isAhead, if_pos q0, if_pos q1, if_pos q2, if_neg q3, if_neg q4, if_pos q5, if_pos q6], rfl⟩ (Nat.le_of_ble_eq_true rfl) (Nat.le_of_ble_eq_true rfl)
              · refine x_iconst (M := M_X12_isAhead) dX12_isAhead_102 ?_
                refine x_goto (M := M_X12_isAhead) (tgt := 107) dX12_isAhead_103 (by decide) ?_
                exact x_zret (M := M_X12_isAhead) dX12_isAhead_107 rfl (Or.inr rfl) ⟨by rw [f_X12_isAhead, if_pos q0, if_pos q1, if_pos q2, if_neg q3, if_neg q4, if_pos q5, if_neg q6], rfl⟩ (Nat.le_of_ble_eq_true rfl) (Nat.le_of_ble_eq_true rfl)
        · refine x_iconst (M := M_X12_isAhead) dX12_isAhead_65 ?_
          refine x_goto (M := M_X12_isAhead) (tgt := 70) dX12_isAhead_66 (by decide) ?_
          refine x_istore (M := M_X12_isAhead) dX12_isAhead_70 (by decide) rfl ?_
          refine x_iload (M := M_X12_isAhead) dX12_isAhead_72 rfl ?_
          refine x_iload (M := M_X12_isAhead) dX12_isAhead_74 rfl ?_
          refine x_icmp_lt (M := M_X12_isAhead) (tgt := 102) dX12_isAhead_76 (by decide) (fun q4 => ?_) (fun q4 => ?_)
          · refine x_iconst (M := M_X12_isAhead) dX12_isAhead_102 ?_
            refine x_goto (M := M_X12_isAhead) (tgt := 107) dX12_isAhead_103 (by decide) ?_
            exact x_zret (M := M_X12_isAhead) dX12_isAhead_107 rfl (Or.inr rfl) ⟨by rw [f_X12_isAhead, if_pos q0, if_pos q1, if_pos q2, if_pos q3, if_pos q4], rfl⟩ (Nat.le_of_ble_eq_true rfl) (Nat.le_of_ble_eq_true rfl)
          · refine x_iload (M := M_X12_isAhead) dX12_isAhead_79 rfl ?_
            refine x_iload (M := M_X12_isAhead) dX12_isAhead_81 rfl ?_
            refine x_icmp_ne (M := M_X12_isAhead) (tgt := 106) dX12_isAhead_83 (by decide) (fun q5 => ?_) (fun q5 => ?_)
            · refine x_iconst (M := M_X12_isAhead) dX12_isAhead_106 ?_
              exact x_zret (M := M_X12_isAhead) dX12_isAhead_107 rfl (Or.inl rfl) ⟨by rw [f_X12_isAhead, if_pos q0, if_pos q1, if_pos q2, if_pos q3, if_neg q4, if_neg q5], rfl⟩ (Nat.le_of_ble_eq_true rfl) (Nat.le_of_ble_eq_true rfl)
            · refine x_lload (M := M_X12_isAhead) dX12_isAhead_86 rfl ?_
              refine x_lload (M := M_X12_isAhead) dX12_isAhead_88 rfl ?_
              refine x_lload (M := M_X12_isAhead) dX12_isAhead_90 rfl ?_
              refine x_lload (M := M_X12_isAhead) dX12_isAhead_92 rfl ?_
              refine x_callSR (M := M_X12_isAhead) (M' := M_X12_cross) rfl rfl dX12_isAhead_94 m_X12_cross t_3265 t_3266 (p_X12_cross hl) rfl rfl (Nat.le_of_ble_eq_true rfl) (Nat.le_of_ble_eq_true rfl) (Nat.le_of_ble_eq_true rfl) (Nat.le_of_ble_eq_true rfl) ?_
              refine x_lconst (M := M_X12_isAhead) dX12_isAhead_97 ?_
              refine x_lcmp (M := M_X12_isAhead) dX12_isAhead_98 ?_
              refine x_if_ge (M := M_X12_isAhead) (tgt := 106) dX12_isAhead_99 (by decide) (fun q6 => ?_) (fun q6 => ?_)
              · refine x_iconst (M := M_X12_isAhead) dX12_isAhead_106 ?_
                exact x_zret (M := M_X12_isAhead) dX12_isAhead_107 rfl (Or.inl rfl) ⟨by rw [f_X12_isAhead, if_pos q0, if_pos q1, if_pos q2, if_pos q3, if_neg q4, if_pos q5, if_pos q6], rfl⟩ (Nat.le_of_ble_eq_true rfl) (Nat.le_of_ble_eq_true rfl)
              · refine x_iconst (M := M_X12_isAhead) dX12_isAhead_102 ?_
                refine x_goto (M := M_X12_isAhead) (tgt := 107) dX12_isAhead_103 (by decide) ?_
                exact x_zret (M := M_X12_isAhead) dX12_isAhead_107 rfl (Or.inr rfl) ⟨by rw [f_X12_isAhead, if_pos q0, if_pos q1, if_pos q2, if_pos q3, if_neg q4, if_pos q5, if_neg q6], rfl⟩ (Nat.le_of_ble_eq_true rfl) (Nat.le_of_ble_eq_true rfl)
      · refine x_iconst (M := M_X12_isAhead) dX12_isAhead_54 ?_
        refine x_goto (M := M_X12_isAhead) (tgt := 70) dX12_isAhead_55 (by decide) ?_
        refine x_istore (M := M_X12_isAhead) dX12_isAhead_70 (by decide) rfl ?_
        refine x_iload (M := M_X12_isAhead) dX12_isAhead_72 rfl ?_
        refine x_iload (M := M_X12_isAhead) dX12_isAhead_74 rfl ?_
        refine x_icmp_lt (M := M_X12_isAhead) (tgt := 102) dX12_isAhead_76 (by decide) (fun q3 => ?_) (fun q3 => ?_)
        · refine x_iconst (M := M_X12_isAhead) dX12_isAhead_102 ?_
          refine x_goto (M := M_X12_isAhead) (tgt := 107) dX12_isAhead_103 (by decide) ?_
          exact x_zret (M := M_X12_isAhead) dX12_isAhead_107 rfl (Or.inr rfl) ⟨by rw [f_X12_isAhead, if_pos q0, if_pos q1, if_neg q2, if_pos q3], rfl⟩ (Nat.le_of_ble_eq_true rfl) (Nat.le_of_ble_eq_true rfl)
        · refine x_iload (M := M_X12_isAhead) dX12_isAhead_79 rfl ?_
          refine x_iload (M := M_X12_isAhead) dX12_isAhead_81 rfl ?_
          refine x_icmp_ne (M := M_X12_isAhead) (tgt := 106) dX12_isAhead_83 (by decide) (fun q4 => ?_) (fun q4 => ?_)
          · refine x_iconst (M := M_X12_isAhead) dX12_isAhead_106 ?_
            exact x_zret (M := M_X12_isAhead) dX12_isAhead_107 rfl (Or.inl rfl) ⟨by rw [f_X12_isAhead, if_pos q0, if_pos q1, if_neg q2, if_neg q3, if_neg q4], rfl⟩ (Nat.le_of_ble_eq_true rfl) (Nat.le_of_ble_eq_true rfl)
          · refine x_lload (M := M_X12_isAhead) dX12_isAhead_86 rfl ?_
            refine x_lload (M := M_X12_isAhead) dX12_isAhead_88 rfl ?_
            refine x_lload (M := M_X12_isAhead) dX12_isAhead_90 rfl ?_
            refine x_lload (M := M_X12_isAhead) dX12_isAhead_92 rfl ?_
            refine x_callSR (M := M_X12_isAhead) (M' := M_X12_cross) rfl rfl dX12_isAhead_94 m_X12_cross t_3265 t_3266 (p_X12_cross hl) rfl rfl (Nat.le_of_ble_eq_true rfl) (Nat.le_of_ble_eq_true rfl) (Nat.le_of_ble_eq_true rfl) (Nat.le_of_ble_eq_true rfl) ?_
            refine x_lconst (M := M_X12_isAhead) dX12_isAhead_97 ?_
            refine x_lcmp (M := M_X12_isAhead) dX12_isAhead_98 ?_
            refine x_if_ge (M := M_X12_isAhead) (tgt := 106) dX12_isAhead_99 (by decide) (fun q5 => ?_) (fun q5 => ?_)
            · refine x_iconst (M := M_X12_isAhead) dX12_isAhead_106 ?_
              exact x_zret (M := M_X12_isAhead) dX12_isAhead_107 rfl (Or.inl rfl) ⟨by rw [f_X12_isAhead, if_pos q0, if_pos q1, if_neg q2, if_neg q3, if_pos q4, if_pos q5], rfl⟩ (Nat.le_of_ble_eq_true rfl) (Nat.le_of_ble_eq_true rfl)
            · refine x_iconst (M := M_X12_isAhead) dX12_isAhead_102 ?_
              refine x_goto (M := M_X12_isAhead) (tgt := 107) dX12_isAhead_103 (by decide) ?_
              exact x_zret (M := M_X12_isAhead) dX12_isAhead_107 rfl (Or.inr rfl) ⟨by rw [f_X12_isAhead, if_pos q0, if_pos q1, if_neg q2, if_neg q3, if_pos q4, if_neg q5], rfl⟩ (Nat.le_of_ble_eq_true rfl) (Nat.le_of_ble_eq_true rfl)
  · refine x_iconst (M := M_X12_isAhead) dX12_isAhead_29 ?_
    refine x_goto (M := M_X12_isAhead) (tgt := 45) dX12_isAhead_30 (by decide) ?_
    refine x_istore (M := M_X12_isAhead) dX12_isAhead_45 (by decide) rfl ?_
    refine x_lload (M := M_X12_isAhead) dX12_isAhead_47 rfl ?_
    refine x_lconst (M := M_X12_isAhead) dX12_isAhead_49 ?_
    refine x_lcmp (M := M_X12_isAhead) dX12_isAhead_50 ?_
    refine x_if_ge (M := M_X12_isAhead) (tgt := 58) dX12_isAhead_51 (by decide) (fun q1 => ?_) (fun q1 => ?_)
    · refine x_lload (M := M_X12_isAhead) dX12_isAhead_58 rfl ?_
      refine x_lconst (M := M_X12_isAhead) dX12_isAhead_60 ?_
      refine x_lcmp (M := M_X12_isAhead) dX12_isAhead_61 ?_
      refine x_if_ne (M := M_X12_isAhead) (tgt := 69) dX12_isAhead_62 (by decide) (fun q2 => ?_) (fun q2 => ?_)
      · refine x_iconst (M := M_X12_isAhead) dX12_isAhead_69 ?_
        refine x_istore (M := M_X12_isAhead) dX12_isAhead_70 (by decide) rfl ?_
        refine x_iload (M := M_X12_isAhead) dX12_isAhead_72 rfl ?_
        refine x_iload (M := M_X12_isAhead) dX12_isAhead_74 rfl ?_
        refine x_icmp_lt (M := M_X12_isAhead) (tgt := 102) dX12_isAhead_76 (by decide) (fun q3 => ?_) (fun q3 => ?_)
        · refine x_iconst (M := M_X12_isAhead) dX12_isAhead_102 ?_
          refine x_goto (M := M_X12_isAhead) (tgt := 107) dX12_isAhead_103 (by decide) ?_
          exact x_zret (M := M_X12_isAhead) dX12_isAhead_107 rfl (Or.inr rfl) ⟨by rw [f_X12_isAhead, if_neg q0, if_pos q1, if_neg q2, if_pos q3], rfl⟩ (Nat.le_of_ble_eq_true rfl) (Nat.le_of_ble_eq_true rfl)
        · refine x_iload (M := M_X12_isAhead) dX12_isAhead_79 rfl ?_
          refine x_iload (M := M_X12_isAhead) dX12_isAhead_81 rfl ?_
          refine x_icmp_ne (M := M_X12_isAhead) (tgt := 106) dX12_isAhead_83 (by decide) (fun q4 => ?_) (fun q4 => ?_)
          · refine x_iconst (M := M_X12_isAhead) dX12_isAhead_106 ?_
            exact x_zret (M := M_X12_isAhead) dX12_isAhead_107 rfl (Or.inl rfl) ⟨by rw [f_X12_isAhead, if_neg q0, if_pos q1, if_neg q2, if_neg q3, if_neg q4], rfl⟩ (Nat.le_of_ble_eq_true rfl) (Nat.le_of_ble_eq_true rfl)
          · refine x_lload (M := M_X12_isAhead) dX12_isAhead_86 rfl ?_
            refine x_lload (M := M_X12_isAhead) dX12_isAhead_88 rfl ?_
            refine x_lload (M := M_X12_isAhead) dX12_isAhead_90 rfl ?_
            refine x_lload (M := M_X12_isAhead) dX12_isAhead_92 rfl ?_
            refine x_callSR (M := M_X12_isAhead) (M' := M_X12_cross) rfl rfl dX12_isAhead_94 m_X12_cross t_3265 t_3266 (p_X12_cross hl) rfl rfl (Nat.le_of_ble_eq_true rfl) (Nat.le_of_ble_eq_true rfl) (Nat.le_of_ble_eq_true rfl) (Nat.le_of_ble_eq_true rfl) ?_
            refine x_lconst (M := M_X12_isAhead) dX12_isAhead_97 ?_
            refine x_lcmp (M := M_X12_isAhead) dX12_isAhead_98 ?_
            refine x_if_ge (M := M_X12_isAhead) (tgt := 106) dX12_isAhead_99 (by decide) (fun q5 => ?_) (fun q5 => ?_)
            · refine x_iconst (M := M_X12_isAhead) dX12_isAhead_106 ?_
              exact x_zret (M := M_X12_isAhead) dX12_isAhead_107 rfl (Or.inl rfl) ⟨by rw [f_X12_isAhead, if_neg q0, if_pos q1, if_neg q2, if_neg q3, if_pos q4, if_pos q5], rfl⟩ (Nat.le_of_ble_eq_true rfl) (Nat.le_of_ble_eq_true rfl)
            · refine x_iconst (M := M_X12_isAhead) dX12_isAhead_102 ?_
              refine x_goto (M := M_X12_isAhead) (tgt := 107) dX12_isAhead_103 (by decide) ?_
              exact x_zret (M := M_X12_isAhead) dX12_isAhead_107 rfl (Or.inr rfl) ⟨by rw [f_X12_isAhead, if_neg q0, if_pos q1, if_neg q2, if_neg q3, if_pos q4, if_neg q5], rfl⟩ (Nat.le_of_ble_eq_true rfl) (Nat.le_of_ble_eq_true rfl)
      · refine x_iconst (M := M_X12_isAhead) dX12_isAhead_65 ?_
        refine x_goto (M := M_X12_isAhead) (tgt := 70) dX12_isAhead_66 (by decide) ?_
        refine x_istore (M := M_X12_isAhead) dX12_isAhead_70 (by decide) rfl ?_
        refine x_iload (M := M_X12_isAhead) dX12_isAhead_72 rfl ?_
        refine x_iload (M := M_X12_isAhead) dX12_isAhead_74 rfl ?_
        refine x_icmp_lt (M := M_X12_isAhead) (tgt := 102) dX12_isAhead_76 (by decide) (fun q3 => ?_) (fun q3 => ?_)
        · refine x_iconst (M := M_X12_isAhead) dX12_isAhead_102 ?_
          refine x_goto (M := M_X12_isAhead) (tgt := 107) dX12_isAhead_103 (by decide) ?_
          exact x_zret (M := M_X12_isAhead) dX12_isAhead_107 rfl (Or.inr rfl) ⟨by rw [f_X12_isAhead, if_neg q0, if_pos q1, if_pos q2, if_pos q3], rfl⟩ (Nat.le_of_ble_eq_true rfl) (Nat.le_of_ble_eq_true rfl)
        · refine x_iload (M := M_X12_isAhead) dX12_isAhead_79 rfl ?_
          refine x_iload (M := M_X12_isAhead) dX12_isAhead_81 rfl ?_
          refine x_icmp_ne (M := M_X12_isAhead) (tgt := 106) dX12_isAhead_83 (by decide) (fun q4 => ?_) (fun q4 => ?_)
          · refine x_iconst (M := M_X12_isAhead) dX12_isAhead_106 ?_
            exact x_zret (M := M_X12_isAhead) dX12_isAhead_107 rfl (Or.inl rfl) ⟨by rw [f_X12_isAhead, if_neg q0, if_pos q1, if_pos q2, if_neg q3, if_neg q4], rfl⟩ (Nat.le_of_ble_eq_true rfl) (Nat.le_of_ble_eq_true rfl)
          · refine x_lload (M := M_X12_isAhead) dX12_isAhead_86 rfl ?_
            refine x_lload (M := M_X12_isAhead) dX12_isAhead_88 rfl ?_
            refine x_lload (M := M_X12_isAhead) dX12_isAhead_90 rfl ?_
            refine x_lload (M := M_X12_isAhead) dX12_isAhead_92 rfl ?_
            refine x_callSR (M := M_X12_isAhead) (M' := M_X12_cross) rfl rfl dX12_isAhead_94 m_X12_cross t_3265 t_3266 (p_X12_cross hl) rfl rfl (Nat.le_of_ble_eq_true rfl) (Nat.le_of_ble_eq_true rfl) (Nat.le_of_ble_eq_true rfl) (Nat.le_of_ble_eq_true rfl) ?_
            refine x_lconst (M := M_X12_isAhead) dX12_isAhead_97 ?_
            refine x_lcmp (M := M_X12_isAhead) dX12_isAhead_98 ?_
            refine x_if_ge (M := M_X12_isAhead) (tgt := 106) dX12_isAhead_99 (by decide) (fun q5 => ?_) (fun q5 => ?_)
            · refine x_iconst (M := M_X12_isAhead) dX12_isAhead_106 ?_
              exact x_zret (M := M_X12_isAhead) dX12_isAhead_107 rfl (Or.inl rfl) ⟨by rw [f_X12_isAhead, if_neg q0, if_pos q1, if_pos q2, if_neg q3, if_pos q4, if_pos q5], rfl⟩ (Nat.le_of_ble_eq_true rfl) (Nat.le_of_ble_eq_true rfl)
            · refine x_iconst (M := M_X12_isAhead) dX12_isAhead_102 ?_
              refine x_goto (M := M_X12_isAhead) (tgt := 107) dX12_isAhead_103 (by decide) ?_
              exact x_zret (M := M_X12_isAhead) dX12_isAhead_107 rfl (Or.inr rfl) ⟨by rw [f_X12_isAhead, if_neg q0, if_pos q1, if_pos q2, if_neg q3, if_pos q4, if_neg q5], rfl⟩ (Nat.le_of_ble_eq_true rfl) (Nat.le_of_ble_eq_true rfl)
    · refine x_iconst (M := M_X12_isAhead) dX12_isAhead_54 ?_
      refine x_goto (M := M_X12_isAhead) (tgt := 70) dX12_isAhead_55 (by decide) ?_
      refine x_istore (M := M_X12_isAhead) dX12_isAhead_70 (by decide) rfl ?_
      refine x_iload (M := M_X12_isAhead) dX12_isAhead_72 rfl ?_
      refine x_iload (M := M_X12_isAhead) dX12_isAhead_74 rfl ?_
      refine x_icmp_lt (M := M_X12_isAhead) (tgt := 102) dX12_isAhead_76 (by decide) (fun q2 => ?_) (fun q2 => ?_)
      · refine x_iconst (M := M_X12_isAhead) dX12_isAhead_102 ?_
        refine x_goto (M := M_X12_isAhead) (tgt := 107) dX12_isAhead_103 (by decide) ?_
        exact x_zret (M := M_X12_isAhead) dX12_isAhead_107 rfl (Or.inr rfl) ⟨by rw [f_X12_isAhead, if_neg q0, if_neg q1, if_pos q2], rfl⟩ (Nat.le_of_ble_eq_true rfl) (Nat.le_of_ble_eq_true rfl)
      · refine x_iload (M := M_X12_isAhead) dX12_isAhead_79 rfl ?_
        refine x_iload (M := M_X12_isAhead) dX12_isAhead_81 rfl ?_
        refine x_icmp_ne (M := M_X12_isAhead) (tgt := 106) dX12_isAhead_83 (by decide) (fun q3 => ?_) (fun q3 => ?_)
        · refine x_iconst (M := M_X12_isAhead) dX12_isAhead_106 ?_
          exact x_zret (M := M_X12_isAhead) dX12_isAhead_107 rfl (Or.inl rfl) ⟨by rw [f_X12_isAhead, if_neg q0, if_neg q1, if_neg q2, if_neg q3], rfl⟩ (Nat.le_of_ble_eq_true rfl) (Nat.le_of_ble_eq_true rfl)
        · refine x_lload (M := M_X12_isAhead) dX12_isAhead_86 rfl ?_
          refine x_lload (M := M_X12_isAhead) dX12_isAhead_88 rfl ?_
          refine x_lload (M := M_X12_isAhead) dX12_isAhead_90 rfl ?_
          refine x_lload (M := M_X12_isAhead) dX12_isAhead_92 rfl ?_
          refine x_callSR (M := M_X12_isAhead) (M' := M_X12_cross) rfl rfl dX12_isAhead_94 m_X12_cross t_3265 t_3266 (p_X12_cross hl) rfl rfl (Nat.le_of_ble_eq_true rfl) (Nat.le_of_ble_eq_true rfl) (Nat.le_of_ble_eq_true rfl) (Nat.le_of_ble_eq_true rfl) ?_
          refine x_lconst (M := M_X12_isAhead) dX12_isAhead_97 ?_
          refine x_lcmp (M := M_X12_isAhead) dX12_isAhead_98 ?_
          refine x_if_ge (M := M_X12_isAhead) (tgt := 106) dX12_isAhead_99 (by decide) (fun q4 => ?_) (fun q4 => ?_)
          · refine x_iconst (M := M_X12_isAhead) dX12_isAhead_106 ?_
            exact x_zret (M := M_X12_isAhead) dX12_isAhead_107 rfl (Or.inl rfl) ⟨by rw [f_X12_isAhead, if_neg q0, if_neg q1, if_neg q2, if_pos q3, if_pos q4], rfl⟩ (Nat.le_of_ble_eq_true rfl) (Nat.le_of_ble_eq_true rfl)
          · refine x_iconst (M := M_X12_isAhead) dX12_isAhead_102 ?_
            refine x_goto (M := M_X12_isAhead) (tgt := 107) dX12_isAhead_103 (by decide) ?_
            exact x_zret (M := M_X12_isAhead) dX12_isAhead_107 rfl (Or.inr rfl) ⟨by rw [f_X12_isAhead, if_neg q0, if_neg q1, if_neg q2, if_pos q3, if_neg q4], rfl⟩ (Nat.le_of_ble_eq_true rfl) (Nat.le_of_ble_eq_true rfl)
def f_X12_typeOfKind (w0 : Int32) : Int32 := if w0 = (Int8.ofInt 7).toInt32 then (Int32.ofInt (-1)) else (((w0 - (Int32.ofInt 1)) - (w0 - (Int32.ofInt 1)) / (Int32.ofInt 3) * (Int32.ofInt 3)))
theorem p_X12_typeOfKind {l : Launch} {E : EE} (hl : l.stackTraces = false) {h : HP} {w0 : Int32} : en_C l E M_X12_typeOfKind 0 0 0 [.int w0] h (pR (some (.int (f_X12_typeOfKind w0))) h) := by
  refine en_mk m_X12_typeOfKind rfl hl (Nat.le_of_ble_eq_true rfl) ?_
  refine x_iload_n (M := M_X12_typeOfKind) dX12_typeOfKind_0 rfl ?_
  refine x_bipush (M := M_X12_typeOfKind) dX12_typeOfKind_1 ?_
  refine x_icmp_ne (M := M_X12_typeOfKind) (tgt := 10) dX12_typeOfKind_3 (by decide) (fun q0 => ?_) (fun q0 => ?_)
  · refine x_iload_n (M := M_X12_typeOfKind) dX12_typeOfKind_10 rfl ?_
    refine x_iconst (M := M_X12_typeOfKind) dX12_typeOfKind_11 ?_
    refine x_isub (M := M_X12_typeOfKind) dX12_typeOfKind_12 ?_
    refine x_iconst (M := M_X12_typeOfKind) dX12_typeOfKind_13 ?_
    refine x_irem (M := M_X12_typeOfKind) dX12_typeOfKind_14 (by decide +kernel) ?_
    exact x_iret (M := M_X12_typeOfKind) dX12_typeOfKind_15 rfl ⟨by rw [f_X12_typeOfKind, if_neg q0], rfl⟩ (Nat.le_of_ble_eq_true rfl) (Nat.le_of_ble_eq_true rfl)
  · refine x_iconst (M := M_X12_typeOfKind) dX12_typeOfKind_6 ?_
    refine x_goto (M := M_X12_typeOfKind) (tgt := 15) dX12_typeOfKind_7 (by decide) ?_
    exact x_iret (M := M_X12_typeOfKind) dX12_typeOfKind_15 rfl ⟨by rw [f_X12_typeOfKind, if_pos q0], rfl⟩ (Nat.le_of_ble_eq_true rfl) (Nat.le_of_ble_eq_true rfl)
def f_X2_triangleKey (w0 : Int64) (w1 : Int64) (w2 : Int64) : Int64 := if 0 ≤ (lg_cmp w1 w0) then if 0 ≤ (lg_cmp w2 w0) then (f_X2_triangleKeyFrom w0 w1 w2) else (if 0 ≤ (lg_cmp w2 w1) then (f_X2_triangleKeyFrom w0 w1 w2) else ((f_X2_triangleKeyFrom w2 w0 w1))) else (if 0 ≤ (lg_cmp w1 w2) then if 0 ≤ (lg_cmp w2 w0) then (f_X2_triangleKeyFrom w0 w1 w2) else (if 0 ≤ (lg_cmp w2 w1) then (f_X2_triangleKeyFrom w0 w1 w2) else ((f_X2_triangleKeyFrom w2 w0 w1))) else ((f_X2_triangleKeyFrom w1 w2 w0)))
theorem p_X2_triangleKey {l : Launch} {E : EE} (hl : l.stackTraces = false) {h : HP} {w0 : Int64} {w1 : Int64} {w2 : Int64} : en_C l E M_X2_triangleKey 1 0 0 [.long w0, .long w1, .long w2] h (pR (some (.long (f_X2_triangleKey w0 w1 w2))) h) := by
  refine en_mk m_X2_triangleKey rfl hl (Nat.le_of_ble_eq_true rfl) ?_
  refine x_lload_n (M := M_X2_triangleKey) dX2_triangleKey_0 rfl ?_
  refine x_lload_n (M := M_X2_triangleKey) dX2_triangleKey_1 rfl ?_
  refine x_lcmp (M := M_X2_triangleKey) dX2_triangleKey_2 ?_
  refine x_if_ge (M := M_X2_triangleKey) (tgt := 21) dX2_triangleKey_3 (by decide) (fun q0 => ?_) (fun q0 => ?_)
  · refine x_lload (M := M_X2_triangleKey) dX2_triangleKey_21 rfl ?_
    refine x_lload_n (M := M_X2_triangleKey) dX2_triangleKey_23 rfl ?_
    refine x_lcmp (M := M_X2_triangleKey) dX2_triangleKey_24 ?_
    refine x_if_ge (M := M_X2_triangleKey) (tgt := 45) dX2_triangleKey_25 (by decide) (fun q1 => ?_) (fun q1 => ?_)
    · refine x_lload_n (M := M_X2_triangleKey) dX2_triangleKey_45 rfl ?_
      refine x_lload_n (M := M_X2_triangleKey) dX2_triangleKey_46 rfl ?_
      refine x_lload (M := M_X2_triangleKey) dX2_triangleKey_47 rfl ?_
      refine x_callSR (M := M_X2_triangleKey) (M' := M_X2_triangleKeyFrom) rfl rfl dX2_triangleKey_49 m_X2_triangleKeyFrom t_2177 t_2178 (p_X2_triangleKeyFrom hl) rfl rfl (Nat.le_of_ble_eq_true rfl) (Nat.le_of_ble_eq_true rfl) (Nat.le_of_ble_eq_true rfl) (Nat.le_of_ble_eq_true rfl) ?_
      exact x_lret (M := M_X2_triangleKey) dX2_triangleKey_52 rfl ⟨by rw [f_X2_triangleKey, if_pos q0, if_pos q1], rfl⟩ (Nat.le_of_ble_eq_true rfl) (Nat.le_of_ble_eq_true rfl)
    · refine x_lload (M := M_X2_triangleKey) dX2_triangleKey_28 rfl ?_
      refine x_lload_n (M := M_X2_triangleKey) dX2_triangleKey_30 rfl ?_
      refine x_lcmp (M := M_X2_triangleKey) dX2_triangleKey_31 ?_
      refine x_if_ge (M := M_X2_triangleKey) (tgt := 45) dX2_triangleKey_32 (by decide) (fun q2 => ?_) (fun q2 => ?_)
      · refine x_lload_n (M := M_X2_triangleKey) dX2_triangleKey_45 rfl ?_
        refine x_lload_n (M := M_X2_triangleKey) dX2_triangleKey_46 rfl ?_
        refine x_lload (M := M_X2_triangleKey) dX2_triangleKey_47 rfl ?_
        refine x_callSR (M := M_X2_triangleKey) (M' := M_X2_triangleKeyFrom) rfl rfl dX2_triangleKey_49 m_X2_triangleKeyFrom t_2177 t_2178 (p_X2_triangleKeyFrom hl) rfl rfl (Nat.le_of_ble_eq_true rfl) (Nat.le_of_ble_eq_true rfl) (Nat.le_of_ble_eq_true rfl) (Nat.le_of_ble_eq_true rfl) ?_
        exact x_lret (M := M_X2_triangleKey) dX2_triangleKey_52 rfl ⟨by rw [f_X2_triangleKey, if_pos q0, if_neg q1, if_pos q2], rfl⟩ (Nat.le_of_ble_eq_true rfl) (Nat.le_of_ble_eq_true rfl)
      · refine x_lload (M := M_X2_triangleKey) dX2_triangleKey_35 rfl ?_
        refine x_lload_n (M := M_X2_triangleKey) dX2_triangleKey_37 rfl ?_
        refine x_lload_n (M := M_X2_triangleKey) dX2_triangleKey_38 rfl ?_
        refine x_callSR (M := M_X2_triangleKey) (M' := M_X2_triangleKeyFrom) rfl rfl dX2_triangleKey_39 m_X2_triangleKeyFrom t_2177 t_2178 (p_X2_triangleKeyFrom hl) rfl rfl (Nat.le_of_ble_eq_true rfl) (Nat.le_of_ble_eq_true rfl) (Nat.le_of_ble_eq_true rfl) (Nat.le_of_ble_eq_true rfl) ?_
        refine x_goto (M := M_X2_triangleKey) (tgt := 52) dX2_triangleKey_42 (by decide) ?_
        exact x_lret (M := M_X2_triangleKey) dX2_triangleKey_52 rfl ⟨by rw [f_X2_triangleKey, if_pos q0, if_neg q1, if_neg q2], rfl⟩ (Nat.le_of_ble_eq_true rfl) (Nat.le_of_ble_eq_true rfl)
  · refine x_lload_n (M := M_X2_triangleKey) dX2_triangleKey_6 rfl ?_
    refine x_lload (M := M_X2_triangleKey) dX2_triangleKey_7 rfl ?_
    refine x_lcmp (M := M_X2_triangleKey) dX2_triangleKey_9 ?_
    refine x_if_ge (M := M_X2_triangleKey) (tgt := 21) dX2_triangleKey_10 (by decide) (fun q1 => ?_) (fun q1 => ?_)
    · refine x_lload (M := M_X2_triangleKey) dX2_triangleKey_21 rfl ?_
      refine x_lload_n (M := M_X2_triangleKey) dX2_triangleKey_23 rfl ?_
      refine x_lcmp (M := M_X2_triangleKey) dX2_triangleKey_24 ?_
      refine x_if_ge (M := M_X2_triangleKey) (tgt := 45) dX2_triangleKey_25 (by decide) (fun q2 => ?_) (fun q2 => ?_)
      · refine x_lload_n (M := M_X2_triangleKey) dX2_triangleKey_45 rfl ?_
        refine x_lload_n (M := M_X2_triangleKey) dX2_triangleKey_46 rfl ?_
        refine x_lload (M := M_X2_triangleKey) dX2_triangleKey_47 rfl ?_
        refine x_callSR (M := M_X2_triangleKey) (M' := M_X2_triangleKeyFrom) rfl rfl dX2_triangleKey_49 m_X2_triangleKeyFrom t_2177 t_2178 (p_X2_triangleKeyFrom hl) rfl rfl (Nat.le_of_ble_eq_true rfl) (Nat.le_of_ble_eq_true rfl) (Nat.le_of_ble_eq_true rfl) (Nat.le_of_ble_eq_true rfl) ?_
        exact x_lret (M := M_X2_triangleKey) dX2_triangleKey_52 rfl ⟨by rw [f_X2_triangleKey, if_neg q0, if_pos q1, if_pos q2], rfl⟩ (Nat.le_of_ble_eq_true rfl) (Nat.le_of_ble_eq_true rfl)
      · refine x_lload (M := M_X2_triangleKey) dX2_triangleKey_28 rfl ?_
        refine x_lload_n (M := M_X2_triangleKey) dX2_triangleKey_30 rfl ?_
        refine x_lcmp (M := M_X2_triangleKey) dX2_triangleKey_31 ?_
        refine x_if_ge (M := M_X2_triangleKey) (tgt := 45) dX2_triangleKey_32 (by decide) (fun q3 => ?_) (fun q3 => ?_)
        · refine x_lload_n (M := M_X2_triangleKey) dX2_triangleKey_45 rfl ?_
          refine x_lload_n (M := M_X2_triangleKey) dX2_triangleKey_46 rfl ?_
          refine x_lload (M := M_X2_triangleKey) dX2_triangleKey_47 rfl ?_
          refine x_callSR (M := M_X2_triangleKey) (M' := M_X2_triangleKeyFrom) rfl rfl dX2_triangleKey_49 m_X2_triangleKeyFrom t_2177 t_2178 (p_X2_triangleKeyFrom hl) rfl rfl (Nat.le_of_ble_eq_true rfl) (Nat.le_of_ble_eq_true rfl) (Nat.le_of_ble_eq_true rfl) (Nat.le_of_ble_eq_true rfl) ?_
          exact x_lret (M := M_X2_triangleKey) dX2_triangleKey_52 rfl ⟨by rw [f_X2_triangleKey, if_neg q0, if_pos q1, if_neg q2, if_pos q3], rfl⟩ (Nat.le_of_ble_eq_true rfl) (Nat.le_of_ble_eq_true rfl)
        · refine x_lload (M := M_X2_triangleKey) dX2_triangleKey_35 rfl ?_
          refine x_lload_n (M := M_X2_triangleKey) dX2_triangleKey_37 rfl ?_
          refine x_lload_n (M := M_X2_triangleKey) dX2_triangleKey_38 rfl ?_
          refine x_callSR (M := M_X2_triangleKey) (M' := M_X2_triangleKeyFrom) rfl rfl dX2_triangleKey_39 m_X2_triangleKeyFrom t_2177 t_2178 (p_X2_triangleKeyFrom hl) rfl rfl (Nat.le_of_ble_eq_true rfl) (Nat.le_of_ble_eq_true rfl) (Nat.le_of_ble_eq_true rfl) (Nat.le_of_ble_eq_true rfl) ?_
          refine x_goto (M := M_X2_triangleKey) (tgt := 52) dX2_triangleKey_42 (by decide) ?_
          exact x_lret (M := M_X2_triangleKey) dX2_triangleKey_52 rfl ⟨by rw [f_X2_triangleKey, if_neg q0, if_pos q1, if_neg q2, if_neg q3], rfl⟩ (Nat.le_of_ble_eq_true rfl) (Nat.le_of_ble_eq_true rfl)
    · refine x_lload_n (M := M_X2_triangleKey) dX2_triangleKey_13 rfl ?_
      refine x_lload (M := M_X2_triangleKey) dX2_triangleKey_14 rfl ?_
      refine x_lload_n (M := M_X2_triangleKey) dX2_triangleKey_16 rfl ?_
      refine x_callSR (M := M_X2_triangleKey) (M' := M_X2_triangleKeyFrom) rfl rfl dX2_triangleKey_17 m_X2_triangleKeyFrom t_2177 t_2178 (p_X2_triangleKeyFrom hl) rfl rfl (Nat.le_of_ble_eq_true rfl) (Nat.le_of_ble_eq_true rfl) (Nat.le_of_ble_eq_true rfl) (Nat.le_of_ble_eq_true rfl) ?_
      exact x_lret (M := M_X2_triangleKey) dX2_triangleKey_20 rfl ⟨by rw [f_X2_triangleKey, if_neg q0, if_neg q1], rfl⟩ (Nat.le_of_ble_eq_true rfl) (Nat.le_of_ble_eq_true rfl)
end PUR
