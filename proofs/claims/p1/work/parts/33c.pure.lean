section PUR
def f_X6_isClosed (c1 : Nat → Int32) (c2 : Nat → Int32) (w0 : Int32) (w1 : Int32) : Int32 := if w1 ≤ 0 then (Int32.ofInt 0) else (if (f_X6_areLike c1 c2 w0 ((w0 + w1) - (Int32.ofInt 1))) = 0 then (Int32.ofInt 0) else ((Int32.ofInt 1)))
theorem b_X6_isClosed (c1 : Nat → Int32) (c2 : Nat → Int32) (w0 : Int32) (w1 : Int32) : f_X6_isClosed c1 c2 w0 w1 = 0 ∨ f_X6_isClosed c1 c2 w0 w1 = 1 := (ite01 (Or.inl rfl) (ite01 (Or.inl rfl) (Or.inr rfl)))
theorem p_X6_isClosed {l : Launch} {E : EE} (hl : l.stackTraces = false) {h : HP} {c1 : Nat → Int32} {c2 : Nat → Int32} {w0 : Int32} {w1 : Int32} {a : Nat} {fs : List Value} (ha : ob h a = some (.inr (9, fs))) {r1 n1 : Nat} (e1 : fs[1]? = some (.ref r1)) (o1 : ob h r1 = some (.inl (0, n1, .inl c1))) {r2 n2 : Nat} (e2 : fs[2]? = some (.ref r2)) (o2 : ob h r2 = some (.inl (0, n2, .inl c2))) (i0 : (¬ w1 ≤ 0) → (vp_in w0 n1)) (i1 : (¬ w1 ≤ 0) → (vp_in ((w0 + w1) - (Int32.ofInt 1)) n1)) (i2 : (¬ w1 ≤ 0) → (((c1 w0.toNatClampNeg) = (c1 ((w0 + w1) - (Int32.ofInt 1)).toNatClampNeg)) → vp_in w0 n2)) (i3 : (¬ w1 ≤ 0) → (((c1 w0.toNatClampNeg) = (c1 ((w0 + w1) - (Int32.ofInt 1)).toNatClampNeg)) → vp_in ((w0 + w1) - (Int32.ofInt 1)) n2)) : en_C l E M_X6_isClosed 1 0 0 [.ref a, .int w0, .int w1] h (pR (some (.int (f_X6_isClosed c1 c2 w0 w1))) h) := by
  refine en_mk m_X6_isClosed rfl hl (Nat.le_of_ble_eq_true rfl) ?_
  refine x_iload_n (M := M_X6_isClosed) dX6_isClosed_0 rfl ?_
  refine x_if_le (M := M_X6_isClosed) (tgt := 21) dX6_isClosed_1 (by decide) (fun q0 => ?_) (fun q0 => ?_)
  · refine x_iconst (M := M_X6_isClosed) dX6_isClosed_21 ?_
    exact x_zret (M := M_X6_isClosed) dX6_isClosed_22 rfl (Or.inl rfl) ⟨by rw [f_X6_isClosed, if_pos q0], rfl⟩ (Nat.le_of_ble_eq_true rfl) (Nat.le_of_ble_eq_true rfl)
  · refine x_aload_n (M := M_X6_isClosed) dX6_isClosed_4 rfl ?_
    refine x_iload_n (M := M_X6_isClosed) dX6_isClosed_5 rfl ?_
    refine x_iload_n (M := M_X6_isClosed) dX6_isClosed_6 rfl ?_
    refine x_iload_n (M := M_X6_isClosed) dX6_isClosed_7 rfl ?_
    refine x_iadd (M := M_X6_isClosed) dX6_isClosed_8 ?_
    refine x_iconst (M := M_X6_isClosed) dX6_isClosed_9 ?_
    refine x_isub (M := M_X6_isClosed) dX6_isClosed_10 ?_
    refine x_callVR (M := M_X6_isClosed) (M' := M_X6_areLike) rfl rfl dX6_isClosed_11 m_X6_areLike t_1205 t_1188 t_1189 (p_X6_areLike hl ha e1 o1 e2 o2 (i0 q0) (i1 q0) (i2 q0) (i3 q0)) rfl rfl ha rfl (Nat.le_of_ble_eq_true rfl) (Nat.le_of_ble_eq_true rfl) (Nat.le_of_ble_eq_true rfl) (Nat.le_of_ble_eq_true rfl) ?_
    refine x_if_eq (M := M_X6_isClosed) (tgt := 21) dX6_isClosed_14 (by decide) (fun q1 => ?_) (fun q1 => ?_)
    · refine x_iconst (M := M_X6_isClosed) dX6_isClosed_21 ?_
      exact x_zret (M := M_X6_isClosed) dX6_isClosed_22 rfl (Or.inl rfl) ⟨by rw [f_X6_isClosed, if_neg q0, if_pos q1], rfl⟩ (Nat.le_of_ble_eq_true rfl) (Nat.le_of_ble_eq_true rfl)
    · refine x_iconst (M := M_X6_isClosed) dX6_isClosed_17 ?_
      refine x_goto (M := M_X6_isClosed) (tgt := 22) dX6_isClosed_18 (by decide) ?_
      exact x_zret (M := M_X6_isClosed) dX6_isClosed_22 rfl (Or.inr rfl) ⟨by rw [f_X6_isClosed, if_neg q0, if_neg q1], rfl⟩ (Nat.le_of_ble_eq_true rfl) (Nat.le_of_ble_eq_true rfl)
def f_X8_meetsPixel (w0 : Int64) (w1 : Int64) (w2 : Int64) (w3 : Int64) : Int32 := if (lg_cmp w0 (Int64.ofNat ((0 : Fin 2) : Nat))) = 0 then (Int32.ofInt 1) else (if (lg_cmp w1 (Int64.ofNat ((0 : Fin 2) : Nat))) = 0 then (Int32.ofInt 1) else (if (lg_cmp w1 (Int64.ofNat ((0 : Fin 2) : Nat))) ≤ 0 then if (lg_cmp ((w2 - (Int64.ofNat ((1 : Fin 2) : Nat))) * w1) ((w3 - (Int64.ofNat ((1 : Fin 2) : Nat))) * w0)) < 0 then (Int32.ofInt 0) else (if (lg_cmp ((w3 + (Int64.ofNat ((1 : Fin 2) : Nat))) * w0) ((w2 + (Int64.ofNat ((1 : Fin 2) : Nat))) * w1)) ≤ 0 then (Int32.ofInt 0) else ((Int32.ofInt 1))) else (if 0 ≤ (lg_cmp ((w2 - (Int64.ofNat ((1 : Fin 2) : Nat))) * w1) ((w3 + (Int64.ofNat ((1 : Fin 2) : Nat))) * w0)) then (Int32.ofInt 0) else (if 0 ≤ (lg_cmp ((w3 - (Int64.ofNat ((1 : Fin 2) : Nat))) * w0) ((w2 + (Int64.ofNat ((1 : Fin 2) : Nat))) * w1)) then (Int32.ofInt 0) else ((Int32.ofInt 1))))))
theorem b_X8_meetsPixel (w0 : Int64) (w1 : Int64) (w2 : Int64) (w3 : Int64) : f_X8_meetsPixel w0 w1 w2 w3 = 0 ∨ f_X8_meetsPixel w0 w1 w2 w3 = 1 := (ite01 (Or.inr rfl) (ite01 (Or.inr rfl) (ite01 (ite01 (Or.inl rfl) (ite01 (Or.inl rfl) (Or.inr rfl))) (ite01 (Or.inl rfl) (ite01 (Or.inl rfl) (Or.inr rfl))))))
theorem p_X8_meetsPixel {l : Launch} {E : EE} (hl : l.stackTraces = false) {h : HP} {w0 : Int64} {w1 : Int64} {w2 : Int64} {w3 : Int64} : en_C l E M_X8_meetsPixel 0 0 0 [.long w0, .long w1, .long w2, .long w3] h (pR (some (.int (f_X8_meetsPixel w0 w1 w2 w3))) h) := by
  refine en_mk m_X8_meetsPixel rfl hl (Nat.le_of_ble_eq_true rfl) ?_
  refine x_lload_n (M := M_X8_meetsPixel) dX8_meetsPixel_0 rfl ?_
  refine x_lconst (M := M_X8_meetsPixel) dX8_meetsPixel_1 ?_
  refine x_lcmp (M := M_X8_meetsPixel) dX8_meetsPixel_2 ?_
  refine x_if_eq (M := M_X8_meetsPixel) (tgt := 12) dX8_meetsPixel_3 (by decide) (fun q0 => ?_) (fun q0 => ?_)
  · refine x_iconst (M := M_X8_meetsPixel) dX8_meetsPixel_12 ?_
    exact x_zret (M := M_X8_meetsPixel) dX8_meetsPixel_13 rfl (Or.inr rfl) ⟨by rw [f_X8_meetsPixel, if_pos q0], rfl⟩ (Nat.le_of_ble_eq_true rfl) (Nat.le_of_ble_eq_true rfl)
  · refine x_lload_n (M := M_X8_meetsPixel) dX8_meetsPixel_6 rfl ?_
    refine x_lconst (M := M_X8_meetsPixel) dX8_meetsPixel_7 ?_
    refine x_lcmp (M := M_X8_meetsPixel) dX8_meetsPixel_8 ?_
    refine x_if_ne (M := M_X8_meetsPixel) (tgt := 14) dX8_meetsPixel_9 (by decide) (fun q1 => ?_) (fun q1 => ?_)
    · refine x_lload_n (M := M_X8_meetsPixel) dX8_meetsPixel_14 rfl ?_
      refine x_lconst (M := M_X8_meetsPixel) dX8_meetsPixel_15 ?_
      refine x_lcmp (M := M_X8_meetsPixel) dX8_meetsPixel_16 ?_
      refine x_if_le (M := M_X8_meetsPixel) (tgt := 58) dX8_meetsPixel_17 (by decide) (fun q2 => ?_) (fun q2 => ?_)
      · refine x_lload (M := M_X8_meetsPixel) dX8_meetsPixel_58 rfl ?_
        refine x_lconst (M := M_X8_meetsPixel) dX8_meetsPixel_60 ?_
        refine x_lsub (M := M_X8_meetsPixel) dX8_meetsPixel_61 ?_
        refine x_lload_n (M := M_X8_meetsPixel) dX8_meetsPixel_62 rfl ?_
        refine x_lmul (M := M_X8_meetsPixel) dX8_meetsPixel_63 ?_
        refine x_lload (M := M_X8_meetsPixel) dX8_meetsPixel_64 rfl ?_
        refine x_lconst (M := M_X8_meetsPixel) dX8_meetsPixel_66 ?_
        refine x_lsub (M := M_X8_meetsPixel) dX8_meetsPixel_67 ?_
        refine x_lload_n (M := M_X8_meetsPixel) dX8_meetsPixel_68 rfl ?_
        refine x_lmul (M := M_X8_meetsPixel) dX8_meetsPixel_69 ?_
        refine x_lcmp (M := M_X8_meetsPixel) dX8_meetsPixel_70 ?_
        refine x_if_lt (M := M_X8_meetsPixel) (tgt := 94) dX8_meetsPixel_71 (by decide) (fun q3 => ?_) (fun q3 => ?_)
        · refine x_iconst (M := M_X8_meetsPixel) dX8_meetsPixel_94 ?_
          exact x_zret (M := M_X8_meetsPixel) dX8_meetsPixel_95 rfl (Or.inl rfl) ⟨by rw [f_X8_meetsPixel, if_neg q0, if_neg q1, if_pos q2, if_pos q3], rfl⟩ (Nat.le_of_ble_eq_true rfl) (Nat.le_of_ble_eq_true rfl)
        · refine x_lload (M := M_X8_meetsPixel) dX8_meetsPixel_74 rfl ?_
          refine x_lconst (M := M_X8_meetsPixel) dX8_meetsPixel_76 ?_
          refine x_ladd (M := M_X8_meetsPixel) dX8_meetsPixel_77 ?_
          refine x_lload_n (M := M_X8_meetsPixel) dX8_meetsPixel_78 rfl ?_
          refine x_lmul (M := M_X8_meetsPixel) dX8_meetsPixel_79 ?_
          refine x_lload (M := M_X8_meetsPixel) dX8_meetsPixel_80 rfl ?_
          refine x_lconst (M := M_X8_meetsPixel) dX8_meetsPixel_82 ?_
          refine x_ladd (M := M_X8_meetsPixel) dX8_meetsPixel_83 ?_
          refine x_lload_n (M := M_X8_meetsPixel) dX8_meetsPixel_84 rfl ?_
          refine x_lmul (M := M_X8_meetsPixel) dX8_meetsPixel_85 ?_
          refine x_lcmp (M := M_X8_meetsPixel) dX8_meetsPixel_86 ?_
          refine x_if_le (M := M_X8_meetsPixel) (tgt := 94) dX8_meetsPixel_87 (by decide) (fun q4 => ?_) (fun q4 => ?_)
          · refine x_iconst (M := M_X8_meetsPixel) dX8_meetsPixel_94 ?_
            exact x_zret (M := M_X8_meetsPixel) dX8_meetsPixel_95 rfl (Or.inl rfl) ⟨by rw [f_X8_meetsPixel, if_neg q0, if_neg q1, if_pos q2, if_neg q3, if_pos q4], rfl⟩ (Nat.le_of_ble_eq_true rfl) (Nat.le_of_ble_eq_true rfl)
          · refine x_iconst (M := M_X8_meetsPixel) dX8_meetsPixel_90 ?_
            refine x_goto (M := M_X8_meetsPixel) (tgt := 95) dX8_meetsPixel_91 (by decide) ?_
            exact x_zret (M := M_X8_meetsPixel) dX8_meetsPixel_95 rfl (Or.inr rfl) ⟨by rw [f_X8_meetsPixel, if_neg q0, if_neg q1, if_pos q2, if_neg q3, if_neg q4], rfl⟩ (Nat.le_of_ble_eq_true rfl) (Nat.le_of_ble_eq_true rfl)
      · refine x_lload (M := M_X8_meetsPixel) dX8_meetsPixel_20 rfl ?_
        refine x_lconst (M := M_X8_meetsPixel) dX8_meetsPixel_22 ?_
        refine x_lsub (M := M_X8_meetsPixel) dX8_meetsPixel_23 ?_
        refine x_lload_n (M := M_X8_meetsPixel) dX8_meetsPixel_24 rfl ?_
        refine x_lmul (M := M_X8_meetsPixel) dX8_meetsPixel_25 ?_
        refine x_lload (M := M_X8_meetsPixel) dX8_meetsPixel_26 rfl ?_
        refine x_lconst (M := M_X8_meetsPixel) dX8_meetsPixel_28 ?_
        refine x_ladd (M := M_X8_meetsPixel) dX8_meetsPixel_29 ?_
        refine x_lload_n (M := M_X8_meetsPixel) dX8_meetsPixel_30 rfl ?_
        refine x_lmul (M := M_X8_meetsPixel) dX8_meetsPixel_31 ?_
        refine x_lcmp (M := M_X8_meetsPixel) dX8_meetsPixel_32 ?_
        refine x_if_ge (M := M_X8_meetsPixel) (tgt := 56) dX8_meetsPixel_33 (by decide) (fun q3 => ?_) (fun q3 => ?_)
        · refine x_iconst (M := M_X8_meetsPixel) dX8_meetsPixel_56 ?_
          exact x_zret (M := M_X8_meetsPixel) dX8_meetsPixel_57 rfl (Or.inl rfl) ⟨by rw [f_X8_meetsPixel, if_neg q0, if_neg q1, if_neg q2, if_pos q3], rfl⟩ (Nat.le_of_ble_eq_true rfl) (Nat.le_of_ble_eq_true rfl)
        · refine x_lload (M := M_X8_meetsPixel) dX8_meetsPixel_36 rfl ?_
          refine x_lconst (M := M_X8_meetsPixel) dX8_meetsPixel_38 ?_
          refine x_lsub (M := M_X8_meetsPixel) dX8_meetsPixel_39 ?_
          refine x_lload_n (M := M_X8_meetsPixel) dX8_meetsPixel_40 rfl ?_
          refine x_lmul (M := M_X8_meetsPixel) dX8_meetsPixel_41 ?_
          refine x_lload (M := M_X8_meetsPixel) dX8_meetsPixel_42 rfl ?_
          refine x_lconst (M := M_X8_meetsPixel) dX8_meetsPixel_44 ?_
          refine x_ladd (M := M_X8_meetsPixel) dX8_meetsPixel_45 ?_
          refine x_lload_n (M := M_X8_meetsPixel) dX8_meetsPixel_46 rfl ?_
          refine x_lmul (M := M_X8_meetsPixel) dX8_meetsPixel_47 ?_
          refine x_lcmp (M := M_X8_meetsPixel) dX8_meetsPixel_48 ?_
          refine x_if_ge (M := M_X8_meetsPixel) (tgt := 56) dX8_meetsPixel_49 (by decide) (fun q4 => ?_) (fun q4 => ?_)
          · refine x_iconst (M := M_X8_meetsPixel) dX8_meetsPixel_56 ?_
            exact x_zret (M := M_X8_meetsPixel) dX8_meetsPixel_57 rfl (Or.inl rfl) ⟨by rw [f_X8_meetsPixel, if_neg q0, if_neg q1, if_neg q2, if_neg q3, if_pos q4], rfl⟩ (Nat.le_of_ble_eq_true rfl) (Nat.le_of_ble_eq_true rfl)
          · refine x_iconst (M := M_X8_meetsPixel) dX8_meetsPixel_52 ?_
            refine x_goto (M := M_X8_meetsPixel) (tgt := 57) dX8_meetsPixel_53 (by decide) ?_
            exact x_zret (M := M_X8_meetsPixel) dX8_meetsPixel_57 rfl (Or.inr rfl) ⟨by rw [f_X8_meetsPixel, if_neg q0, if_neg q1, if_neg q2, if_neg q3, if_neg q4], rfl⟩ (Nat.le_of_ble_eq_true rfl) (Nat.le_of_ble_eq_true rfl)
    · refine x_iconst (M := M_X8_meetsPixel) dX8_meetsPixel_12 ?_
      exact x_zret (M := M_X8_meetsPixel) dX8_meetsPixel_13 rfl (Or.inr rfl) ⟨by rw [f_X8_meetsPixel, if_neg q0, if_pos q1], rfl⟩ (Nat.le_of_ble_eq_true rfl) (Nat.le_of_ble_eq_true rfl)
def f_X9_fail (g6 : Int32) (w0 : Int32) : Int32 := (Int32.ofInt 0)
theorem b_X9_fail (g6 : Int32) (w0 : Int32) : f_X9_fail g6 w0 = 0 ∨ f_X9_fail g6 w0 = 1 := (Or.inl rfl)
def F_X9_fail (fs : List Value) (g6 : Int32) (w0 : Int32) : List Value := ((fs.set 10 (.int w0)).set 11 (.int g6))
theorem l_X9_fail {fs : List Value} {g6 : Int32} {w0 : Int32} : (F_X9_fail fs g6 w0).length = fs.length := by
  unfold F_X9_fail
  first | rfl | simp only [List.length_set]
theorem k_X9_fail {fs : List Value} {g6 : Int32} {w0 : Int32} {k : Nat} (hk : k ∉ ([10, 11] : List Nat)) : (F_X9_fail fs g6 w0)[k]? = fs[k]? := by
  simp only [List.mem_cons, List.not_mem_nil, or_false, not_or] at hk
  unfold F_X9_fail
  first | rfl | simp only [List.getElem?_set_ne (by omega : 10 ≠ k), List.getElem?_set_ne (by omega : 11 ≠ k)]
def V10_X9_fail (g6 : Int32) (w0 : Int32) : Int32 := w0
theorem v10_X9_fail {fs : List Value} {g6 : Int32} {w0 : Int32} (hn : fs.length = 12) (e6 : fs[6]? = some (.int g6)) : (F_X9_fail fs g6 w0)[10]? = some (.int (V10_X9_fail g6 w0)) := by
  unfold F_X9_fail V10_X9_fail
  exact (gs_ne (by decide) (gs_eq (by simp only [List.length_set, hn]; decide)))
def V11_X9_fail (g6 : Int32) (w0 : Int32) : Int32 := g6
theorem v11_X9_fail {fs : List Value} {g6 : Int32} {w0 : Int32} (hn : fs.length = 12) (e6 : fs[6]? = some (.int g6)) : (F_X9_fail fs g6 w0)[11]? = some (.int (V11_X9_fail g6 w0)) := by
  unfold F_X9_fail V11_X9_fail
  exact (gs_eq (by simp only [List.length_set, hn]; decide))
theorem p_X9_fail {l : Launch} {E : EE} (hl : l.stackTraces = false) {h : HP} {g6 : Int32} {w0 : Int32} {a : Nat} {fs : List Value} (ha : ob h a = some (.inr (12, fs))) (hn : fs.length = 12) (e6 : fs[6]? = some (.int g6)) : en_C l E M_X9_fail 0 0 0 [.ref a, .int w0] h (pR (some (.int (f_X9_fail g6 w0))) (stt h a (.inr (12, F_X9_fail fs g6 w0)))) := by
  refine en_mk m_X9_fail rfl hl (Nat.le_of_ble_eq_true rfl) ?_
  refine x_heap (h' := (stt h a (.inr (12, fs)))) (by rw [stt_id ha]) ?_
  refine x_aload_n (M := M_X9_fail) dX9_fail_0 rfl ?_
  refine x_iload_n (M := M_X9_fail) dX9_fail_1 rfl ?_
  refine x_put (M := M_X9_fail) (ci := 12) (C := RX9) (T := TX9) (N := 12) (ty := tyX9) cl12 dX9_fail_2 (ob_self ha) 10 (by decide) t_115 (Or.inl rfl) (by simp only [List.length_set, hn]; decide) rfl ?_
  refine x_heap (h' := (stt h a (.inr (12, (fs.set 10 (.int w0)))))) (by rw [stt_stt (a := a)]) ?_
  refine x_aload_n (M := M_X9_fail) dX9_fail_5 rfl ?_
  refine x_aload_n (M := M_X9_fail) dX9_fail_6 rfl ?_
  refine x_getf (M := M_X9_fail) (ci := 12) (C := RX9) (T := TX9) (N := 12) (ty := tyX9) cl12 dX9_fail_7 (ob_self ha) 6 (by decide) t_111 (gs_ne (by decide) e6) ?_
  refine x_put (M := M_X9_fail) (ci := 12) (C := RX9) (T := TX9) (N := 12) (ty := tyX9) cl12 dX9_fail_10 (ob_self ha) 11 (by decide) t_117 (Or.inl rfl) (by simp only [List.length_set, hn]; decide) rfl ?_
  refine x_heap (h' := (stt h a (.inr (12, ((fs.set 10 (.int w0)).set 11 (.int g6)))))) (by rw [stt_stt (a := a)]) ?_
  refine x_iconst (M := M_X9_fail) dX9_fail_13 ?_
  exact x_zret (M := M_X9_fail) dX9_fail_14 rfl (Or.inl rfl) ⟨rfl, by rw [F_X9_fail]⟩ (Nat.le_of_ble_eq_true rfl) (Nat.le_of_ble_eq_true rfl)
def f_X9_signAt (g5 : Int32) (c1 : Nat → Int32) (w0 : Int32) : Int32 := if w0 < 0 then (Int32.ofInt (-1)) else (if g5 ≤ w0 then (Int32.ofInt (-1)) else (((c1 w0.toNatClampNeg) &&& (Int16.ofInt 255).toInt32)))
theorem p_X9_signAt {l : Launch} {E : EE} (hl : l.stackTraces = false) {h : HP} {g5 : Int32} {c1 : Nat → Int32} {w0 : Int32} {a : Nat} {fs : List Value} (ha : ob h a = some (.inr (12, fs))) (e5 : fs[5]? = some (.int g5)) {r1 n1 : Nat} (e1 : fs[1]? = some (.ref r1)) (o1 : ob h r1 = some (.inl (2, n1, .inl c1))) (i0 : (¬ w0 < 0) → (¬ g5 ≤ w0) → vp_in w0 n1) : en_C l E M_X9_signAt 0 0 0 [.ref a, .int w0] h (pR (some (.int (f_X9_signAt g5 c1 w0))) h) := by
  refine en_mk m_X9_signAt rfl hl (Nat.le_of_ble_eq_true rfl) ?_
  refine x_iload_n (M := M_X9_signAt) dX9_signAt_0 rfl ?_
  refine x_if_lt (M := M_X9_signAt) (tgt := 25) dX9_signAt_1 (by decide) (fun q0 => ?_) (fun q0 => ?_)
  · refine x_iconst (M := M_X9_signAt) dX9_signAt_25 ?_
    exact x_iret (M := M_X9_signAt) dX9_signAt_26 rfl ⟨by rw [f_X9_signAt, if_pos q0], rfl⟩ (Nat.le_of_ble_eq_true rfl) (Nat.le_of_ble_eq_true rfl)
  · refine x_iload_n (M := M_X9_signAt) dX9_signAt_4 rfl ?_
    refine x_aload_n (M := M_X9_signAt) dX9_signAt_5 rfl ?_
    refine x_getf (M := M_X9_signAt) (ci := 12) (C := RX9) (T := TX9) (N := 12) (ty := tyX9) cl12 dX9_signAt_6 ha 5 (by decide) t_110 e5 ?_
    refine x_icmp_ge (M := M_X9_signAt) (tgt := 25) dX9_signAt_9 (by decide) (fun q1 => ?_) (fun q1 => ?_)
    · refine x_iconst (M := M_X9_signAt) dX9_signAt_25 ?_
      exact x_iret (M := M_X9_signAt) dX9_signAt_26 rfl ⟨by rw [f_X9_signAt, if_neg q0, if_pos q1], rfl⟩ (Nat.le_of_ble_eq_true rfl) (Nat.le_of_ble_eq_true rfl)
    · refine x_aload_n (M := M_X9_signAt) dX9_signAt_12 rfl ?_
      refine x_getf (M := M_X9_signAt) (ci := 12) (C := RX9) (T := TX9) (N := 12) (ty := tyX9) cl12 dX9_signAt_13 ha 1 (by decide) t_106 e1 ?_
      refine x_iload_n (M := M_X9_signAt) dX9_signAt_16 rfl ?_
      refine x_bald (M := M_X9_signAt) dX9_signAt_17 o1 (i0 q0 q1) ?_
      refine x_sipush (M := M_X9_signAt) dX9_signAt_18 ?_
      refine x_iand (M := M_X9_signAt) dX9_signAt_21 ?_
      refine x_goto (M := M_X9_signAt) (tgt := 26) dX9_signAt_22 (by decide) ?_
      exact x_iret (M := M_X9_signAt) dX9_signAt_26 rfl ⟨by rw [f_X9_signAt, if_neg q0, if_neg q1], rfl⟩ (Nat.le_of_ble_eq_true rfl) (Nat.le_of_ble_eq_true rfl)
def f_X9_isBlank (w0 : Int32) : Int32 := if w0 = (Int8.ofInt 32).toInt32 then (Int32.ofInt 1) else (if w0 = (Int8.ofInt 9).toInt32 then (Int32.ofInt 1) else (if w0 = (Int8.ofInt 10).toInt32 then (Int32.ofInt 1) else (if w0 = (Int8.ofInt 13).toInt32 then (Int32.ofInt 1) else ((Int32.ofInt 0)))))
theorem b_X9_isBlank (w0 : Int32) : f_X9_isBlank w0 = 0 ∨ f_X9_isBlank w0 = 1 := (ite01 (Or.inr rfl) (ite01 (Or.inr rfl) (ite01 (Or.inr rfl) (ite01 (Or.inr rfl) (Or.inl rfl)))))
theorem p_X9_isBlank {l : Launch} {E : EE} (hl : l.stackTraces = false) {h : HP} {w0 : Int32} : en_C l E M_X9_isBlank 0 0 0 [.int w0] h (pR (some (.int (f_X9_isBlank w0))) h) := by
  refine en_mk m_X9_isBlank rfl hl (Nat.le_of_ble_eq_true rfl) ?_
  refine x_iload_n (M := M_X9_isBlank) dX9_isBlank_0 rfl ?_
  refine x_bipush (M := M_X9_isBlank) dX9_isBlank_1 ?_
  refine x_icmp_eq (M := M_X9_isBlank) (tgt := 24) dX9_isBlank_3 (by decide) (fun q0 => ?_) (fun q0 => ?_)
  · refine x_iconst (M := M_X9_isBlank) dX9_isBlank_24 ?_
    refine x_goto (M := M_X9_isBlank) (tgt := 29) dX9_isBlank_25 (by decide) ?_
    exact x_zret (M := M_X9_isBlank) dX9_isBlank_29 rfl (Or.inr rfl) ⟨by rw [f_X9_isBlank, if_pos q0], rfl⟩ (Nat.le_of_ble_eq_true rfl) (Nat.le_of_ble_eq_true rfl)
  · refine x_iload_n (M := M_X9_isBlank) dX9_isBlank_6 rfl ?_
    refine x_bipush (M := M_X9_isBlank) dX9_isBlank_7 ?_
    refine x_icmp_eq (M := M_X9_isBlank) (tgt := 24) dX9_isBlank_9 (by decide) (fun q1 => ?_) (fun q1 => ?_)
    · refine x_iconst (M := M_X9_isBlank) dX9_isBlank_24 ?_
      refine x_goto (M := M_X9_isBlank) (tgt := 29) dX9_isBlank_25 (by decide) ?_
      exact x_zret (M := M_X9_isBlank) dX9_isBlank_29 rfl (Or.inr rfl) ⟨by rw [f_X9_isBlank, if_neg q0, if_pos q1], rfl⟩ (Nat.le_of_ble_eq_true rfl) (Nat.le_of_ble_eq_true rfl)
    · refine x_iload_n (M := M_X9_isBlank) dX9_isBlank_12 rfl ?_
      refine x_bipush (M := M_X9_isBlank) dX9_isBlank_13 ?_
      refine x_icmp_eq (M := M_X9_isBlank) (tgt := 24) dX9_isBlank_15 (by decide) (fun q2 => ?_) (fun q2 => ?_)
      · refine x_iconst (M := M_X9_isBlank) dX9_isBlank_24 ?_
        refine x_goto (M := M_X9_isBlank) (tgt := 29) dX9_isBlank_25 (by decide) ?_
        exact x_zret (M := M_X9_isBlank) dX9_isBlank_29 rfl (Or.inr rfl) ⟨by rw [f_X9_isBlank, if_neg q0, if_neg q1, if_pos q2], rfl⟩ (Nat.le_of_ble_eq_true rfl) (Nat.le_of_ble_eq_true rfl)
      · refine x_iload_n (M := M_X9_isBlank) dX9_isBlank_18 rfl ?_
        refine x_bipush (M := M_X9_isBlank) dX9_isBlank_19 ?_
        refine x_icmp_ne (M := M_X9_isBlank) (tgt := 28) dX9_isBlank_21 (by decide) (fun q3 => ?_) (fun q3 => ?_)
        · refine x_iconst (M := M_X9_isBlank) dX9_isBlank_28 ?_
          exact x_zret (M := M_X9_isBlank) dX9_isBlank_29 rfl (Or.inl rfl) ⟨by rw [f_X9_isBlank, if_neg q0, if_neg q1, if_neg q2, if_neg q3], rfl⟩ (Nat.le_of_ble_eq_true rfl) (Nat.le_of_ble_eq_true rfl)
        · refine x_iconst (M := M_X9_isBlank) dX9_isBlank_24 ?_
          refine x_goto (M := M_X9_isBlank) (tgt := 29) dX9_isBlank_25 (by decide) ?_
          exact x_zret (M := M_X9_isBlank) dX9_isBlank_29 rfl (Or.inr rfl) ⟨by rw [f_X9_isBlank, if_neg q0, if_neg q1, if_neg q2, if_pos q3], rfl⟩ (Nat.le_of_ble_eq_true rfl) (Nat.le_of_ble_eq_true rfl)
def f_X9_isLetter (w0 : Int32) : Int32 := if w0 < (Int8.ofInt 65).toInt32 then if w0 < (Int8.ofInt 97).toInt32 then (Int32.ofInt 0) else (if (Int8.ofInt 122).toInt32 < w0 then (Int32.ofInt 0) else ((Int32.ofInt 1))) else (if w0 ≤ (Int8.ofInt 90).toInt32 then (Int32.ofInt 1) else (if w0 < (Int8.ofInt 97).toInt32 then (Int32.ofInt 0) else (if (Int8.ofInt 122).toInt32 < w0 then (Int32.ofInt 0) else ((Int32.ofInt 1)))))
theorem b_X9_isLetter (w0 : Int32) : f_X9_isLetter w0 = 0 ∨ f_X9_isLetter w0 = 1 := (ite01 (ite01 (Or.inl rfl) (ite01 (Or.inl rfl) (Or.inr rfl))) (ite01 (Or.inr rfl) (ite01 (Or.inl rfl) (ite01 (Or.inl rfl) (Or.inr rfl)))))
theorem p_X9_isLetter {l : Launch} {E : EE} (hl : l.stackTraces = false) {h : HP} {w0 : Int32} : en_C l E M_X9_isLetter 0 0 0 [.int w0] h (pR (some (.int (f_X9_isLetter w0))) h) := by
  refine en_mk m_X9_isLetter rfl hl (Nat.le_of_ble_eq_true rfl) ?_
  refine x_iload_n (M := M_X9_isLetter) dX9_isLetter_0 rfl ?_
  refine x_bipush (M := M_X9_isLetter) dX9_isLetter_1 ?_
  refine x_icmp_lt (M := M_X9_isLetter) (tgt := 12) dX9_isLetter_3 (by decide) (fun q0 => ?_) (fun q0 => ?_)
  · refine x_iload_n (M := M_X9_isLetter) dX9_isLetter_12 rfl ?_
    refine x_bipush (M := M_X9_isLetter) dX9_isLetter_13 ?_
    refine x_icmp_lt (M := M_X9_isLetter) (tgt := 28) dX9_isLetter_15 (by decide) (fun q1 => ?_) (fun q1 => ?_)
    · refine x_iconst (M := M_X9_isLetter) dX9_isLetter_28 ?_
      exact x_zret (M := M_X9_isLetter) dX9_isLetter_29 rfl (Or.inl rfl) ⟨by rw [f_X9_isLetter, if_pos q0, if_pos q1], rfl⟩ (Nat.le_of_ble_eq_true rfl) (Nat.le_of_ble_eq_true rfl)
    · refine x_iload_n (M := M_X9_isLetter) dX9_isLetter_18 rfl ?_
      refine x_bipush (M := M_X9_isLetter) dX9_isLetter_19 ?_
      refine x_icmp_gt (M := M_X9_isLetter) (tgt := 28) dX9_isLetter_21 (by decide) (fun q2 => ?_) (fun q2 => ?_)
      · refine x_iconst (M := M_X9_isLetter) dX9_isLetter_28 ?_
        exact x_zret (M := M_X9_isLetter) dX9_isLetter_29 rfl (Or.inl rfl) ⟨by rw [f_X9_isLetter, if_pos q0, if_neg q1, if_pos q2], rfl⟩ (Nat.le_of_ble_eq_true rfl) (Nat.le_of_ble_eq_true rfl)
      · refine x_iconst (M := M_X9_isLetter) dX9_isLetter_24 ?_
        refine x_goto (M := M_X9_isLetter) (tgt := 29) dX9_isLetter_25 (by decide) ?_
        exact x_zret (M := M_X9_isLetter) dX9_isLetter_29 rfl (Or.inr rfl) ⟨by rw [f_X9_isLetter, if_pos q0, if_neg q1, if_neg q2], rfl⟩ (Nat.le_of_ble_eq_true rfl) (Nat.le_of_ble_eq_true rfl)
  · refine x_iload_n (M := M_X9_isLetter) dX9_isLetter_6 rfl ?_
    refine x_bipush (M := M_X9_isLetter) dX9_isLetter_7 ?_
    refine x_icmp_le (M := M_X9_isLetter) (tgt := 24) dX9_isLetter_9 (by decide) (fun q1 => ?_) (fun q1 => ?_)
    · refine x_iconst (M := M_X9_isLetter) dX9_isLetter_24 ?_
      refine x_goto (M := M_X9_isLetter) (tgt := 29) dX9_isLetter_25 (by decide) ?_
      exact x_zret (M := M_X9_isLetter) dX9_isLetter_29 rfl (Or.inr rfl) ⟨by rw [f_X9_isLetter, if_neg q0, if_pos q1], rfl⟩ (Nat.le_of_ble_eq_true rfl) (Nat.le_of_ble_eq_true rfl)
    · refine x_iload_n (M := M_X9_isLetter) dX9_isLetter_12 rfl ?_
      refine x_bipush (M := M_X9_isLetter) dX9_isLetter_13 ?_
      refine x_icmp_lt (M := M_X9_isLetter) (tgt := 28) dX9_isLetter_15 (by decide) (fun q2 => ?_) (fun q2 => ?_)
      · refine x_iconst (M := M_X9_isLetter) dX9_isLetter_28 ?_
        exact x_zret (M := M_X9_isLetter) dX9_isLetter_29 rfl (Or.inl rfl) ⟨by rw [f_X9_isLetter, if_neg q0, if_neg q1, if_pos q2], rfl⟩ (Nat.le_of_ble_eq_true rfl) (Nat.le_of_ble_eq_true rfl)
      · refine x_iload_n (M := M_X9_isLetter) dX9_isLetter_18 rfl ?_
        refine x_bipush (M := M_X9_isLetter) dX9_isLetter_19 ?_
        refine x_icmp_gt (M := M_X9_isLetter) (tgt := 28) dX9_isLetter_21 (by decide) (fun q3 => ?_) (fun q3 => ?_)
        · refine x_iconst (M := M_X9_isLetter) dX9_isLetter_28 ?_
          exact x_zret (M := M_X9_isLetter) dX9_isLetter_29 rfl (Or.inl rfl) ⟨by rw [f_X9_isLetter, if_neg q0, if_neg q1, if_neg q2, if_pos q3], rfl⟩ (Nat.le_of_ble_eq_true rfl) (Nat.le_of_ble_eq_true rfl)
        · refine x_iconst (M := M_X9_isLetter) dX9_isLetter_24 ?_
          refine x_goto (M := M_X9_isLetter) (tgt := 29) dX9_isLetter_25 (by decide) ?_
          exact x_zret (M := M_X9_isLetter) dX9_isLetter_29 rfl (Or.inr rfl) ⟨by rw [f_X9_isLetter, if_neg q0, if_neg q1, if_neg q2, if_neg q3], rfl⟩ (Nat.le_of_ble_eq_true rfl) (Nat.le_of_ble_eq_true rfl)
def f_X9_isDigit (w0 : Int32) : Int32 := if w0 < (Int8.ofInt 48).toInt32 then (Int32.ofInt 0) else (if (Int8.ofInt 57).toInt32 < w0 then (Int32.ofInt 0) else ((Int32.ofInt 1)))
theorem b_X9_isDigit (w0 : Int32) : f_X9_isDigit w0 = 0 ∨ f_X9_isDigit w0 = 1 := (ite01 (Or.inl rfl) (ite01 (Or.inl rfl) (Or.inr rfl)))
theorem p_X9_isDigit {l : Launch} {E : EE} (hl : l.stackTraces = false) {h : HP} {w0 : Int32} : en_C l E M_X9_isDigit 0 0 0 [.int w0] h (pR (some (.int (f_X9_isDigit w0))) h) := by
  refine en_mk m_X9_isDigit rfl hl (Nat.le_of_ble_eq_true rfl) ?_
  refine x_iload_n (M := M_X9_isDigit) dX9_isDigit_0 rfl ?_
  refine x_bipush (M := M_X9_isDigit) dX9_isDigit_1 ?_
  refine x_icmp_lt (M := M_X9_isDigit) (tgt := 16) dX9_isDigit_3 (by decide) (fun q0 => ?_) (fun q0 => ?_)
  · refine x_iconst (M := M_X9_isDigit) dX9_isDigit_16 ?_
    exact x_zret (M := M_X9_isDigit) dX9_isDigit_17 rfl (Or.inl rfl) ⟨by rw [f_X9_isDigit, if_pos q0], rfl⟩ (Nat.le_of_ble_eq_true rfl) (Nat.le_of_ble_eq_true rfl)
  · refine x_iload_n (M := M_X9_isDigit) dX9_isDigit_6 rfl ?_
    refine x_bipush (M := M_X9_isDigit) dX9_isDigit_7 ?_
    refine x_icmp_gt (M := M_X9_isDigit) (tgt := 16) dX9_isDigit_9 (by decide) (fun q1 => ?_) (fun q1 => ?_)
    · refine x_iconst (M := M_X9_isDigit) dX9_isDigit_16 ?_
      exact x_zret (M := M_X9_isDigit) dX9_isDigit_17 rfl (Or.inl rfl) ⟨by rw [f_X9_isDigit, if_neg q0, if_pos q1], rfl⟩ (Nat.le_of_ble_eq_true rfl) (Nat.le_of_ble_eq_true rfl)
    · refine x_iconst (M := M_X9_isDigit) dX9_isDigit_12 ?_
      refine x_goto (M := M_X9_isDigit) (tgt := 17) dX9_isDigit_13 (by decide) ?_
      exact x_zret (M := M_X9_isDigit) dX9_isDigit_17 rfl (Or.inr rfl) ⟨by rw [f_X9_isDigit, if_neg q0, if_neg q1], rfl⟩ (Nat.le_of_ble_eq_true rfl) (Nat.le_of_ble_eq_true rfl)
def f_X9_beginsNumber (w0 : Int32) : Int32 := if w0 < (Int8.ofInt 48).toInt32 then if w0 = (Int8.ofInt 43).toInt32 then (Int32.ofInt 1) else (if w0 = (Int8.ofInt 45).toInt32 then (Int32.ofInt 1) else (if w0 = (Int8.ofInt 46).toInt32 then (Int32.ofInt 1) else ((Int32.ofInt 0)))) else (if w0 ≤ (Int8.ofInt 57).toInt32 then (Int32.ofInt 1) else (if w0 = (Int8.ofInt 43).toInt32 then (Int32.ofInt 1) else (if w0 = (Int8.ofInt 45).toInt32 then (Int32.ofInt 1) else (if w0 = (Int8.ofInt 46).toInt32 then (Int32.ofInt 1) else ((Int32.ofInt 0))))))
theorem b_X9_beginsNumber (w0 : Int32) : f_X9_beginsNumber w0 = 0 ∨ f_X9_beginsNumber w0 = 1 := (ite01 (ite01 (Or.inr rfl) (ite01 (Or.inr rfl) (ite01 (Or.inr rfl) (Or.inl rfl)))) (ite01 (Or.inr rfl) (ite01 (Or.inr rfl) (ite01 (Or.inr rfl) (ite01 (Or.inr rfl) (Or.inl rfl))))))
theorem p_X9_beginsNumber {l : Launch} {E : EE} (hl : l.stackTraces = false) {h : HP} {w0 : Int32} : en_C l E M_X9_beginsNumber 0 0 0 [.int w0] h (pR (some (.int (f_X9_beginsNumber w0))) h) := by
  refine en_mk m_X9_beginsNumber rfl hl (Nat.le_of_ble_eq_true rfl) ?_
  refine x_iload_n (M := M_X9_beginsNumber) dX9_beginsNumber_0 rfl ?_
  refine x_bipush (M := M_X9_beginsNumber) dX9_beginsNumber_1 ?_
  refine x_icmp_lt (M := M_X9_beginsNumber) (tgt := 12) dX9_beginsNumber_3 (by decide) (fun q0 => ?_) (fun q0 => ?_)
  · refine x_iload_n (M := M_X9_beginsNumber) dX9_beginsNumber_12 rfl ?_
    refine x_bipush (M := M_X9_beginsNumber) dX9_beginsNumber_13 ?_
    refine x_icmp_eq (M := M_X9_beginsNumber) (tgt := 30) dX9_beginsNumber_15 (by decide) (fun q1 => ?_) (fun q1 => ?_)
    · refine x_iconst (M := M_X9_beginsNumber) dX9_beginsNumber_30 ?_
      refine x_goto (M := M_X9_beginsNumber) (tgt := 35) dX9_beginsNumber_31 (by decide) ?_
      exact x_zret (M := M_X9_beginsNumber) dX9_beginsNumber_35 rfl (Or.inr rfl) ⟨by rw [f_X9_beginsNumber, if_pos q0, if_pos q1], rfl⟩ (Nat.le_of_ble_eq_true rfl) (Nat.le_of_ble_eq_true rfl)
    · refine x_iload_n (M := M_X9_beginsNumber) dX9_beginsNumber_18 rfl ?_
      refine x_bipush (M := M_X9_beginsNumber) dX9_beginsNumber_19 ?_
      refine x_icmp_eq (M := M_X9_beginsNumber) (tgt := 30) dX9_beginsNumber_21 (by decide) (fun q2 => ?_) (fun q2 => ?_)
      · refine x_iconst (M := M_X9_beginsNumber) dX9_beginsNumber_30 ?_
        refine x_goto (M := M_X9_beginsNumber) (tgt := 35) dX9_beginsNumber_31 (by decide) ?_
        exact x_zret (M := M_X9_beginsNumber) dX9_beginsNumber_35 rfl (Or.inr rfl) ⟨by rw [f_X9_beginsNumber, if_pos q0, if_neg q1, if_pos q2], rfl⟩ (Nat.le_of_ble_eq_true rfl) (Nat.le_of_ble_eq_true rfl)
      · refine x_iload_n (M := M_X9_beginsNumber) dX9_beginsNumber_24 rfl ?_
        refine x_bipush (M := M_X9_beginsNumber) dX9_beginsNumber_25 ?_
        refine x_icmp_ne (M := M_X9_beginsNumber) (tgt := 34) dX9_beginsNumber_27 (by decide) (fun q3 => ?_) (fun q3 => ?_)
        · refine x_iconst (M := M_X9_beginsNumber) dX9_beginsNumber_34 ?_
          exact x_zret (M := M_X9_beginsNumber) dX9_beginsNumber_35 rfl (Or.inl rfl) ⟨by rw [f_X9_beginsNumber, if_pos q0, if_neg q1, if_neg q2, if_neg q3], rfl⟩ (Nat.le_of_ble_eq_true rfl) (Nat.le_of_ble_eq_true rfl)
        · refine x_iconst (M := M_X9_beginsNumber) dX9_beginsNumber_30 ?_
          refine x_goto (M := M_X9_beginsNumber) (tgt := 35) dX9_beginsNumber_31 (by decide) ?_
          exact x_zret (M := M_X9_beginsNumber) dX9_beginsNumber_35 rfl (Or.inr rfl) ⟨by rw [f_X9_beginsNumber, if_pos q0, if_neg q1, if_neg q2, if_pos q3], rfl⟩ (Nat.le_of_ble_eq_true rfl) (Nat.le_of_ble_eq_true rfl)
  · refine x_iload_n (M := M_X9_beginsNumber) dX9_beginsNumber_6 rfl ?_
    refine x_bipush (M := M_X9_beginsNumber) dX9_beginsNumber_7 ?_
    refine x_icmp_le (M := M_X9_beginsNumber) (tgt := 30) dX9_beginsNumber_9 (by decide) (fun q1 => ?_) (fun q1 => ?_)
    · refine x_iconst (M := M_X9_beginsNumber) dX9_beginsNumber_30 ?_
      refine x_goto (M := M_X9_beginsNumber) (tgt := 35) dX9_beginsNumber_31 (by decide) ?_
      exact x_zret (M := M_X9_beginsNumber) dX9_beginsNumber_35 rfl (Or.inr rfl) ⟨by rw [f_X9_beginsNumber, if_neg q0, if_pos q1], rfl⟩ (Nat.le_of_ble_eq_true rfl) (Nat.le_of_ble_eq_true rfl)
    · refine x_iload_n (M := M_X9_beginsNumber) dX9_beginsNumber_12 rfl ?_
      refine x_bipush (M := M_X9_beginsNumber) dX9_beginsNumber_13 ?_
      refine x_icmp_eq (M := M_X9_beginsNumber) (tgt := 30) dX9_beginsNumber_15 (by decide) (fun q2 => ?_) (fun q2 => ?_)
      · refine x_iconst (M := M_X9_beginsNumber) dX9_beginsNumber_30 ?_
        refine x_goto (M := M_X9_beginsNumber) (tgt := 35) dX9_beginsNumber_31 (by decide) ?_
        exact x_zret (M := M_X9_beginsNumber) dX9_beginsNumber_35 rfl (Or.inr rfl) ⟨by rw [f_X9_beginsNumber, if_neg q0, if_neg q1, if_pos q2], rfl⟩ (Nat.le_of_ble_eq_true rfl) (Nat.le_of_ble_eq_true rfl)
      · refine x_iload_n (M := M_X9_beginsNumber) dX9_beginsNumber_18 rfl ?_
        refine x_bipush (M := M_X9_beginsNumber) dX9_beginsNumber_19 ?_
        refine x_icmp_eq (M := M_X9_beginsNumber) (tgt := 30) dX9_beginsNumber_21 (by decide) (fun q3 => ?_) (fun q3 => ?_)
        · refine x_iconst (M := M_X9_beginsNumber) dX9_beginsNumber_30 ?_
          refine x_goto (M := M_X9_beginsNumber) (tgt := 35) dX9_beginsNumber_31 (by decide) ?_
          exact x_zret (M := M_X9_beginsNumber) dX9_beginsNumber_35 rfl (Or.inr rfl) ⟨by rw [f_X9_beginsNumber, if_neg q0, if_neg q1, if_neg q2, if_pos q3], rfl⟩ (Nat.le_of_ble_eq_true rfl) (Nat.le_of_ble_eq_true rfl)
        · refine x_iload_n (M := M_X9_beginsNumber) dX9_beginsNumber_24 rfl ?_
          refine x_bipush (M := M_X9_beginsNumber) dX9_beginsNumber_25 ?_
          refine x_icmp_ne (M := M_X9_beginsNumber) (tgt := 34) dX9_beginsNumber_27 (by decide) (fun q4 => ?_) (fun q4 => ?_)
          · refine x_iconst (M := M_X9_beginsNumber) dX9_beginsNumber_34 ?_
            exact x_zret (M := M_X9_beginsNumber) dX9_beginsNumber_35 rfl (Or.inl rfl) ⟨by rw [f_X9_beginsNumber, if_neg q0, if_neg q1, if_neg q2, if_neg q3, if_neg q4], rfl⟩ (Nat.le_of_ble_eq_true rfl) (Nat.le_of_ble_eq_true rfl)
          · refine x_iconst (M := M_X9_beginsNumber) dX9_beginsNumber_30 ?_
            refine x_goto (M := M_X9_beginsNumber) (tgt := 35) dX9_beginsNumber_31 (by decide) ?_
            exact x_zret (M := M_X9_beginsNumber) dX9_beginsNumber_35 rfl (Or.inr rfl) ⟨by rw [f_X9_beginsNumber, if_neg q0, if_neg q1, if_neg q2, if_neg q3, if_pos q4], rfl⟩ (Nat.le_of_ble_eq_true rfl) (Nat.le_of_ble_eq_true rfl)
def f_X9_isSign (w0 : Int32) : Int32 := if w0 = (Int8.ofInt 43).toInt32 then (Int32.ofInt 1) else (if w0 = (Int8.ofInt 45).toInt32 then (Int32.ofInt 1) else ((Int32.ofInt 0)))
theorem b_X9_isSign (w0 : Int32) : f_X9_isSign w0 = 0 ∨ f_X9_isSign w0 = 1 := (ite01 (Or.inr rfl) (ite01 (Or.inr rfl) (Or.inl rfl)))
theorem p_X9_isSign {l : Launch} {E : EE} (hl : l.stackTraces = false) {h : HP} {w0 : Int32} : en_C l E M_X9_isSign 0 0 0 [.int w0] h (pR (some (.int (f_X9_isSign w0))) h) := by
  refine en_mk m_X9_isSign rfl hl (Nat.le_of_ble_eq_true rfl) ?_
  refine x_iload_n (M := M_X9_isSign) dX9_isSign_0 rfl ?_
  refine x_bipush (M := M_X9_isSign) dX9_isSign_1 ?_
  refine x_icmp_eq (M := M_X9_isSign) (tgt := 12) dX9_isSign_3 (by decide) (fun q0 => ?_) (fun q0 => ?_)
  · refine x_iconst (M := M_X9_isSign) dX9_isSign_12 ?_
    refine x_goto (M := M_X9_isSign) (tgt := 17) dX9_isSign_13 (by decide) ?_
    exact x_zret (M := M_X9_isSign) dX9_isSign_17 rfl (Or.inr rfl) ⟨by rw [f_X9_isSign, if_pos q0], rfl⟩ (Nat.le_of_ble_eq_true rfl) (Nat.le_of_ble_eq_true rfl)
  · refine x_iload_n (M := M_X9_isSign) dX9_isSign_6 rfl ?_
    refine x_bipush (M := M_X9_isSign) dX9_isSign_7 ?_
    refine x_icmp_ne (M := M_X9_isSign) (tgt := 16) dX9_isSign_9 (by decide) (fun q1 => ?_) (fun q1 => ?_)
    · refine x_iconst (M := M_X9_isSign) dX9_isSign_16 ?_
      exact x_zret (M := M_X9_isSign) dX9_isSign_17 rfl (Or.inl rfl) ⟨by rw [f_X9_isSign, if_neg q0, if_neg q1], rfl⟩ (Nat.le_of_ble_eq_true rfl) (Nat.le_of_ble_eq_true rfl)
    · refine x_iconst (M := M_X9_isSign) dX9_isSign_12 ?_
      refine x_goto (M := M_X9_isSign) (tgt := 17) dX9_isSign_13 (by decide) ?_
      exact x_zret (M := M_X9_isSign) dX9_isSign_17 rfl (Or.inr rfl) ⟨by rw [f_X9_isSign, if_neg q0, if_pos q1], rfl⟩ (Nat.le_of_ble_eq_true rfl) (Nat.le_of_ble_eq_true rfl)
def F_X10_put (fs : List Value) (g5 : Int32) (c4 : Nat → Int32) (w0 : Int32) : List Value := if (80000 : Int32) ≤ g5 then fs else ((fs.set 5 (.int (g5 + (Int32.ofInt 1)))))
def A4_X10_put (g5 : Int32) (c4 : Nat → Int32) (w0 : Int32) : Nat → Int32 := if (80000 : Int32) ≤ g5 then c4 else ((upd c4 g5.toNatClampNeg (vp_nar .byte (w0.toInt8.toInt32))))
theorem l_X10_put {fs : List Value} {g5 : Int32} {c4 : Nat → Int32} {w0 : Int32} : (F_X10_put fs g5 c4 w0).length = fs.length := by
  unfold F_X10_put
  repeat' split
  all_goals first | rfl | simp only [List.length_set]
theorem k_X10_put {fs : List Value} {g5 : Int32} {c4 : Nat → Int32} {w0 : Int32} {k : Nat} (hk : k ∉ ([5] : List Nat)) : (F_X10_put fs g5 c4 w0)[k]? = fs[k]? := by
  simp only [List.mem_cons, List.not_mem_nil, or_false, not_or] at hk
  unfold F_X10_put
  repeat' split
  all_goals first | rfl | simp only [List.getElem?_set_ne (by omega : 5 ≠ k)]
def V5_X10_put (g5 : Int32) (c4 : Nat → Int32) (w0 : Int32) : Int32 := if (80000 : Int32) ≤ g5 then g5 else ((g5 + (Int32.ofInt 1)))
theorem v5_X10_put {fs : List Value} {g5 : Int32} {c4 : Nat → Int32} {w0 : Int32} (hn : fs.length = 6) (e5 : fs[5]? = some (.int g5)) : (F_X10_put fs g5 c4 w0)[5]? = some (.int (V5_X10_put g5 c4 w0)) := by
  unfold F_X10_put V5_X10_put
  exact (gi e5 (gs_eq (by simp only [List.length_set, hn]; decide)))
theorem p_X10_put {l : Launch} {E : EE} (hl : l.stackTraces = false) {h : HP} {g5 : Int32} {c4 : Nat → Int32} {w0 : Int32} {a : Nat} {fs : List Value} (ha : ob h a = some (.inr (13, fs))) (hn : fs.length = 6) (e5 : fs[5]? = some (.int g5)) {r4 n4 : Nat} (e4 : fs[4]? = some (.ref r4)) (o4 : ob h r4 = some (.inl (2, n4, .inl c4))) (i0 : (¬ (80000 : Int32) ≤ g5) → vp_in g5 n4) : en_C l E M_X10_put 0 0 0 [.ref a, .int w0] h (pR none (stt (stt h a (.inr (13, F_X10_put fs g5 c4 w0))) r4 (.inl (2, n4, .inl (A4_X10_put g5 c4 w0))))) := by
  refine en_mk m_X10_put rfl hl (Nat.le_of_ble_eq_true rfl) ?_
  refine x_heap (h' := (stt (stt h a (.inr (13, fs))) r4 (.inl (2, n4, .inl c4)))) (by rw [stt_id ha, stt_id o4]) ?_
  refine x_aload_n (M := M_X10_put) dX10_put_0 rfl ?_
  refine x_getf (M := M_X10_put) (ci := 13) (C := RX10) (T := TX10) (N := 6) (ty := tyX10) cl13 dX10_put_1 (ob_up (ob_df ha o4).symm (ob_at o4).1 (ob_self ha)) 5 (by decide) t_207 e5 ?_
  refine x_ldc (M := M_X10_put) dX10_put_4 t_200 ?_
  refine x_icmp_ge (M := M_X10_put) (tgt := 30) dX10_put_6 (by decide) (fun q0 => ?_) (fun q0 => ?_)
  · exact x_vret (M := M_X10_put) dX10_put_30 rfl ⟨rfl, by rw [F_X10_put, if_pos q0, A4_X10_put, if_pos q0]⟩ (Nat.le_of_ble_eq_true rfl) (Nat.le_of_ble_eq_true rfl)
  · refine x_aload_n (M := M_X10_put) dX10_put_9 rfl ?_
    refine x_getf (M := M_X10_put) (ci := 13) (C := RX10) (T := TX10) (N := 6) (ty := tyX10) cl13 dX10_put_10 (ob_up (ob_df ha o4).symm (ob_at o4).1 (ob_self ha)) 4 (by decide) t_205 e4 ?_
    refine x_aload_n (M := M_X10_put) dX10_put_13 rfl ?_
    refine x_getf (M := M_X10_put) (ci := 13) (C := RX10) (T := TX10) (N := 6) (ty := tyX10) cl13 dX10_put_14 (ob_up (ob_df ha o4).symm (ob_at o4).1 (ob_self ha)) 5 (by decide) t_207 e5 ?_
    refine x_iload_n (M := M_X10_put) dX10_put_17 rfl ?_
    refine x_i2b (M := M_X10_put) dX10_put_18 ?_
    refine x_bast (M := M_X10_put) dX10_put_19 (ob_self (ob_oth ha o4)) (i0 q0) ?_
    refine x_heap (h' := (stt (stt h a (.inr (13, fs))) r4 (.inl (2, n4, .inl (upd c4 g5.toNatClampNeg (vp_nar .byte (w0.toInt8.toInt32))))))) (by rw [stt_stt (a := r4)]) ?_
    refine x_aload_n (M := M_X10_put) dX10_put_20 rfl ?_
    refine x_dup (M := M_X10_put) dX10_put_21 rfl ?_
    refine x_getf (M := M_X10_put) (ci := 13) (C := RX10) (T := TX10) (N := 6) (ty := tyX10) cl13 dX10_put_22 (ob_up (ob_df ha o4).symm (ob_at o4).1 (ob_self ha)) 5 (by decide) t_207 e5 ?_
    refine x_iconst (M := M_X10_put) dX10_put_25 ?_
    refine x_iadd (M := M_X10_put) dX10_put_26 ?_
    refine x_put (M := M_X10_put) (ci := 13) (C := RX10) (T := TX10) (N := 6) (ty := tyX10) cl13 dX10_put_27 (ob_up (ob_df ha o4).symm (ob_at o4).1 (ob_self ha)) 5 (by decide) t_207 (Or.inl rfl) (by simp only [List.length_set, hn]; decide) rfl ?_
    refine x_heap (h' := (stt (stt h a (.inr (13, (fs.set 5 (.int (g5 + (Int32.ofInt 1))))))) r4 (.inl (2, n4, .inl (upd c4 g5.toNatClampNeg (vp_nar .byte (w0.toInt8.toInt32))))))) (by rw [stt_sw (x := r4) (y := a) (ob_df ha o4).symm (ob_at o4).1 (ob_at ha).1, stt_stt (a := a)]) ?_
    exact x_vret (M := M_X10_put) dX10_put_30 rfl ⟨rfl, by rw [F_X10_put, if_neg q0, A4_X10_put, if_neg q0]⟩ (Nat.le_of_ble_eq_true rfl) (Nat.le_of_ble_eq_true rfl)
def f_X11_isBeyond (w0 : Int32) (w1 : Int32) : Int32 := if w0 < (-w1) then (Int32.ofInt 1) else (if w0 ≤ w1 then (Int32.ofInt 0) else ((Int32.ofInt 1)))
theorem b_X11_isBeyond (w0 : Int32) (w1 : Int32) : f_X11_isBeyond w0 w1 = 0 ∨ f_X11_isBeyond w0 w1 = 1 := (ite01 (Or.inr rfl) (ite01 (Or.inl rfl) (Or.inr rfl)))
theorem p_X11_isBeyond {l : Launch} {E : EE} (hl : l.stackTraces = false) {h : HP} {w0 : Int32} {w1 : Int32} : en_C l E M_X11_isBeyond 0 0 0 [.int w0, .int w1] h (pR (some (.int (f_X11_isBeyond w0 w1))) h) := by
  refine en_mk m_X11_isBeyond rfl hl (Nat.le_of_ble_eq_true rfl) ?_
  refine x_iload_n (M := M_X11_isBeyond) dX11_isBeyond_0 rfl ?_
  refine x_iload_n (M := M_X11_isBeyond) dX11_isBeyond_1 rfl ?_
  refine x_ineg (M := M_X11_isBeyond) dX11_isBeyond_2 ?_
  refine x_icmp_lt (M := M_X11_isBeyond) (tgt := 11) dX11_isBeyond_3 (by decide) (fun q0 => ?_) (fun q0 => ?_)
  · refine x_iconst (M := M_X11_isBeyond) dX11_isBeyond_11 ?_
    refine x_goto (M := M_X11_isBeyond) (tgt := 16) dX11_isBeyond_12 (by decide) ?_
    exact x_zret (M := M_X11_isBeyond) dX11_isBeyond_16 rfl (Or.inr rfl) ⟨by rw [f_X11_isBeyond, if_pos q0], rfl⟩ (Nat.le_of_ble_eq_true rfl) (Nat.le_of_ble_eq_true rfl)
  · refine x_iload_n (M := M_X11_isBeyond) dX11_isBeyond_6 rfl ?_
    refine x_iload_n (M := M_X11_isBeyond) dX11_isBeyond_7 rfl ?_
    refine x_icmp_le (M := M_X11_isBeyond) (tgt := 15) dX11_isBeyond_8 (by decide) (fun q1 => ?_) (fun q1 => ?_)
    · refine x_iconst (M := M_X11_isBeyond) dX11_isBeyond_15 ?_
      exact x_zret (M := M_X11_isBeyond) dX11_isBeyond_16 rfl (Or.inl rfl) ⟨by rw [f_X11_isBeyond, if_neg q0, if_pos q1], rfl⟩ (Nat.le_of_ble_eq_true rfl) (Nat.le_of_ble_eq_true rfl)
    · refine x_iconst (M := M_X11_isBeyond) dX11_isBeyond_11 ?_
      refine x_goto (M := M_X11_isBeyond) (tgt := 16) dX11_isBeyond_12 (by decide) ?_
      exact x_zret (M := M_X11_isBeyond) dX11_isBeyond_16 rfl (Or.inr rfl) ⟨by rw [f_X11_isBeyond, if_neg q0, if_neg q1], rfl⟩ (Nat.le_of_ble_eq_true rfl) (Nat.le_of_ble_eq_true rfl)
def f_X11_distanceFromBox (c15 : Nat → Int32) (w0 : Int32) (w1 : Int32) : Int64 := (((if (if ((w0.toInt64) - ((c15 (Int32.ofInt 2).toNatClampNeg).toInt64)) < (((c15 (Int32.ofInt 0).toNatClampNeg).toInt64) - (w0.toInt64)) then (((c15 (Int32.ofInt 0).toNatClampNeg).toInt64) - (w0.toInt64)) else ((w0.toInt64) - ((c15 (Int32.ofInt 2).toNatClampNeg).toInt64))) < (Int64.ofNat ((0 : Fin 2) : Nat)) then (Int64.ofNat ((0 : Fin 2) : Nat)) else (if ((w0.toInt64) - ((c15 (Int32.ofInt 2).toNatClampNeg).toInt64)) < (((c15 (Int32.ofInt 0).toNatClampNeg).toInt64) - (w0.toInt64)) then (((c15 (Int32.ofInt 0).toNatClampNeg).toInt64) - (w0.toInt64)) else ((w0.toInt64) - ((c15 (Int32.ofInt 2).toNatClampNeg).toInt64)))) * (if (if ((w0.toInt64) - ((c15 (Int32.ofInt 2).toNatClampNeg).toInt64)) < (((c15 (Int32.ofInt 0).toNatClampNeg).toInt64) - (w0.toInt64)) then (((c15 (Int32.ofInt 0).toNatClampNeg).toInt64) - (w0.toInt64)) else ((w0.toInt64) - ((c15 (Int32.ofInt 2).toNatClampNeg).toInt64))) < (Int64.ofNat ((0 : Fin 2) : Nat)) then (Int64.ofNat ((0 : Fin 2) : Nat)) else (if ((w0.toInt64) - ((c15 (Int32.ofInt 2).toNatClampNeg).toInt64)) < (((c15 (Int32.ofInt 0).toNatClampNeg).toInt64) - (w0.toInt64)) then (((c15 (Int32.ofInt 0).toNatClampNeg).toInt64) - (w0.toInt64)) else ((w0.toInt64) - ((c15 (Int32.ofInt 2).toNatClampNeg).toInt64))))) + ((if (if ((w1.toInt64) - ((c15 (Int32.ofInt 3).toNatClampNeg).toInt64)) < (((c15 (Int32.ofInt 1).toNatClampNeg).toInt64) - (w1.toInt64)) then (((c15 (Int32.ofInt 1).toNatClampNeg).toInt64) - (w1.toInt64)) else ((w1.toInt64) - ((c15 (Int32.ofInt 3).toNatClampNeg).toInt64))) < (Int64.ofNat ((0 : Fin 2) : Nat)) then (Int64.ofNat ((0 : Fin 2) : Nat)) else (if ((w1.toInt64) - ((c15 (Int32.ofInt 3).toNatClampNeg).toInt64)) < (((c15 (Int32.ofInt 1).toNatClampNeg).toInt64) - (w1.toInt64)) then (((c15 (Int32.ofInt 1).toNatClampNeg).toInt64) - (w1.toInt64)) else ((w1.toInt64) - ((c15 (Int32.ofInt 3).toNatClampNeg).toInt64)))) * (if (if ((w1.toInt64) - ((c15 (Int32.ofInt 3).toNatClampNeg).toInt64)) < (((c15 (Int32.ofInt 1).toNatClampNeg).toInt64) - (w1.toInt64)) then (((c15 (Int32.ofInt 1).toNatClampNeg).toInt64) - (w1.toInt64)) else ((w1.toInt64) - ((c15 (Int32.ofInt 3).toNatClampNeg).toInt64))) < (Int64.ofNat ((0 : Fin 2) : Nat)) then (Int64.ofNat ((0 : Fin 2) : Nat)) else (if ((w1.toInt64) - ((c15 (Int32.ofInt 3).toNatClampNeg).toInt64)) < (((c15 (Int32.ofInt 1).toNatClampNeg).toInt64) - (w1.toInt64)) then (((c15 (Int32.ofInt 1).toNatClampNeg).toInt64) - (w1.toInt64)) else ((w1.toInt64) - ((c15 (Int32.ofInt 3).toNatClampNeg).toInt64))))))
theorem p_X11_distanceFromBox {l : Launch} {E : EE} (hl : l.stackTraces = false) {h : HP} {c15 : Nat → Int32} {w0 : Int32} {w1 : Int32} {a : Nat} {fs : List Value} (ha : ob h a = some (.inr (14, fs))) {r15 n15 : Nat} (e15 : fs[15]? = some (.ref r15)) (o15 : ob h r15 = some (.inl (0, n15, .inl c15))) (i0 : vp_in (Int32.ofInt 0) n15) (i1 : vp_in (Int32.ofInt 2) n15) (i2 : vp_in (Int32.ofInt 1) n15) (i3 : vp_in (Int32.ofInt 3) n15) : en_C l E M_X11_distanceFromBox 1 0 0 [.ref a, .int w0, .int w1] h (pR (some (.long (f_X11_distanceFromBox c15 w0 w1))) h) := by
  refine en_mk m_X11_distanceFromBox rfl hl (Nat.le_of_ble_eq_true rfl) ?_
  refine x_lconst (M := M_X11_distanceFromBox) dX11_distanceFromBox_0 ?_
  refine x_aload_n (M := M_X11_distanceFromBox) dX11_distanceFromBox_1 rfl ?_
  refine x_getf (M := M_X11_distanceFromBox) (ci := 14) (C := RX11) (T := TX11) (N := 19) (ty := tyX11) cl14 dX11_distanceFromBox_2 ha 15 (by decide) t_578 e15 ?_
  refine x_iconst (M := M_X11_distanceFromBox) dX11_distanceFromBox_5 ?_
  refine x_iald (M := M_X11_distanceFromBox) dX11_distanceFromBox_6 o15 i0 ?_
  refine x_i2l (M := M_X11_distanceFromBox) dX11_distanceFromBox_7 ?_
  refine x_iload_n (M := M_X11_distanceFromBox) dX11_distanceFromBox_8 rfl ?_
  refine x_i2l (M := M_X11_distanceFromBox) dX11_distanceFromBox_9 ?_
  refine x_lsub (M := M_X11_distanceFromBox) dX11_distanceFromBox_10 ?_
  refine x_iload_n (M := M_X11_distanceFromBox) dX11_distanceFromBox_11 rfl ?_
  refine x_i2l (M := M_X11_distanceFromBox) dX11_distanceFromBox_12 ?_
  refine x_aload_n (M := M_X11_distanceFromBox) dX11_distanceFromBox_13 rfl ?_
  refine x_getf (M := M_X11_distanceFromBox) (ci := 14) (C := RX11) (T := TX11) (N := 19) (ty := tyX11) cl14 dX11_distanceFromBox_14 ha 15 (by decide) t_578 e15 ?_
  refine x_iconst (M := M_X11_distanceFromBox) dX11_distanceFromBox_17 ?_
  refine x_iald (M := M_X11_distanceFromBox) dX11_distanceFromBox_18 o15 i1 ?_
  refine x_i2l (M := M_X11_distanceFromBox) dX11_distanceFromBox_19 ?_
  refine x_lsub (M := M_X11_distanceFromBox) dX11_distanceFromBox_20 ?_
  refine x_lmax (M := M_X11_distanceFromBox) dX11_distanceFromBox_21 t_2265 t_1993 t_20 t_1994 (Nat.le_of_ble_eq_true rfl) (Nat.le_of_ble_eq_true rfl) (Nat.le_of_ble_eq_true rfl) (Nat.le_of_ble_eq_true rfl) ?_
  refine x_lmax (M := M_X11_distanceFromBox) dX11_distanceFromBox_24 t_2265 t_1993 t_20 t_1994 (Nat.le_of_ble_eq_true rfl) (Nat.le_of_ble_eq_true rfl) (Nat.le_of_ble_eq_true rfl) (Nat.le_of_ble_eq_true rfl) ?_
  refine x_lstore_n (M := M_X11_distanceFromBox) dX11_distanceFromBox_27 (by decide) rfl ?_
  refine x_norm (lv' := [some (.ref a), some (.int w0), some (.int w1), some (.long (if (if ((w0.toInt64) - ((c15 (Int32.ofInt 2).toNatClampNeg).toInt64)) < (((c15 (Int32.ofInt 0).toNatClampNeg).toInt64) - (w0.toInt64)) then (((c15 (Int32.ofInt 0).toNatClampNeg).toInt64) - (w0.toInt64)) else ((w0.toInt64) - ((c15 (Int32.ofInt 2).toNatClampNeg).toInt64))) < (Int64.ofNat ((0 : Fin 2) : Nat)) then (Int64.ofNat ((0 : Fin 2) : Nat)) else (if ((w0.toInt64) - ((c15 (Int32.ofInt 2).toNatClampNeg).toInt64)) < (((c15 (Int32.ofInt 0).toNatClampNeg).toInt64) - (w0.toInt64)) then (((c15 (Int32.ofInt 0).toNatClampNeg).toInt64) - (w0.toInt64)) else ((w0.toInt64) - ((c15 (Int32.ofInt 2).toNatClampNeg).toInt64))))), none, none, none]) rfl rfl rfl rfl rfl ?_
  refine x_lconst (M := M_X11_distanceFromBox) dX11_distanceFromBox_28 ?_
  refine x_aload_n (M := M_X11_distanceFromBox) dX11_distanceFromBox_29 rfl ?_
  refine x_getf (M := M_X11_distanceFromBox) (ci := 14) (C := RX11) (T := TX11) (N := 19) (ty := tyX11) cl14 dX11_distanceFromBox_30 ha 15 (by decide) t_578 e15 ?_
  refine x_iconst (M := M_X11_distanceFromBox) dX11_distanceFromBox_33 ?_
  refine x_iald (M := M_X11_distanceFromBox) dX11_distanceFromBox_34 o15 i2 ?_
  refine x_i2l (M := M_X11_distanceFromBox) dX11_distanceFromBox_35 ?_
  refine x_iload_n (M := M_X11_distanceFromBox) dX11_distanceFromBox_36 rfl ?_
  refine x_i2l (M := M_X11_distanceFromBox) dX11_distanceFromBox_37 ?_
  refine x_lsub (M := M_X11_distanceFromBox) dX11_distanceFromBox_38 ?_
  refine x_iload_n (M := M_X11_distanceFromBox) dX11_distanceFromBox_39 rfl ?_
  refine x_i2l (M := M_X11_distanceFromBox) dX11_distanceFromBox_40 ?_
  refine x_aload_n (M := M_X11_distanceFromBox) dX11_distanceFromBox_41 rfl ?_
  refine x_getf (M := M_X11_distanceFromBox) (ci := 14) (C := RX11) (T := TX11) (N := 19) (ty := tyX11) cl14 dX11_distanceFromBox_42 ha 15 (by decide) t_578 e15 ?_
  refine x_iconst (M := M_X11_distanceFromBox) dX11_distanceFromBox_45 ?_
  refine x_iald (M := M_X11_distanceFromBox) dX11_distanceFromBox_46 o15 i3 ?_
  refine x_i2l (M := M_X11_distanceFromBox) dX11_distanceFromBox_47 ?_
  refine x_lsub (M := M_X11_distanceFromBox) dX11_distanceFromBox_48 ?_
  refine x_lmax (M := M_X11_distanceFromBox) dX11_distanceFromBox_49 t_2265 t_1993 t_20 t_1994 (Nat.le_of_ble_eq_true rfl) (Nat.le_of_ble_eq_true rfl) (Nat.le_of_ble_eq_true rfl) (Nat.le_of_ble_eq_true rfl) ?_
  refine x_lmax (M := M_X11_distanceFromBox) dX11_distanceFromBox_52 t_2265 t_1993 t_20 t_1994 (Nat.le_of_ble_eq_true rfl) (Nat.le_of_ble_eq_true rfl) (Nat.le_of_ble_eq_true rfl) (Nat.le_of_ble_eq_true rfl) ?_
  refine x_lstore (M := M_X11_distanceFromBox) dX11_distanceFromBox_55 (by decide) rfl ?_
  refine x_norm (lv' := [some (.ref a), some (.int w0), some (.int w1), some (.long (if (if ((w0.toInt64) - ((c15 (Int32.ofInt 2).toNatClampNeg).toInt64)) < (((c15 (Int32.ofInt 0).toNatClampNeg).toInt64) - (w0.toInt64)) then (((c15 (Int32.ofInt 0).toNatClampNeg).toInt64) - (w0.toInt64)) else ((w0.toInt64) - ((c15 (Int32.ofInt 2).toNatClampNeg).toInt64))) < (Int64.ofNat ((0 : Fin 2) : Nat)) then (Int64.ofNat ((0 : Fin 2) : Nat)) else (if ((w0.toInt64) - ((c15 (Int32.ofInt 2).toNatClampNeg).toInt64)) < (((c15 (Int32.ofInt 0).toNatClampNeg).toInt64) - (w0.toInt64)) then (((c15 (Int32.ofInt 0).toNatClampNeg).toInt64) - (w0.toInt64)) else ((w0.toInt64) - ((c15 (Int32.ofInt 2).toNatClampNeg).toInt64))))), none, some (.long (if (if ((w1.toInt64) - ((c15 (Int32.ofInt 3).toNatClampNeg).toInt64)) < (((c15 (Int32.ofInt 1).toNatClampNeg).toInt64) - (w1.toInt64)) then (((c15 (Int32.ofInt 1).toNatClampNeg).toInt64) - (w1.toInt64)) else ((w1.toInt64) - ((c15 (Int32.ofInt 3).toNatClampNeg).toInt64))) < (Int64.ofNat ((0 : Fin 2) : Nat)) then (Int64.ofNat ((0 : Fin 2) : Nat)) else (if ((w1.toInt64) - ((c15 (Int32.ofInt 3).toNatClampNeg).toInt64)) < (((c15 (Int32.ofInt 1).toNatClampNeg).toInt64) - (w1.toInt64)) then (((c15 (Int32.ofInt 1).toNatClampNeg).toInt64) - (w1.toInt64)) else ((w1.toInt64) - ((c15 (Int32.ofInt 3).toNatClampNeg).toInt64))))), none]) rfl rfl rfl rfl rfl ?_
  refine x_lload_n (M := M_X11_distanceFromBox) dX11_distanceFromBox_57 rfl ?_
  refine x_lload_n (M := M_X11_distanceFromBox) dX11_distanceFromBox_58 rfl ?_
  refine x_lmul (M := M_X11_distanceFromBox) dX11_distanceFromBox_59 ?_
  refine x_lload (M := M_X11_distanceFromBox) dX11_distanceFromBox_60 rfl ?_
  refine x_lload (M := M_X11_distanceFromBox) dX11_distanceFromBox_62 rfl ?_
  refine x_lmul (M := M_X11_distanceFromBox) dX11_distanceFromBox_64 ?_
  refine x_ladd (M := M_X11_distanceFromBox) dX11_distanceFromBox_65 ?_
  exact x_lret (M := M_X11_distanceFromBox) dX11_distanceFromBox_66 rfl ⟨rfl, rfl⟩ (Nat.le_of_ble_eq_true rfl) (Nat.le_of_ble_eq_true rfl)
def f_X11_isNoSignPoint (w0 : Int32) : Int32 := if w0 < 0 then (Int32.ofInt 1) else (if w0 < (Int8.ofInt 32).toInt32 then (Int32.ofInt 0) else ((Int32.ofInt 1)))
theorem b_X11_isNoSignPoint (w0 : Int32) : f_X11_isNoSignPoint w0 = 0 ∨ f_X11_isNoSignPoint w0 = 1 := (ite01 (Or.inr rfl) (ite01 (Or.inl rfl) (Or.inr rfl)))
theorem p_X11_isNoSignPoint {l : Launch} {E : EE} (hl : l.stackTraces = false) {h : HP} {w0 : Int32} : en_C l E M_X11_isNoSignPoint 0 0 0 [.int w0] h (pR (some (.int (f_X11_isNoSignPoint w0))) h) := by
  refine en_mk m_X11_isNoSignPoint rfl hl (Nat.le_of_ble_eq_true rfl) ?_
  refine x_iload_n (M := M_X11_isNoSignPoint) dX11_isNoSignPoint_0 rfl ?_
  refine x_if_lt (M := M_X11_isNoSignPoint) (tgt := 10) dX11_isNoSignPoint_1 (by decide) (fun q0 => ?_) (fun q0 => ?_)
  · refine x_iconst (M := M_X11_isNoSignPoint) dX11_isNoSignPoint_10 ?_
    refine x_goto (M := M_X11_isNoSignPoint) (tgt := 15) dX11_isNoSignPoint_11 (by decide) ?_
    exact x_zret (M := M_X11_isNoSignPoint) dX11_isNoSignPoint_15 rfl (Or.inr rfl) ⟨by rw [f_X11_isNoSignPoint, if_pos q0], rfl⟩ (Nat.le_of_ble_eq_true rfl) (Nat.le_of_ble_eq_true rfl)
  · refine x_iload_n (M := M_X11_isNoSignPoint) dX11_isNoSignPoint_4 rfl ?_
    refine x_bipush (M := M_X11_isNoSignPoint) dX11_isNoSignPoint_5 ?_
    refine x_icmp_lt (M := M_X11_isNoSignPoint) (tgt := 14) dX11_isNoSignPoint_7 (by decide) (fun q1 => ?_) (fun q1 => ?_)
    · refine x_iconst (M := M_X11_isNoSignPoint) dX11_isNoSignPoint_14 ?_
      exact x_zret (M := M_X11_isNoSignPoint) dX11_isNoSignPoint_15 rfl (Or.inl rfl) ⟨by rw [f_X11_isNoSignPoint, if_neg q0, if_pos q1], rfl⟩ (Nat.le_of_ble_eq_true rfl) (Nat.le_of_ble_eq_true rfl)
    · refine x_iconst (M := M_X11_isNoSignPoint) dX11_isNoSignPoint_10 ?_
      refine x_goto (M := M_X11_isNoSignPoint) (tgt := 15) dX11_isNoSignPoint_11 (by decide) ?_
      exact x_zret (M := M_X11_isNoSignPoint) dX11_isNoSignPoint_15 rfl (Or.inr rfl) ⟨by rw [f_X11_isNoSignPoint, if_neg q0, if_neg q1], rfl⟩ (Nat.le_of_ble_eq_true rfl) (Nat.le_of_ble_eq_true rfl)
def f_X11_isNoNumber (w0 : Int64) : Int32 := if (lg_cmp (((w0.toUInt64 >>> ((Int8.ofInt 52).toInt32.toInt64.toUInt64 &&& Int64.toUInt64 63)).toInt64) &&& (2047 : Int64)) (2047 : Int64)) = 0 then (Int32.ofInt 1) else ((Int32.ofInt 0))
theorem b_X11_isNoNumber (w0 : Int64) : f_X11_isNoNumber w0 = 0 ∨ f_X11_isNoNumber w0 = 1 := (ite01 (Or.inr rfl) (Or.inl rfl))
theorem p_X11_isNoNumber {l : Launch} {E : EE} (hl : l.stackTraces = false) {h : HP} {w0 : Int64} : en_C l E M_X11_isNoNumber 0 0 0 [.long w0] h (pR (some (.int (f_X11_isNoNumber w0))) h) := by
  refine en_mk m_X11_isNoNumber rfl hl (Nat.le_of_ble_eq_true rfl) ?_
  refine x_lload_n (M := M_X11_isNoNumber) dX11_isNoNumber_0 rfl ?_
  refine x_bipush (M := M_X11_isNoNumber) dX11_isNoNumber_1 ?_
  refine x_lushr (M := M_X11_isNoNumber) dX11_isNoNumber_3 ?_
  refine x_ldc2 (M := M_X11_isNoNumber) dX11_isNoNumber_4 t_2315 ?_
  refine x_land (M := M_X11_isNoNumber) dX11_isNoNumber_7 ?_
  refine x_ldc2 (M := M_X11_isNoNumber) dX11_isNoNumber_8 t_2315 ?_
  refine x_lcmp (M := M_X11_isNoNumber) dX11_isNoNumber_11 ?_
  refine x_if_ne (M := M_X11_isNoNumber) (tgt := 19) dX11_isNoNumber_12 (by decide) (fun q0 => ?_) (fun q0 => ?_)
  · refine x_iconst (M := M_X11_isNoNumber) dX11_isNoNumber_19 ?_
    exact x_zret (M := M_X11_isNoNumber) dX11_isNoNumber_20 rfl (Or.inl rfl) ⟨by rw [f_X11_isNoNumber, if_neg q0], rfl⟩ (Nat.le_of_ble_eq_true rfl) (Nat.le_of_ble_eq_true rfl)
  · refine x_iconst (M := M_X11_isNoNumber) dX11_isNoNumber_15 ?_
    refine x_goto (M := M_X11_isNoNumber) (tgt := 20) dX11_isNoNumber_16 (by decide) ?_
    exact x_zret (M := M_X11_isNoNumber) dX11_isNoNumber_20 rfl (Or.inr rfl) ⟨by rw [f_X11_isNoNumber, if_pos q0], rfl⟩ (Nat.le_of_ble_eq_true rfl) (Nat.le_of_ble_eq_true rfl)
def f_X11_carryOf (w0 : Int64) (w1 : Int64) : Int32 := if 0 ≤ (lg_cmp (w0 + (-9223372036854775808 : Int64)) (w1 + (-9223372036854775808 : Int64))) then (Int32.ofInt 0) else ((Int32.ofInt 1))
theorem p_X11_carryOf {l : Launch} {E : EE} (hl : l.stackTraces = false) {h : HP} {w0 : Int64} {w1 : Int64} : en_C l E M_X11_carryOf 0 0 0 [.long w0, .long w1] h (pR (some (.int (f_X11_carryOf w0 w1))) h) := by
  refine en_mk m_X11_carryOf rfl hl (Nat.le_of_ble_eq_true rfl) ?_
  refine x_lload_n (M := M_X11_carryOf) dX11_carryOf_0 rfl ?_
  refine x_ldc2 (M := M_X11_carryOf) dX11_carryOf_1 t_1946 ?_
  refine x_ladd (M := M_X11_carryOf) dX11_carryOf_4 ?_
  refine x_lload_n (M := M_X11_carryOf) dX11_carryOf_5 rfl ?_
  refine x_ldc2 (M := M_X11_carryOf) dX11_carryOf_6 t_1946 ?_
  refine x_ladd (M := M_X11_carryOf) dX11_carryOf_9 ?_
  refine x_lcmp (M := M_X11_carryOf) dX11_carryOf_10 ?_
  refine x_if_ge (M := M_X11_carryOf) (tgt := 18) dX11_carryOf_11 (by decide) (fun q0 => ?_) (fun q0 => ?_)
  · refine x_iconst (M := M_X11_carryOf) dX11_carryOf_18 ?_
    exact x_iret (M := M_X11_carryOf) dX11_carryOf_19 rfl ⟨by rw [f_X11_carryOf, if_pos q0], rfl⟩ (Nat.le_of_ble_eq_true rfl) (Nat.le_of_ble_eq_true rfl)
  · refine x_iconst (M := M_X11_carryOf) dX11_carryOf_14 ?_
    refine x_goto (M := M_X11_carryOf) (tgt := 19) dX11_carryOf_15 (by decide) ?_
    exact x_iret (M := M_X11_carryOf) dX11_carryOf_19 rfl ⟨by rw [f_X11_carryOf, if_neg q0], rfl⟩ (Nat.le_of_ble_eq_true rfl) (Nat.le_of_ble_eq_true rfl)
def f_X11_highOf (w0 : Int64) (w1 : Int64) : Int64 := ((((w0 >>> ((Int8.ofInt 32).toInt32.toInt64 &&& 63)) * (w1 >>> ((Int8.ofInt 32).toInt32.toInt64 &&& 63))) + ((((w0 >>> ((Int8.ofInt 32).toInt32.toInt64 &&& 63)) * (w1 &&& (4294967295 : Int64))) + ((((w0 &&& (4294967295 : Int64)) * (w1 &&& (4294967295 : Int64))).toUInt64 >>> ((Int8.ofInt 32).toInt32.toInt64.toUInt64 &&& Int64.toUInt64 63)).toInt64)) >>> ((Int8.ofInt 32).toInt32.toInt64 &&& 63))) + ((((w0 &&& (4294967295 : Int64)) * (w1 >>> ((Int8.ofInt 32).toInt32.toInt64 &&& 63))) + ((((w0 >>> ((Int8.ofInt 32).toInt32.toInt64 &&& 63)) * (w1 &&& (4294967295 : Int64))) + ((((w0 &&& (4294967295 : Int64)) * (w1 &&& (4294967295 : Int64))).toUInt64 >>> ((Int8.ofInt 32).toInt32.toInt64.toUInt64 &&& Int64.toUInt64 63)).toInt64)) &&& (4294967295 : Int64))) >>> ((Int8.ofInt 32).toInt32.toInt64 &&& 63)))
theorem p_X11_highOf {l : Launch} {E : EE} (hl : l.stackTraces = false) {h : HP} {w0 : Int64} {w1 : Int64} : en_C l E M_X11_highOf 0 0 0 [.long w0, .long w1] h (pR (some (.long (f_X11_highOf w0 w1))) h) := by
  refine en_mk m_X11_highOf rfl hl (Nat.le_of_ble_eq_true rfl) ?_
  refine x_ldc2 (M := M_X11_highOf) dX11_highOf_0 t_1429 ?_
  refine x_lstore (M := M_X11_highOf) dX11_highOf_3 (by decide) rfl ?_
  refine x_norm (lv' := [some (.long w0), none, some (.long w1), none, some (.long (4294967295 : Int64)), none, none, none, none, none, none, none, none, none, none, none, none, none]) rfl rfl rfl rfl rfl ?_
  refine x_lload_n (M := M_X11_highOf) dX11_highOf_5 rfl ?_
  refine x_lload (M := M_X11_highOf) dX11_highOf_6 rfl ?_
  refine x_land (M := M_X11_highOf) dX11_highOf_8 ?_
  refine x_lstore (M := M_X11_highOf) dX11_highOf_9 (by decide) rfl ?_
  refine x_norm (lv' := [some (.long w0), none, some (.long w1), none, some (.long (4294967295 : Int64)), none, some (.long (w0 &&& (4294967295 : Int64))), none, none, none, none, none, none, none, none, none, none, none]) rfl rfl rfl rfl rfl ?_
  refine x_lload_n (M := M_X11_highOf) dX11_highOf_11 rfl ?_
  refine x_bipush (M := M_X11_highOf) dX11_highOf_12 ?_
  refine x_lshr (M := M_X11_highOf) dX11_highOf_14 ?_
  refine x_lstore (M := M_X11_highOf) dX11_highOf_15 (by decide) rfl ?_
  refine x_norm (lv' := [some (.long w0), none, some (.long w1), none, some (.long (4294967295 : Int64)), none, some (.long (w0 &&& (4294967295 : Int64))), none, some (.long (w0 >>> ((Int8.ofInt 32).toInt32.toInt64 &&& 63))), none, none, none, none, none, none, none, none, none]) rfl rfl rfl rfl rfl ?_
  refine x_lload_n (M := M_X11_highOf) dX11_highOf_17 rfl ?_
  refine x_lload (M := M_X11_highOf) dX11_highOf_18 rfl ?_
  refine x_land (M := M_X11_highOf) dX11_highOf_20 ?_
  refine x_lstore (M := M_X11_highOf) dX11_highOf_21 (by decide) rfl ?_
  refine x_norm (lv' := [some (.long w0), none, some (.long w1), none, some (.long (4294967295 : Int64)), none, some (.long (w0 &&& (4294967295 : Int64))), none, some (.long (w0 >>> ((Int8.ofInt 32).toInt32.toInt64 &&& 63))), none, some (.long (w1 &&& (4294967295 : Int64))), none, none, none, none, none, none, none]) rfl rfl rfl rfl rfl ?_
  refine x_lload_n (M := M_X11_highOf) dX11_highOf_23 rfl ?_
  refine x_bipush (M := M_X11_highOf) dX11_highOf_24 ?_
  refine x_lshr (M := M_X11_highOf) dX11_highOf_26 ?_
  refine x_lstore (M := M_X11_highOf) dX11_highOf_27 (by decide) rfl ?_
  refine x_norm (lv' := [some (.long w0), none, some (.long w1), none, some (.long (4294967295 : Int64)), none, some (.long (w0 &&& (4294967295 : Int64))), none, some (.long (w0 >>> ((Int8.ofInt 32).toInt32.toInt64 &&& 63))), none, some (.long (w1 &&& (4294967295 : Int64))), none, some (.long (w1 >>> ((Int8.ofInt 32).toInt32.toInt64 &&& 63))), none, none, none, none, none]) rfl rfl rfl rfl rfl ?_
  refine x_lload (M := M_X11_highOf) dX11_highOf_29 rfl ?_
  refine x_lload (M := M_X11_highOf) dX11_highOf_31 rfl ?_
  refine x_lmul (M := M_X11_highOf) dX11_highOf_33 ?_
  refine x_lload (M := M_X11_highOf) dX11_highOf_34 rfl ?_
  refine x_lload (M := M_X11_highOf) dX11_highOf_36 rfl ?_
  refine x_lmul (M := M_X11_highOf) dX11_highOf_38 ?_
  refine x_bipush (M := M_X11_highOf) dX11_highOf_39 ?_
  refine x_lushr (M := M_X11_highOf) dX11_highOf_41 ?_
  refine x_ladd (M := M_X11_highOf) dX11_highOf_42 ?_
  refine x_lstore (M := M_X11_highOf) dX11_highOf_43 (by decide) rfl ?_
  refine x_norm (lv' := [some (.long w0), none, some (.long w1), none, some (.long (4294967295 : Int64)), none, some (.long (w0 &&& (4294967295 : Int64))), none, some (.long (w0 >>> ((Int8.ofInt 32).toInt32.toInt64 &&& 63))), none, some (.long (w1 &&& (4294967295 : Int64))), none, some (.long (w1 >>> ((Int8.ofInt 32).toInt32.toInt64 &&& 63))), none, some (.long (((w0 >>> ((Int8.ofInt 32).toInt32.toInt64 &&& 63)) * (w1 &&& (4294967295 : Int64))) + ((((w0 &&& (4294967295 : Int64)) * (w1 &&& (4294967295 : Int64))).toUInt64 >>> ((Int8.ofInt 32).toInt32.toInt64.toUInt64 &&& Int64.toUInt64 63)).toInt64))), none, none, none]) rfl rfl rfl rfl rfl ?_
  refine x_lload (M := M_X11_highOf) dX11_highOf_45 rfl ?_
  refine x_lload (M := M_X11_highOf) dX11_highOf_47 rfl ?_
  refine x_lmul (M := M_X11_highOf) dX11_highOf_49 ?_
  refine x_lload (M := M_X11_highOf) dX11_highOf_50 rfl ?_
  refine x_lload (M := M_X11_highOf) dX11_highOf_52 rfl ?_
  refine x_land (M := M_X11_highOf) dX11_highOf_54 ?_
  refine x_ladd (M := M_X11_highOf) dX11_highOf_55 ?_
  refine x_lstore (M := M_X11_highOf) dX11_highOf_56 (by decide) rfl ?_
  refine x_norm (lv' := [some (.long w0), none, some (.long w1), none, some (.long (4294967295 : Int64)), none, some (.long (w0 &&& (4294967295 : Int64))), none, some (.long (w0 >>> ((Int8.ofInt 32).toInt32.toInt64 &&& 63))), none, some (.long (w1 &&& (4294967295 : Int64))), none, some (.long (w1 >>> ((Int8.ofInt 32).toInt32.toInt64 &&& 63))), none, some (.long (((w0 >>> ((Int8.ofInt 32).toInt32.toInt64 &&& 63)) * (w1 &&& (4294967295 : Int64))) + ((((w0 &&& (4294967295 : Int64)) * (w1 &&& (4294967295 : Int64))).toUInt64 >>> ((Int8.ofInt 32).toInt32.toInt64.toUInt64 &&& Int64.toUInt64 63)).toInt64))), none, some (.long (((w0 &&& (4294967295 : Int64)) * (w1 >>> ((Int8.ofInt 32).toInt32.toInt64 &&& 63))) + ((((w0 >>> ((Int8.ofInt 32).toInt32.toInt64 &&& 63)) * (w1 &&& (4294967295 : Int64))) + ((((w0 &&& (4294967295 : Int64)) * (w1 &&& (4294967295 : Int64))).toUInt64 >>> ((Int8.ofInt 32).toInt32.toInt64.toUInt64 &&& Int64.toUInt64 63)).toInt64)) &&& (4294967295 : Int64)))), none]) rfl rfl rfl rfl rfl ?_
  refine x_lload (M := M_X11_highOf) dX11_highOf_58 rfl ?_
  refine x_lload (M := M_X11_highOf) dX11_highOf_60 rfl ?_
  refine x_lmul (M := M_X11_highOf) dX11_highOf_62 ?_
  refine x_lload (M := M_X11_highOf) dX11_highOf_63 rfl ?_
  refine x_bipush (M := M_X11_highOf) dX11_highOf_65 ?_
  refine x_lshr (M := M_X11_highOf) dX11_highOf_67 ?_
  refine x_ladd (M := M_X11_highOf) dX11_highOf_68 ?_
  refine x_lload (M := M_X11_highOf) dX11_highOf_69 rfl ?_
  refine x_bipush (M := M_X11_highOf) dX11_highOf_71 ?_
  refine x_lshr (M := M_X11_highOf) dX11_highOf_73 ?_
  refine x_ladd (M := M_X11_highOf) dX11_highOf_74 ?_
  exact x_lret (M := M_X11_highOf) dX11_highOf_75 rfl ⟨rfl, rfl⟩ (Nat.le_of_ble_eq_true rfl) (Nat.le_of_ble_eq_true rfl)
def f_X11_keyOf (w0 : Int32) (w1 : Int32) : Int64 := (((w0.toInt64) <<< ((Int8.ofInt 32).toInt32.toInt64 &&& 63)) ||| (((w1 ^^^ (-2147483648 : Int32)).toInt64) &&& (4294967295 : Int64)))
theorem p_X11_keyOf {l : Launch} {E : EE} (hl : l.stackTraces = false) {h : HP} {w0 : Int32} {w1 : Int32} : en_C l E M_X11_keyOf 0 0 0 [.int w0, .int w1] h (pR (some (.long (f_X11_keyOf w0 w1))) h) := by
  refine en_mk m_X11_keyOf rfl hl (Nat.le_of_ble_eq_true rfl) ?_
  refine x_iload_n (M := M_X11_keyOf) dX11_keyOf_0 rfl ?_
  refine x_i2l (M := M_X11_keyOf) dX11_keyOf_1 ?_
  refine x_bipush (M := M_X11_keyOf) dX11_keyOf_2 ?_
  refine x_lshl (M := M_X11_keyOf) dX11_keyOf_4 ?_
  refine x_iload_n (M := M_X11_keyOf) dX11_keyOf_5 rfl ?_
  refine x_ldcw (M := M_X11_keyOf) dX11_keyOf_6 t_1428 ?_
  refine x_ixor (M := M_X11_keyOf) dX11_keyOf_9 ?_
  refine x_i2l (M := M_X11_keyOf) dX11_keyOf_10 ?_
  refine x_ldc2 (M := M_X11_keyOf) dX11_keyOf_11 t_1429 ?_
  refine x_land (M := M_X11_keyOf) dX11_keyOf_14 ?_
  refine x_lor (M := M_X11_keyOf) dX11_keyOf_15 ?_
  exact x_lret (M := M_X11_keyOf) dX11_keyOf_16 rfl ⟨rfl, rfl⟩ (Nat.le_of_ble_eq_true rfl) (Nat.le_of_ble_eq_true rfl)
def f_X11_keyX (w0 : Int64) : Int32 := ((w0 >>> ((Int8.ofInt 32).toInt32.toInt64 &&& 63)).toInt32)
theorem p_X11_keyX {l : Launch} {E : EE} (hl : l.stackTraces = false) {h : HP} {w0 : Int64} : en_C l E M_X11_keyX 0 0 0 [.long w0] h (pR (some (.int (f_X11_keyX w0))) h) := by
  refine en_mk m_X11_keyX rfl hl (Nat.le_of_ble_eq_true rfl) ?_
  refine x_lload_n (M := M_X11_keyX) dX11_keyX_0 rfl ?_
  refine x_bipush (M := M_X11_keyX) dX11_keyX_1 ?_
  refine x_lshr (M := M_X11_keyX) dX11_keyX_3 ?_
  refine x_l2i (M := M_X11_keyX) dX11_keyX_4 ?_
  exact x_iret (M := M_X11_keyX) dX11_keyX_5 rfl ⟨rfl, rfl⟩ (Nat.le_of_ble_eq_true rfl) (Nat.le_of_ble_eq_true rfl)
def f_X11_keyY (w0 : Int64) : Int32 := ((w0.toInt32) ^^^ (-2147483648 : Int32))
theorem p_X11_keyY {l : Launch} {E : EE} (hl : l.stackTraces = false) {h : HP} {w0 : Int64} : en_C l E M_X11_keyY 0 0 0 [.long w0] h (pR (some (.int (f_X11_keyY w0))) h) := by
  refine en_mk m_X11_keyY rfl hl (Nat.le_of_ble_eq_true rfl) ?_
  refine x_lload_n (M := M_X11_keyY) dX11_keyY_0 rfl ?_
  refine x_l2i (M := M_X11_keyY) dX11_keyY_1 ?_
  refine x_ldcw (M := M_X11_keyY) dX11_keyY_2 t_1428 ?_
  refine x_ixor (M := M_X11_keyY) dX11_keyY_5 ?_
  exact x_iret (M := M_X11_keyY) dX11_keyY_6 rfl ⟨rfl, rfl⟩ (Nat.le_of_ble_eq_true rfl) (Nat.le_of_ble_eq_true rfl)
def f_X12_thrown (g0 : Int32) : Int32 := g0
theorem p_X12_thrown {l : Launch} {E : EE} (hl : l.stackTraces = false) {h : HP} {g0 : Int32} {a : Nat} {fs : List Value} (ha : ob h a = some (.inr (15, fs))) (e0 : fs[0]? = some (.int g0)) : en_C l E M_X12_thrown 0 0 0 [.ref a] h (pR (some (.int (f_X12_thrown g0))) h) := by
  refine en_mk m_X12_thrown rfl hl (Nat.le_of_ble_eq_true rfl) ?_
  refine x_aload_n (M := M_X12_thrown) dX12_thrown_0 rfl ?_
  refine x_getf (M := M_X12_thrown) (ci := 15) (C := RX12) (T := TX12) (N := 135) (ty := tyX12) cl15 dX12_thrown_1 ha 0 (by decide) t_2391 e0 ?_
  exact x_iret (M := M_X12_thrown) dX12_thrown_4 rfl ⟨rfl, rfl⟩ (Nat.le_of_ble_eq_true rfl) (Nat.le_of_ble_eq_true rfl)
def f_X12_fails (g0 : Int32) (w0 : Int32) (w1 : Int32) : Int32 := if w0 = 0 then if g0 = 0 then (Int32.ofInt 0) else ((Int32.ofInt 1)) else (if g0 = 0 then if w1 = 0 then (Int32.ofInt 0) else ((Int32.ofInt 1)) else (if g0 = 0 then (Int32.ofInt 0) else ((Int32.ofInt 1))))
theorem b_X12_fails (g0 : Int32) (w0 : Int32) (w1 : Int32) : f_X12_fails g0 w0 w1 = 0 ∨ f_X12_fails g0 w0 w1 = 1 := (ite01 (ite01 (Or.inl rfl) (Or.inr rfl)) (ite01 (ite01 (Or.inl rfl) (Or.inr rfl)) (ite01 (Or.inl rfl) (Or.inr rfl))))
def F_X12_fails (fs : List Value) (g0 : Int32) (w0 : Int32) (w1 : Int32) : List Value := if w0 = 0 then if g0 = 0 then (fs.set 0 (.int g0)) else ((fs.set 0 (.int g0))) else (if g0 = 0 then if w1 = 0 then (fs.set 0 (.int w1)) else ((fs.set 0 (.int w1))) else (if g0 = 0 then (fs.set 0 (.int g0)) else ((fs.set 0 (.int g0)))))
theorem l_X12_fails {fs : List Value} {g0 : Int32} {w0 : Int32} {w1 : Int32} : (F_X12_fails fs g0 w0 w1).length = fs.length := by
  unfold F_X12_fails
  repeat' split
  all_goals first | rfl | simp only [List.length_set]
theorem k_X12_fails {fs : List Value} {g0 : Int32} {w0 : Int32} {w1 : Int32} {k : Nat} (hk : k ∉ ([0] : List Nat)) : (F_X12_fails fs g0 w0 w1)[k]? = fs[k]? := by
  simp only [List.mem_cons, List.not_mem_nil, or_false, not_or] at hk
  unfold F_X12_fails
  repeat' split
  all_goals first | rfl | simp only [List.getElem?_set_ne (by omega : 0 ≠ k)]
def V0_X12_fails (g0 : Int32) (w0 : Int32) (w1 : Int32) : Int32 := if w0 = 0 then if g0 = 0 then g0 else (g0) else (if g0 = 0 then if w1 = 0 then w1 else (w1) else (if g0 = 0 then g0 else (g0)))
theorem v0_X12_fails {fs : List Value} {g0 : Int32} {w0 : Int32} {w1 : Int32} (hn : fs.length = 135) (e0 : fs[0]? = some (.int g0)) : (F_X12_fails fs g0 w0 w1)[0]? = some (.int (V0_X12_fails g0 w0 w1)) := by
  unfold F_X12_fails V0_X12_fails
  exact (gi (gi (gs_eq (by simp only [List.length_set, hn]; decide)) (gs_eq (by simp only [List.length_set, hn]; decide))) (gi (gi (gs_eq (by simp only [List.length_set, hn]; decide)) (gs_eq (by simp only [List.length_set, hn]; decide))) (gi (gs_eq (by simp only [List.length_set, hn]; decide)) (gs_eq (by simp only [List.length_set, hn]; decide)))))
theorem p_X12_fails {l : Launch} {E : EE} (hl : l.stackTraces = false) {h : HP} {g0 : Int32} {w0 : Int32} {w1 : Int32} {a : Nat} {fs : List Value} (ha : ob h a = some (.inr (15, fs))) (hn : fs.length = 135) (e0 : fs[0]? = some (.int g0)) : en_C l E M_X12_fails 0 0 0 [.ref a, .int w0, .int w1] h (pR (some (.int (f_X12_fails g0 w0 w1))) (stt h a (.inr (15, F_X12_fails fs g0 w0 w1)))) := by
  refine en_mk m_X12_fails rfl hl (Nat.le_of_ble_eq_true rfl) ?_
  refine x_heap (h' := (stt h a (.inr (15, fs)))) (by rw [stt_id ha]) ?_
  refine x_aload_n (M := M_X12_fails) dX12_fails_0 rfl ?_
  refine x_iload_n (M := M_X12_fails) dX12_fails_1 rfl ?_
  refine x_if_eq (M := M_X12_fails) (tgt := 16) dX12_fails_2 (by decide) (fun q0 => ?_) (fun q0 => ?_)
  · refine x_aload_n (M := M_X12_fails) dX12_fails_16 rfl ?_
    refine x_getf (M := M_X12_fails) (ci := 15) (C := RX12) (T := TX12) (N := 135) (ty := tyX12) cl15 dX12_fails_17 (ob_self ha) 0 (by decide) t_2391 e0 ?_
    refine x_put (M := M_X12_fails) (ci := 15) (C := RX12) (T := TX12) (N := 135) (ty := tyX12) cl15 dX12_fails_20 (ob_self ha) 0 (by decide) t_2391 (Or.inl rfl) (by simp only [List.length_set, hn]; decide) rfl ?_
    refine x_heap (h' := (stt h a (.inr (15, (fs.set 0 (.int g0)))))) (by rw [stt_stt (a := a)]) ?_
    refine x_aload_n (M := M_X12_fails) dX12_fails_23 rfl ?_
    refine x_getf (M := M_X12_fails) (ci := 15) (C := RX12) (T := TX12) (N := 135) (ty := tyX12) cl15 dX12_fails_24 (ob_self ha) 0 (by decide) t_2391 (gs_eq (by simp only [List.length_set, hn]; decide)) ?_
    refine x_if_eq (M := M_X12_fails) (tgt := 34) dX12_fails_27 (by decide) (fun q1 => ?_) (fun q1 => ?_)
    · refine x_iconst (M := M_X12_fails) dX12_fails_34 ?_
      exact x_zret (M := M_X12_fails) dX12_fails_35 rfl (Or.inl rfl) ⟨by rw [f_X12_fails, if_pos q0, if_pos q1], by rw [F_X12_fails, if_pos q0, if_pos q1]⟩ (Nat.le_of_ble_eq_true rfl) (Nat.le_of_ble_eq_true rfl)
    · refine x_iconst (M := M_X12_fails) dX12_fails_30 ?_
      refine x_goto (M := M_X12_fails) (tgt := 35) dX12_fails_31 (by decide) ?_
      exact x_zret (M := M_X12_fails) dX12_fails_35 rfl (Or.inr rfl) ⟨by rw [f_X12_fails, if_pos q0, if_neg q1], by rw [F_X12_fails, if_pos q0, if_neg q1]⟩ (Nat.le_of_ble_eq_true rfl) (Nat.le_of_ble_eq_true rfl)
  · refine x_aload_n (M := M_X12_fails) dX12_fails_5 rfl ?_
    refine x_getf (M := M_X12_fails) (ci := 15) (C := RX12) (T := TX12) (N := 135) (ty := tyX12) cl15 dX12_fails_6 (ob_self ha) 0 (by decide) t_2391 e0 ?_
    refine x_if_ne (M := M_X12_fails) (tgt := 16) dX12_fails_9 (by decide) (fun q1 => ?_) (fun q1 => ?_)
    · refine x_aload_n (M := M_X12_fails) dX12_fails_16 rfl ?_
      refine x_getf (M := M_X12_fails) (ci := 15) (C := RX12) (T := TX12) (N := 135) (ty := tyX12) cl15 dX12_fails_17 (ob_self ha) 0 (by decide) t_2391 e0 ?_
      refine x_put (M := M_X12_fails) (ci := 15) (C := RX12) (T := TX12) (N := 135) (ty := tyX12) cl15 dX12_fails_20 (ob_self ha) 0 (by decide) t_2391 (Or.inl rfl) (by simp only [List.length_set, hn]; decide) rfl ?_
      refine x_heap (h' := (stt h a (.inr (15, (fs.set 0 (.int g0)))))) (by rw [stt_stt (a := a)]) ?_
      refine x_aload_n (M := M_X12_fails) dX12_fails_23 rfl ?_
      refine x_getf (M := M_X12_fails) (ci := 15) (C := RX12) (T := TX12) (N := 135) (ty := tyX12) cl15 dX12_fails_24 (ob_self ha) 0 (by decide) t_2391 (gs_eq (by simp only [List.length_set, hn]; decide)) ?_
      refine x_if_eq (M := M_X12_fails) (tgt := 34) dX12_fails_27 (by decide) (fun q2 => ?_) (fun q2 => ?_)
      · refine x_iconst (M := M_X12_fails) dX12_fails_34 ?_
        exact x_zret (M := M_X12_fails) dX12_fails_35 rfl (Or.inl rfl) ⟨by rw [f_X12_fails, if_neg q0, if_neg q1, if_pos q2], by rw [F_X12_fails, if_neg q0, if_neg q1, if_pos q2]⟩ (Nat.le_of_ble_eq_true rfl) (Nat.le_of_ble_eq_true rfl)
      · refine x_iconst (M := M_X12_fails) dX12_fails_30 ?_
        refine x_goto (M := M_X12_fails) (tgt := 35) dX12_fails_31 (by decide) ?_
        exact x_zret (M := M_X12_fails) dX12_fails_35 rfl (Or.inr rfl) ⟨by rw [f_X12_fails, if_neg q0, if_neg q1, if_neg q2], by rw [F_X12_fails, if_neg q0, if_neg q1, if_neg q2]⟩ (Nat.le_of_ble_eq_true rfl) (Nat.le_of_ble_eq_true rfl)
    · refine x_iload_n (M := M_X12_fails) dX12_fails_12 rfl ?_
      refine x_goto (M := M_X12_fails) (tgt := 20) dX12_fails_13 (by decide) ?_
      refine x_put (M := M_X12_fails) (ci := 15) (C := RX12) (T := TX12) (N := 135) (ty := tyX12) cl15 dX12_fails_20 (ob_self ha) 0 (by decide) t_2391 (Or.inl rfl) (by simp only [List.length_set, hn]; decide) rfl ?_
      refine x_heap (h' := (stt h a (.inr (15, (fs.set 0 (.int w1)))))) (by rw [stt_stt (a := a)]) ?_
      refine x_aload_n (M := M_X12_fails) dX12_fails_23 rfl ?_
      refine x_getf (M := M_X12_fails) (ci := 15) (C := RX12) (T := TX12) (N := 135) (ty := tyX12) cl15 dX12_fails_24 (ob_self ha) 0 (by decide) t_2391 (gs_eq (by simp only [List.length_set, hn]; decide)) ?_
      refine x_if_eq (M := M_X12_fails) (tgt := 34) dX12_fails_27 (by decide) (fun q2 => ?_) (fun q2 => ?_)
      · refine x_iconst (M := M_X12_fails) dX12_fails_34 ?_
        exact x_zret (M := M_X12_fails) dX12_fails_35 rfl (Or.inl rfl) ⟨by rw [f_X12_fails, if_neg q0, if_pos q1, if_pos q2], by rw [F_X12_fails, if_neg q0, if_pos q1, if_pos q2]⟩ (Nat.le_of_ble_eq_true rfl) (Nat.le_of_ble_eq_true rfl)
      · refine x_iconst (M := M_X12_fails) dX12_fails_30 ?_
        refine x_goto (M := M_X12_fails) (tgt := 35) dX12_fails_31 (by decide) ?_
        exact x_zret (M := M_X12_fails) dX12_fails_35 rfl (Or.inr rfl) ⟨by rw [f_X12_fails, if_neg q0, if_pos q1, if_neg q2], by rw [F_X12_fails, if_neg q0, if_pos q1, if_neg q2]⟩ (Nat.le_of_ble_eq_true rfl) (Nat.le_of_ble_eq_true rfl)
def f_X12_in (w0 : Int64) (w1 : Int64) (w2 : Int64) : Int32 := if (lg_cmp w0 w1) < 0 then (Int32.ofInt 0) else (if 0 < (lg_cmp w0 w2) then (Int32.ofInt 0) else ((Int32.ofInt 1)))
theorem b_X12_in (w0 : Int64) (w1 : Int64) (w2 : Int64) : f_X12_in w0 w1 w2 = 0 ∨ f_X12_in w0 w1 w2 = 1 := (ite01 (Or.inl rfl) (ite01 (Or.inl rfl) (Or.inr rfl)))
theorem p_X12_in {l : Launch} {E : EE} (hl : l.stackTraces = false) {h : HP} {w0 : Int64} {w1 : Int64} {w2 : Int64} : en_C l E M_X12_in 0 0 0 [.long w0, .long w1, .long w2] h (pR (some (.int (f_X12_in w0 w1 w2))) h) := by
  refine en_mk m_X12_in rfl hl (Nat.le_of_ble_eq_true rfl) ?_
  refine x_lload_n (M := M_X12_in) dX12_in_0 rfl ?_
  refine x_lload_n (M := M_X12_in) dX12_in_1 rfl ?_
  refine x_lcmp (M := M_X12_in) dX12_in_2 ?_
  refine x_if_lt (M := M_X12_in) (tgt := 17) dX12_in_3 (by decide) (fun q0 => ?_) (fun q0 => ?_)
  · refine x_iconst (M := M_X12_in) dX12_in_17 ?_
    exact x_zret (M := M_X12_in) dX12_in_18 rfl (Or.inl rfl) ⟨by rw [f_X12_in, if_pos q0], rfl⟩ (Nat.le_of_ble_eq_true rfl) (Nat.le_of_ble_eq_true rfl)
  · refine x_lload_n (M := M_X12_in) dX12_in_6 rfl ?_
    refine x_lload (M := M_X12_in) dX12_in_7 rfl ?_
    refine x_lcmp (M := M_X12_in) dX12_in_9 ?_
    refine x_if_gt (M := M_X12_in) (tgt := 17) dX12_in_10 (by decide) (fun q1 => ?_) (fun q1 => ?_)
    · refine x_iconst (M := M_X12_in) dX12_in_17 ?_
      exact x_zret (M := M_X12_in) dX12_in_18 rfl (Or.inl rfl) ⟨by rw [f_X12_in, if_neg q0, if_pos q1], rfl⟩ (Nat.le_of_ble_eq_true rfl) (Nat.le_of_ble_eq_true rfl)
    · refine x_iconst (M := M_X12_in) dX12_in_13 ?_
      refine x_goto (M := M_X12_in) (tgt := 18) dX12_in_14 (by decide) ?_
      exact x_zret (M := M_X12_in) dX12_in_18 rfl (Or.inr rfl) ⟨by rw [f_X12_in, if_neg q0, if_neg q1], rfl⟩ (Nat.le_of_ble_eq_true rfl) (Nat.le_of_ble_eq_true rfl)
def f_X12_isSlot (w0 : Int32) : Int32 := if w0 < 0 then (Int32.ofInt 0) else (if (Int8.ofInt 32).toInt32 ≤ w0 then (Int32.ofInt 0) else ((Int32.ofInt 1)))
theorem b_X12_isSlot (w0 : Int32) : f_X12_isSlot w0 = 0 ∨ f_X12_isSlot w0 = 1 := (ite01 (Or.inl rfl) (ite01 (Or.inl rfl) (Or.inr rfl)))
theorem p_X12_isSlot {l : Launch} {E : EE} (hl : l.stackTraces = false) {h : HP} {w0 : Int32} : en_C l E M_X12_isSlot 0 0 0 [.int w0] h (pR (some (.int (f_X12_isSlot w0))) h) := by
  refine en_mk m_X12_isSlot rfl hl (Nat.le_of_ble_eq_true rfl) ?_
  refine x_iload_n (M := M_X12_isSlot) dX12_isSlot_0 rfl ?_
  refine x_if_lt (M := M_X12_isSlot) (tgt := 14) dX12_isSlot_1 (by decide) (fun q0 => ?_) (fun q0 => ?_)
  · refine x_iconst (M := M_X12_isSlot) dX12_isSlot_14 ?_
    exact x_zret (M := M_X12_isSlot) dX12_isSlot_15 rfl (Or.inl rfl) ⟨by rw [f_X12_isSlot, if_pos q0], rfl⟩ (Nat.le_of_ble_eq_true rfl) (Nat.le_of_ble_eq_true rfl)
  · refine x_iload_n (M := M_X12_isSlot) dX12_isSlot_4 rfl ?_
    refine x_bipush (M := M_X12_isSlot) dX12_isSlot_5 ?_
    refine x_icmp_ge (M := M_X12_isSlot) (tgt := 14) dX12_isSlot_7 (by decide) (fun q1 => ?_) (fun q1 => ?_)
    · refine x_iconst (M := M_X12_isSlot) dX12_isSlot_14 ?_
      exact x_zret (M := M_X12_isSlot) dX12_isSlot_15 rfl (Or.inl rfl) ⟨by rw [f_X12_isSlot, if_neg q0, if_pos q1], rfl⟩ (Nat.le_of_ble_eq_true rfl) (Nat.le_of_ble_eq_true rfl)
    · refine x_iconst (M := M_X12_isSlot) dX12_isSlot_10 ?_
      refine x_goto (M := M_X12_isSlot) (tgt := 15) dX12_isSlot_11 (by decide) ?_
      exact x_zret (M := M_X12_isSlot) dX12_isSlot_15 rfl (Or.inr rfl) ⟨by rw [f_X12_isSlot, if_neg q0, if_neg q1], rfl⟩ (Nat.le_of_ble_eq_true rfl) (Nat.le_of_ble_eq_true rfl)
def f_X12_has (c9 : Nat → Int32) (w0 : Int32) : Int32 := if (c9 w0.toNatClampNeg) ≤ 0 then (Int32.ofInt 0) else ((Int32.ofInt 1))
theorem b_X12_has (c9 : Nat → Int32) (w0 : Int32) : f_X12_has c9 w0 = 0 ∨ f_X12_has c9 w0 = 1 := (ite01 (Or.inl rfl) (Or.inr rfl))
theorem p_X12_has {l : Launch} {E : EE} (hl : l.stackTraces = false) {h : HP} {c9 : Nat → Int32} {w0 : Int32} {a : Nat} {fs : List Value} (ha : ob h a = some (.inr (15, fs))) {r9 n9 : Nat} (e9 : fs[9]? = some (.ref r9)) (o9 : ob h r9 = some (.inl (0, n9, .inl c9))) (i0 : vp_in w0 n9) : en_C l E M_X12_has 0 0 0 [.ref a, .int w0] h (pR (some (.int (f_X12_has c9 w0))) h) := by
  refine en_mk m_X12_has rfl hl (Nat.le_of_ble_eq_true rfl) ?_
  refine x_aload_n (M := M_X12_has) dX12_has_0 rfl ?_
  refine x_getf (M := M_X12_has) (ci := 15) (C := RX12) (T := TX12) (N := 135) (ty := tyX12) cl15 dX12_has_1 ha 9 (by decide) t_2400 e9 ?_
  refine x_iload_n (M := M_X12_has) dX12_has_4 rfl ?_
  refine x_iald (M := M_X12_has) dX12_has_5 o9 i0 ?_
  refine x_if_le (M := M_X12_has) (tgt := 13) dX12_has_6 (by decide) (fun q0 => ?_) (fun q0 => ?_)
  · refine x_iconst (M := M_X12_has) dX12_has_13 ?_
    exact x_zret (M := M_X12_has) dX12_has_14 rfl (Or.inl rfl) ⟨by rw [f_X12_has, if_pos q0], rfl⟩ (Nat.le_of_ble_eq_true rfl) (Nat.le_of_ble_eq_true rfl)
  · refine x_iconst (M := M_X12_has) dX12_has_9 ?_
    refine x_goto (M := M_X12_has) (tgt := 14) dX12_has_10 (by decide) ?_
    exact x_zret (M := M_X12_has) dX12_has_14 rfl (Or.inr rfl) ⟨by rw [f_X12_has, if_neg q0], rfl⟩ (Nat.le_of_ble_eq_true rfl) (Nat.le_of_ble_eq_true rfl)
def F_X12_clear (fs : List Value) (c9 : Nat → Int32) (c11 : Nat → Int32) (w0 : Int32) : List Value := fs
def A9_X12_clear (c9 : Nat → Int32) (c11 : Nat → Int32) (w0 : Int32) : Nat → Int32 := (upd c9 w0.toNatClampNeg (Int32.ofInt 0))
def A11_X12_clear (c9 : Nat → Int32) (c11 : Nat → Int32) (w0 : Int32) : Nat → Int32 := (upd c11 w0.toNatClampNeg (Int32.ofInt 0))
theorem l_X12_clear {fs : List Value} {c9 : Nat → Int32} {c11 : Nat → Int32} {w0 : Int32} : (F_X12_clear fs c9 c11 w0).length = fs.length := by
  unfold F_X12_clear
  first | rfl | simp only [List.length_set]
theorem k_X12_clear {fs : List Value} {c9 : Nat → Int32} {c11 : Nat → Int32} {w0 : Int32} {k : Nat} (hk : k ∉ ([] : List Nat)) : (F_X12_clear fs c9 c11 w0)[k]? = fs[k]? := by
  clear hk
  unfold F_X12_clear
  first | rfl | simp only []
theorem p_X12_clear {l : Launch} {E : EE} (hl : l.stackTraces = false) {h : HP} {c9 : Nat → Int32} {c11 : Nat → Int32} {w0 : Int32} {a : Nat} {fs : List Value} (ha : ob h a = some (.inr (15, fs))) {r9 n9 : Nat} (e9 : fs[9]? = some (.ref r9)) (o9 : ob h r9 = some (.inl (0, n9, .inl c9))) {r11 n11 : Nat} (e11 : fs[11]? = some (.ref r11)) (o11 : ob h r11 = some (.inl (0, n11, .inl c11))) (d9_11 : r9 ≠ r11) (i0 : vp_in w0 n9) (i1 : vp_in w0 n11) : en_C l E M_X12_clear 0 0 0 [.ref a, .int w0] h (pR none (stt (stt (stt h a (.inr (15, F_X12_clear fs c9 c11 w0))) r9 (.inl (0, n9, .inl (A9_X12_clear c9 c11 w0)))) r11 (.inl (0, n11, .inl (A11_X12_clear c9 c11 w0))))) := by
  refine en_mk m_X12_clear rfl hl (Nat.le_of_ble_eq_true rfl) ?_
  refine x_heap (h' := (stt (stt (stt h a (.inr (15, fs))) r9 (.inl (0, n9, .inl c9))) r11 (.inl (0, n11, .inl c11)))) (by rw [stt_id ha, stt_id o9, stt_id o11]) ?_
  refine x_aload_n (M := M_X12_clear) dX12_clear_0 rfl ?_
  refine x_getf (M := M_X12_clear) (ci := 15) (C := RX12) (T := TX12) (N := 135) (ty := tyX12) cl15 dX12_clear_1 (ob_up (ob_df ha o11).symm (ob_at o11).1 (ob_up (ob_df ha o9).symm (ob_at o9).1 (ob_self ha))) 9 (by decide) t_2400 e9 ?_
  refine x_iload_n (M := M_X12_clear) dX12_clear_4 rfl ?_
  refine x_iconst (M := M_X12_clear) dX12_clear_5 ?_
  refine x_iast (M := M_X12_clear) dX12_clear_6 (ob_up d9_11.symm (ob_at o11).1 (ob_self (ob_oth ha o9))) i0 ?_
  refine x_heap (h' := (stt (stt (stt h a (.inr (15, fs))) r9 (.inl (0, n9, .inl (upd c9 w0.toNatClampNeg (Int32.ofInt 0))))) r11 (.inl (0, n11, .inl c11)))) (by rw [stt_sw (x := r11) (y := r9) d9_11.symm (ob_at o11).1 (ob_at o9).1, stt_stt (a := r9)]) ?_
  refine x_aload_n (M := M_X12_clear) dX12_clear_7 rfl ?_
  refine x_getf (M := M_X12_clear) (ci := 15) (C := RX12) (T := TX12) (N := 135) (ty := tyX12) cl15 dX12_clear_8 (ob_up (ob_df ha o11).symm (ob_at o11).1 (ob_up (ob_df ha o9).symm (ob_at o9).1 (ob_self ha))) 11 (by decide) t_2402 e11 ?_
  refine x_iload_n (M := M_X12_clear) dX12_clear_11 rfl ?_
  refine x_iconst (M := M_X12_clear) dX12_clear_12 ?_
  refine x_iast (M := M_X12_clear) dX12_clear_13 (ob_self (ob_up d9_11 (ob_at o9).1 (ob_oth ha o11))) i1 ?_
  refine x_heap (h' := (stt (stt (stt h a (.inr (15, fs))) r9 (.inl (0, n9, .inl (upd c9 w0.toNatClampNeg (Int32.ofInt 0))))) r11 (.inl (0, n11, .inl (upd c11 w0.toNatClampNeg (Int32.ofInt 0)))))) (by rw [stt_stt (a := r11)]) ?_
  exact x_vret (M := M_X12_clear) dX12_clear_14 rfl ⟨rfl, by rw [F_X12_clear, A9_X12_clear, A11_X12_clear]⟩ (Nat.le_of_ble_eq_true rfl) (Nat.le_of_ble_eq_true rfl)
def F_X12_tell (fs : List Value) (c9 : Nat → Int32) (c10 : Nat → Int32) (w0 : Int32) : List Value := fs
def A9_X12_tell (c9 : Nat → Int32) (c10 : Nat → Int32) (w0 : Int32) : Nat → Int32 := (upd c9 ((Int8.ofInt 32).toInt32).toNatClampNeg ((c9 ((Int8.ofInt 32).toInt32).toNatClampNeg) + (Int32.ofInt 1)))
def A10_X12_tell (c9 : Nat → Int32) (c10 : Nat → Int32) (w0 : Int32) : Nat → Int32 := (upd c10 ((65536 : Int32) + (c9 ((Int8.ofInt 32).toInt32).toNatClampNeg)).toNatClampNeg w0)
theorem l_X12_tell {fs : List Value} {c9 : Nat → Int32} {c10 : Nat → Int32} {w0 : Int32} : (F_X12_tell fs c9 c10 w0).length = fs.length := by
  unfold F_X12_tell
  first | rfl | simp only [List.length_set]
theorem k_X12_tell {fs : List Value} {c9 : Nat → Int32} {c10 : Nat → Int32} {w0 : Int32} {k : Nat} (hk : k ∉ ([] : List Nat)) : (F_X12_tell fs c9 c10 w0)[k]? = fs[k]? := by
  clear hk
  unfold F_X12_tell
  first | rfl | simp only []
theorem p_X12_tell {l : Launch} {E : EE} (hl : l.stackTraces = false) {h : HP} {c9 : Nat → Int32} {c10 : Nat → Int32} {w0 : Int32} {a : Nat} {fs : List Value} (ha : ob h a = some (.inr (15, fs))) {r9 n9 : Nat} (e9 : fs[9]? = some (.ref r9)) (o9 : ob h r9 = some (.inl (0, n9, .inl c9))) {r10 n10 : Nat} (e10 : fs[10]? = some (.ref r10)) (o10 : ob h r10 = some (.inl (0, n10, .inl c10))) (d9_10 : r9 ≠ r10) (i0 : vp_in ((Int8.ofInt 32).toInt32) n9) (i1 : vp_in ((65536 : Int32) + (c9 ((Int8.ofInt 32).toInt32).toNatClampNeg)) n10) (i2 : vp_in ((Int8.ofInt 32).toInt32) n9) (i3 : vp_in ((Int8.ofInt 32).toInt32) n9) : en_C l E M_X12_tell 0 0 0 [.ref a, .int w0] h (pR none (stt (stt (stt h a (.inr (15, F_X12_tell fs c9 c10 w0))) r9 (.inl (0, n9, .inl (A9_X12_tell c9 c10 w0)))) r10 (.inl (0, n10, .inl (A10_X12_tell c9 c10 w0))))) := by
  refine en_mk m_X12_tell rfl hl (Nat.le_of_ble_eq_true rfl) ?_
  refine x_heap (h' := (stt (stt (stt h a (.inr (15, fs))) r9 (.inl (0, n9, .inl c9))) r10 (.inl (0, n10, .inl c10)))) (by rw [stt_id ha, stt_id o9, stt_id o10]) ?_
  refine x_aload_n (M := M_X12_tell) dX12_tell_0 rfl ?_
  refine x_getf (M := M_X12_tell) (ci := 15) (C := RX12) (T := TX12) (N := 135) (ty := tyX12) cl15 dX12_tell_1 (ob_up (ob_df ha o10).symm (ob_at o10).1 (ob_up (ob_df ha o9).symm (ob_at o9).1 (ob_self ha))) 10 (by decide) t_2401 e10 ?_
  refine x_ldc (M := M_X12_tell) dX12_tell_4 t_2385 ?_
  refine x_aload_n (M := M_X12_tell) dX12_tell_6 rfl ?_
  refine x_getf (M := M_X12_tell) (ci := 15) (C := RX12) (T := TX12) (N := 135) (ty := tyX12) cl15 dX12_tell_7 (ob_up (ob_df ha o10).symm (ob_at o10).1 (ob_up (ob_df ha o9).symm (ob_at o9).1 (ob_self ha))) 9 (by decide) t_2400 e9 ?_
  refine x_bipush (M := M_X12_tell) dX12_tell_10 ?_
  refine x_iald (M := M_X12_tell) dX12_tell_12 (ob_up d9_10.symm (ob_at o10).1 (ob_self (ob_oth ha o9))) i0 ?_
  refine x_iadd (M := M_X12_tell) dX12_tell_13 ?_
  refine x_iload_n (M := M_X12_tell) dX12_tell_14 rfl ?_
  refine x_iast (M := M_X12_tell) dX12_tell_15 (ob_self (ob_up d9_10 (ob_at o9).1 (ob_oth ha o10))) i1 ?_
  refine x_heap (h' := (stt (stt (stt h a (.inr (15, fs))) r9 (.inl (0, n9, .inl c9))) r10 (.inl (0, n10, .inl (upd c10 ((65536 : Int32) + (c9 ((Int8.ofInt 32).toInt32).toNatClampNeg)).toNatClampNeg w0))))) (by rw [stt_stt (a := r10)]) ?_
  refine x_aload_n (M := M_X12_tell) dX12_tell_16 rfl ?_
  refine x_getf (M := M_X12_tell) (ci := 15) (C := RX12) (T := TX12) (N := 135) (ty := tyX12) cl15 dX12_tell_17 (ob_up (ob_df ha o10).symm (ob_at o10).1 (ob_up (ob_df ha o9).symm (ob_at o9).1 (ob_self ha))) 9 (by decide) t_2400 e9 ?_
  refine x_bipush (M := M_X12_tell) dX12_tell_20 ?_
  refine x_dup2 (M := M_X12_tell) dX12_tell_22 rfl rfl ?_
  refine x_iald (M := M_X12_tell) dX12_tell_23 (ob_up d9_10.symm (ob_at o10).1 (ob_self (ob_oth ha o9))) i2 ?_
  refine x_iconst (M := M_X12_tell) dX12_tell_24 ?_
  refine x_iadd (M := M_X12_tell) dX12_tell_25 ?_
  refine x_iast (M := M_X12_tell) dX12_tell_26 (ob_up d9_10.symm (ob_at o10).1 (ob_self (ob_oth ha o9))) i3 ?_
  refine x_heap (h' := (stt (stt (stt h a (.inr (15, fs))) r9 (.inl (0, n9, .inl (upd c9 ((Int8.ofInt 32).toInt32).toNatClampNeg ((c9 ((Int8.ofInt 32).toInt32).toNatClampNeg) + (Int32.ofInt 1)))))) r10 (.inl (0, n10, .inl (upd c10 ((65536 : Int32) + (c9 ((Int8.ofInt 32).toInt32).toNatClampNeg)).toNatClampNeg w0))))) (by rw [stt_sw (x := r10) (y := r9) d9_10.symm (ob_at o10).1 (ob_at o9).1, stt_stt (a := r9)]) ?_
  exact x_vret (M := M_X12_tell) dX12_tell_27 rfl ⟨rfl, by rw [F_X12_tell, A9_X12_tell, A10_X12_tell]⟩ (Nat.le_of_ble_eq_true rfl) (Nat.le_of_ble_eq_true rfl)
def F_X12_dot (fs : List Value) (c11 : Nat → Int32) (c12 : Nat → Int32) (c13 : Nat → Int32) (w0 : Int64) (w1 : Int64) : List Value := fs
def A11_X12_dot (c11 : Nat → Int32) (c12 : Nat → Int32) (c13 : Nat → Int32) (w0 : Int64) (w1 : Int64) : Nat → Int32 := (upd c11 ((Int8.ofInt 32).toInt32).toNatClampNeg ((c11 ((Int8.ofInt 32).toInt32).toNatClampNeg) + (Int32.ofInt 1)))
def A12_X12_dot (c11 : Nat → Int32) (c12 : Nat → Int32) (c13 : Nat → Int32) (w0 : Int64) (w1 : Int64) : Nat → Int32 := (upd c12 ((65536 : Int32) + (c11 ((Int8.ofInt 32).toInt32).toNatClampNeg)).toNatClampNeg (w0.toInt32))
def A13_X12_dot (c11 : Nat → Int32) (c12 : Nat → Int32) (c13 : Nat → Int32) (w0 : Int64) (w1 : Int64) : Nat → Int32 := (upd c13 ((65536 : Int32) + (c11 ((Int8.ofInt 32).toInt32).toNatClampNeg)).toNatClampNeg (w1.toInt32))
theorem l_X12_dot {fs : List Value} {c11 : Nat → Int32} {c12 : Nat → Int32} {c13 : Nat → Int32} {w0 : Int64} {w1 : Int64} : (F_X12_dot fs c11 c12 c13 w0 w1).length = fs.length := by
  unfold F_X12_dot
  first | rfl | simp only [List.length_set]
theorem k_X12_dot {fs : List Value} {c11 : Nat → Int32} {c12 : Nat → Int32} {c13 : Nat → Int32} {w0 : Int64} {w1 : Int64} {k : Nat} (hk : k ∉ ([] : List Nat)) : (F_X12_dot fs c11 c12 c13 w0 w1)[k]? = fs[k]? := by
  clear hk
  unfold F_X12_dot
  first | rfl | simp only []
theorem p_X12_dot {l : Launch} {E : EE} (hl : l.stackTraces = false) {h : HP} {c11 : Nat → Int32} {c12 : Nat → Int32} {c13 : Nat → Int32} {w0 : Int64} {w1 : Int64} {a : Nat} {fs : List Value} (ha : ob h a = some (.inr (15, fs))) {r11 n11 : Nat} (e11 : fs[11]? = some (.ref r11)) (o11 : ob h r11 = some (.inl (0, n11, .inl c11))) {r12 n12 : Nat} (e12 : fs[12]? = some (.ref r12)) (o12 : ob h r12 = some (.inl (0, n12, .inl c12))) {r13 n13 : Nat} (e13 : fs[13]? = some (.ref r13)) (o13 : ob h r13 = some (.inl (0, n13, .inl c13))) (d11_12 : r11 ≠ r12) (d11_13 : r11 ≠ r13) (d12_13 : r12 ≠ r13) (i0 : vp_in ((Int8.ofInt 32).toInt32) n11) (i1 : vp_in ((65536 : Int32) + (c11 ((Int8.ofInt 32).toInt32).toNatClampNeg)) n12) (i2 : vp_in ((Int8.ofInt 32).toInt32) n11) (i3 : vp_in ((65536 : Int32) + (c11 ((Int8.ofInt 32).toInt32).toNatClampNeg)) n13) (i4 : vp_in ((Int8.ofInt 32).toInt32) n11) (i5 : vp_in ((Int8.ofInt 32).toInt32) n11) : en_C l E M_X12_dot 0 0 0 [.ref a, .long w0, .long w1] h (pR none (stt (stt (stt (stt h a (.inr (15, F_X12_dot fs c11 c12 c13 w0 w1))) r11 (.inl (0, n11, .inl (A11_X12_dot c11 c12 c13 w0 w1)))) r12 (.inl (0, n12, .inl (A12_X12_dot c11 c12 c13 w0 w1)))) r13 (.inl (0, n13, .inl (A13_X12_dot c11 c12 c13 w0 w1))))) := by
  refine en_mk m_X12_dot rfl hl (Nat.le_of_ble_eq_true rfl) ?_
  refine x_heap (h' := (stt (stt (stt (stt h a (.inr (15, fs))) r11 (.inl (0, n11, .inl c11))) r12 (.inl (0, n12, .inl c12))) r13 (.inl (0, n13, .inl c13)))) (by rw [stt_id ha, stt_id o11, stt_id o12, stt_id o13]) ?_
  refine x_aload_n (M := M_X12_dot) dX12_dot_0 rfl ?_
  refine x_getf (M := M_X12_dot) (ci := 15) (C := RX12) (T := TX12) (N := 135) (ty := tyX12) cl15 dX12_dot_1 (ob_up (ob_df ha o13).symm (ob_at o13).1 (ob_up (ob_df ha o12).symm (ob_at o12).1 (ob_up (ob_df ha o11).symm (ob_at o11).1 (ob_self ha)))) 12 (by decide) t_2403 e12 ?_
  refine x_ldc (M := M_X12_dot) dX12_dot_4 t_2385 ?_
  refine x_aload_n (M := M_X12_dot) dX12_dot_6 rfl ?_
  refine x_getf (M := M_X12_dot) (ci := 15) (C := RX12) (T := TX12) (N := 135) (ty := tyX12) cl15 dX12_dot_7 (ob_up (ob_df ha o13).symm (ob_at o13).1 (ob_up (ob_df ha o12).symm (ob_at o12).1 (ob_up (ob_df ha o11).symm (ob_at o11).1 (ob_self ha)))) 11 (by decide) t_2402 e11 ?_
  refine x_bipush (M := M_X12_dot) dX12_dot_10 ?_
  refine x_iald (M := M_X12_dot) dX12_dot_12 (ob_up d11_13.symm (ob_at o13).1 (ob_up d11_12.symm (ob_at o12).1 (ob_self (ob_oth ha o11)))) i0 ?_
  refine x_iadd (M := M_X12_dot) dX12_dot_13 ?_
  refine x_lload_n (M := M_X12_dot) dX12_dot_14 rfl ?_
  refine x_l2i (M := M_X12_dot) dX12_dot_15 ?_
  refine x_iast (M := M_X12_dot) dX12_dot_16 (ob_up d12_13.symm (ob_at o13).1 (ob_self (ob_up d11_12 (ob_at o11).1 (ob_oth ha o12)))) i1 ?_
  refine x_heap (h' := (stt (stt (stt (stt h a (.inr (15, fs))) r11 (.inl (0, n11, .inl c11))) r12 (.inl (0, n12, .inl (upd c12 ((65536 : Int32) + (c11 ((Int8.ofInt 32).toInt32).toNatClampNeg)).toNatClampNeg (w0.toInt32))))) r13 (.inl (0, n13, .inl c13)))) (by rw [stt_sw (x := r13) (y := r12) d12_13.symm (ob_at o13).1 (ob_at o12).1, stt_stt (a := r12)]) ?_
  refine x_aload_n (M := M_X12_dot) dX12_dot_17 rfl ?_
  refine x_getf (M := M_X12_dot) (ci := 15) (C := RX12) (T := TX12) (N := 135) (ty := tyX12) cl15 dX12_dot_18 (ob_up (ob_df ha o13).symm (ob_at o13).1 (ob_up (ob_df ha o12).symm (ob_at o12).1 (ob_up (ob_df ha o11).symm (ob_at o11).1 (ob_self ha)))) 13 (by decide) t_2404 e13 ?_
  refine x_ldc (M := M_X12_dot) dX12_dot_21 t_2385 ?_
  refine x_aload_n (M := M_X12_dot) dX12_dot_23 rfl ?_
  refine x_getf (M := M_X12_dot) (ci := 15) (C := RX12) (T := TX12) (N := 135) (ty := tyX12) cl15 dX12_dot_24 (ob_up (ob_df ha o13).symm (ob_at o13).1 (ob_up (ob_df ha o12).symm (ob_at o12).1 (ob_up (ob_df ha o11).symm (ob_at o11).1 (ob_self ha)))) 11 (by decide) t_2402 e11 ?_
  refine x_bipush (M := M_X12_dot) dX12_dot_27 ?_
  refine x_iald (M := M_X12_dot) dX12_dot_29 (ob_up d11_13.symm (ob_at o13).1 (ob_up d11_12.symm (ob_at o12).1 (ob_self (ob_oth ha o11)))) i2 ?_
  refine x_iadd (M := M_X12_dot) dX12_dot_30 ?_
  refine x_lload_n (M := M_X12_dot) dX12_dot_31 rfl ?_
  refine x_l2i (M := M_X12_dot) dX12_dot_32 ?_
  refine x_iast (M := M_X12_dot) dX12_dot_33 (ob_self (ob_up d12_13 (ob_at o12).1 (ob_up d11_13 (ob_at o11).1 (ob_oth ha o13)))) i3 ?_
  refine x_heap (h' := (stt (stt (stt (stt h a (.inr (15, fs))) r11 (.inl (0, n11, .inl c11))) r12 (.inl (0, n12, .inl (upd c12 ((65536 : Int32) + (c11 ((Int8.ofInt 32).toInt32).toNatClampNeg)).toNatClampNeg (w0.toInt32))))) r13 (.inl (0, n13, .inl (upd c13 ((65536 : Int32) + (c11 ((Int8.ofInt 32).toInt32).toNatClampNeg)).toNatClampNeg (w1.toInt32)))))) (by rw [stt_stt (a := r13)]) ?_
  refine x_aload_n (M := M_X12_dot) dX12_dot_34 rfl ?_
  refine x_getf (M := M_X12_dot) (ci := 15) (C := RX12) (T := TX12) (N := 135) (ty := tyX12) cl15 dX12_dot_35 (ob_up (ob_df ha o13).symm (ob_at o13).1 (ob_up (ob_df ha o12).symm (ob_at o12).1 (ob_up (ob_df ha o11).symm (ob_at o11).1 (ob_self ha)))) 11 (by decide) t_2402 e11 ?_
  refine x_bipush (M := M_X12_dot) dX12_dot_38 ?_
  refine x_dup2 (M := M_X12_dot) dX12_dot_40 rfl rfl ?_
  refine x_iald (M := M_X12_dot) dX12_dot_41 (ob_up d11_13.symm (ob_at o13).1 (ob_up d11_12.symm (ob_at o12).1 (ob_self (ob_oth ha o11)))) i4 ?_
  refine x_iconst (M := M_X12_dot) dX12_dot_42 ?_
  refine x_iadd (M := M_X12_dot) dX12_dot_43 ?_
  refine x_iast (M := M_X12_dot) dX12_dot_44 (ob_up d11_13.symm (ob_at o13).1 (ob_up d11_12.symm (ob_at o12).1 (ob_self (ob_oth ha o11)))) i5 ?_
  refine x_heap (h' := (stt (stt (stt (stt h a (.inr (15, fs))) r11 (.inl (0, n11, .inl (upd c11 ((Int8.ofInt 32).toInt32).toNatClampNeg ((c11 ((Int8.ofInt 32).toInt32).toNatClampNeg) + (Int32.ofInt 1)))))) r12 (.inl (0, n12, .inl (upd c12 ((65536 : Int32) + (c11 ((Int8.ofInt 32).toInt32).toNatClampNeg)).toNatClampNeg (w0.toInt32))))) r13 (.inl (0, n13, .inl (upd c13 ((65536 : Int32) + (c11 ((Int8.ofInt 32).toInt32).toNatClampNeg)).toNatClampNeg (w1.toInt32)))))) (by rw [stt_sw (x := r13) (y := r11) d11_13.symm (ob_at o13).1 (ob_at o11).1, stt_sw (x := r12) (y := r11) d11_12.symm (ob_at o12).1 (ob_at o11).1, stt_stt (a := r11)]) ?_
  exact x_vret (M := M_X12_dot) dX12_dot_45 rfl ⟨rfl, by rw [F_X12_dot, A11_X12_dot, A12_X12_dot, A13_X12_dot]⟩ (Nat.le_of_ble_eq_true rfl) (Nat.le_of_ble_eq_true rfl)
def f_X12_end (g4 : Int32) (w0 : Int32) : Int32 := if (f_X12_in (w0.toInt64) (Int64.ofNat ((0 : Fin 2) : Nat)) (20 : Int64)) = 0 then if (f_X12_fails (Int32.ofInt 0) (Int32.ofInt 1) (Int32.ofInt 1)) = 0 then if (Int8.ofInt 20).toInt32 ≤ g4 then if (f_X12_fails (V0_X12_fails (Int32.ofInt 0) (Int32.ofInt 1) (Int32.ofInt 1)) (Int32.ofInt 0) (Int32.ofInt 2)) = 0 then (g4 - ((Int8.ofInt 20).toInt32 - w0)) else ((Int32.ofInt 0)) else (if (f_X12_fails (V0_X12_fails (Int32.ofInt 0) (Int32.ofInt 1) (Int32.ofInt 1)) (Int32.ofInt 1) (Int32.ofInt 2)) = 0 then (g4 - ((Int8.ofInt 20).toInt32 - w0)) else ((Int32.ofInt 0))) else ((Int32.ofInt 0)) else (if (f_X12_fails (Int32.ofInt 0) (Int32.ofInt 0) (Int32.ofInt 1)) = 0 then if (Int8.ofInt 20).toInt32 ≤ g4 then if (f_X12_fails (V0_X12_fails (Int32.ofInt 0) (Int32.ofInt 0) (Int32.ofInt 1)) (Int32.ofInt 0) (Int32.ofInt 2)) = 0 then (g4 - ((Int8.ofInt 20).toInt32 - w0)) else ((Int32.ofInt 0)) else (if (f_X12_fails (V0_X12_fails (Int32.ofInt 0) (Int32.ofInt 0) (Int32.ofInt 1)) (Int32.ofInt 1) (Int32.ofInt 2)) = 0 then (g4 - ((Int8.ofInt 20).toInt32 - w0)) else ((Int32.ofInt 0))) else ((Int32.ofInt 0)))
def F_X12_end (fs : List Value) (g4 : Int32) (w0 : Int32) : List Value := if (f_X12_in (w0.toInt64) (Int64.ofNat ((0 : Fin 2) : Nat)) (20 : Int64)) = 0 then if (f_X12_fails (Int32.ofInt 0) (Int32.ofInt 1) (Int32.ofInt 1)) = 0 then if (Int8.ofInt 20).toInt32 ≤ g4 then if (f_X12_fails (V0_X12_fails (Int32.ofInt 0) (Int32.ofInt 1) (Int32.ofInt 1)) (Int32.ofInt 0) (Int32.ofInt 2)) = 0 then ((F_X12_fails (F_X12_fails (fs.set 0 (.int (Int32.ofInt 0))) (Int32.ofInt 0) (Int32.ofInt 1) (Int32.ofInt 1)) (V0_X12_fails (Int32.ofInt 0) (Int32.ofInt 1) (Int32.ofInt 1)) (Int32.ofInt 0) (Int32.ofInt 2)).set 4 (.int (g4 - ((Int8.ofInt 20).toInt32 - w0)))) else ((F_X12_fails (F_X12_fails (fs.set 0 (.int (Int32.ofInt 0))) (Int32.ofInt 0) (Int32.ofInt 1) (Int32.ofInt 1)) (V0_X12_fails (Int32.ofInt 0) (Int32.ofInt 1) (Int32.ofInt 1)) (Int32.ofInt 0) (Int32.ofInt 2))) else (if (f_X12_fails (V0_X12_fails (Int32.ofInt 0) (Int32.ofInt 1) (Int32.ofInt 1)) (Int32.ofInt 1) (Int32.ofInt 2)) = 0 then ((F_X12_fails (F_X12_fails (fs.set 0 (.int (Int32.ofInt 0))) (Int32.ofInt 0) (Int32.ofInt 1) (Int32.ofInt 1)) (V0_X12_fails (Int32.ofInt 0) (Int32.ofInt 1) (Int32.ofInt 1)) (Int32.ofInt 1) (Int32.ofInt 2)).set 4 (.int (g4 - ((Int8.ofInt 20).toInt32 - w0)))) else ((F_X12_fails (F_X12_fails (fs.set 0 (.int (Int32.ofInt 0))) (Int32.ofInt 0) (Int32.ofInt 1) (Int32.ofInt 1)) (V0_X12_fails (Int32.ofInt 0) (Int32.ofInt 1) (Int32.ofInt 1)) (Int32.ofInt 1) (Int32.ofInt 2)))) else ((F_X12_fails (fs.set 0 (.int (Int32.ofInt 0))) (Int32.ofInt 0) (Int32.ofInt 1) (Int32.ofInt 1))) else (if (f_X12_fails (Int32.ofInt 0) (Int32.ofInt 0) (Int32.ofInt 1)) = 0 then if (Int8.ofInt 20).toInt32 ≤ g4 then if (f_X12_fails (V0_X12_fails (Int32.ofInt 0) (Int32.ofInt 0) (Int32.ofInt 1)) (Int32.ofInt 0) (Int32.ofInt 2)) = 0 then ((F_X12_fails (F_X12_fails (fs.set 0 (.int (Int32.ofInt 0))) (Int32.ofInt 0) (Int32.ofInt 0) (Int32.ofInt 1)) (V0_X12_fails (Int32.ofInt 0) (Int32.ofInt 0) (Int32.ofInt 1)) (Int32.ofInt 0) (Int32.ofInt 2)).set 4 (.int (g4 - ((Int8.ofInt 20).toInt32 - w0)))) else ((F_X12_fails (F_X12_fails (fs.set 0 (.int (Int32.ofInt 0))) (Int32.ofInt 0) (Int32.ofInt 0) (Int32.ofInt 1)) (V0_X12_fails (Int32.ofInt 0) (Int32.ofInt 0) (Int32.ofInt 1)) (Int32.ofInt 0) (Int32.ofInt 2))) else (if (f_X12_fails (V0_X12_fails (Int32.ofInt 0) (Int32.ofInt 0) (Int32.ofInt 1)) (Int32.ofInt 1) (Int32.ofInt 2)) = 0 then ((F_X12_fails (F_X12_fails (fs.set 0 (.int (Int32.ofInt 0))) (Int32.ofInt 0) (Int32.ofInt 0) (Int32.ofInt 1)) (V0_X12_fails (Int32.ofInt 0) (Int32.ofInt 0) (Int32.ofInt 1)) (Int32.ofInt 1) (Int32.ofInt 2)).set 4 (.int (g4 - ((Int8.ofInt 20).toInt32 - w0)))) else ((F_X12_fails (F_X12_fails (fs.set 0 (.int (Int32.ofInt 0))) (Int32.ofInt 0) (Int32.ofInt 0) (Int32.ofInt 1)) (V0_X12_fails (Int32.ofInt 0) (Int32.ofInt 0) (Int32.ofInt 1)) (Int32.ofInt 1) (Int32.ofInt 2)))) else ((F_X12_fails (fs.set 0 (.int (Int32.ofInt 0))) (Int32.ofInt 0) (Int32.ofInt 0) (Int32.ofInt 1))))
theorem l_X12_end {fs : List Value} {g4 : Int32} {w0 : Int32} : (F_X12_end fs g4 w0).length = fs.length := by
  unfold F_X12_end
  repeat' split
  all_goals first | rfl | simp only [List.length_set, l_X12_fails]
theorem k_X12_end {fs : List Value} {g4 : Int32} {w0 : Int32} {k : Nat} (hk : k ∉ ([0, 4] : List Nat)) : (F_X12_end fs g4 w0)[k]? = fs[k]? := by
  simp only [List.mem_cons, List.not_mem_nil, or_false, not_or] at hk
  unfold F_X12_end
  repeat' split
  all_goals first | rfl | simp only [List.getElem?_set_ne (by omega : 0 ≠ k), List.getElem?_set_ne (by omega : 4 ≠ k), k_X12_fails (k := k) (by simp <;> omega)]
def V0_X12_end (g4 : Int32) (w0 : Int32) : Int32 := if (f_X12_in (w0.toInt64) (Int64.ofNat ((0 : Fin 2) : Nat)) (20 : Int64)) = 0 then if (f_X12_fails (Int32.ofInt 0) (Int32.ofInt 1) (Int32.ofInt 1)) = 0 then if (Int8.ofInt 20).toInt32 ≤ g4 then if (f_X12_fails (V0_X12_fails (Int32.ofInt 0) (Int32.ofInt 1) (Int32.ofInt 1)) (Int32.ofInt 0) (Int32.ofInt 2)) = 0 then (V0_X12_fails (V0_X12_fails (Int32.ofInt 0) (Int32.ofInt 1) (Int32.ofInt 1)) (Int32.ofInt 0) (Int32.ofInt 2)) else ((V0_X12_fails (V0_X12_fails (Int32.ofInt 0) (Int32.ofInt 1) (Int32.ofInt 1)) (Int32.ofInt 0) (Int32.ofInt 2))) else (if (f_X12_fails (V0_X12_fails (Int32.ofInt 0) (Int32.ofInt 1) (Int32.ofInt 1)) (Int32.ofInt 1) (Int32.ofInt 2)) = 0 then (V0_X12_fails (V0_X12_fails (Int32.ofInt 0) (Int32.ofInt 1) (Int32.ofInt 1)) (Int32.ofInt 1) (Int32.ofInt 2)) else ((V0_X12_fails (V0_X12_fails (Int32.ofInt 0) (Int32.ofInt 1) (Int32.ofInt 1)) (Int32.ofInt 1) (Int32.ofInt 2)))) else ((V0_X12_fails (Int32.ofInt 0) (Int32.ofInt 1) (Int32.ofInt 1))) else (if (f_X12_fails (Int32.ofInt 0) (Int32.ofInt 0) (Int32.ofInt 1)) = 0 then if (Int8.ofInt 20).toInt32 ≤ g4 then if (f_X12_fails (V0_X12_fails (Int32.ofInt 0) (Int32.ofInt 0) (Int32.ofInt 1)) (Int32.ofInt 0) (Int32.ofInt 2)) = 0 then (V0_X12_fails (V0_X12_fails (Int32.ofInt 0) (Int32.ofInt 0) (Int32.ofInt 1)) (Int32.ofInt 0) (Int32.ofInt 2)) else ((V0_X12_fails (V0_X12_fails (Int32.ofInt 0) (Int32.ofInt 0) (Int32.ofInt 1)) (Int32.ofInt 0) (Int32.ofInt 2))) else (if (f_X12_fails (V0_X12_fails (Int32.ofInt 0) (Int32.ofInt 0) (Int32.ofInt 1)) (Int32.ofInt 1) (Int32.ofInt 2)) = 0 then (V0_X12_fails (V0_X12_fails (Int32.ofInt 0) (Int32.ofInt 0) (Int32.ofInt 1)) (Int32.ofInt 1) (Int32.ofInt 2)) else ((V0_X12_fails (V0_X12_fails (Int32.ofInt 0) (Int32.ofInt 0) (Int32.ofInt 1)) (Int32.ofInt 1) (Int32.ofInt 2)))) else ((V0_X12_fails (Int32.ofInt 0) (Int32.ofInt 0) (Int32.ofInt 1))))
theorem v0_X12_end {fs : List Value} {g4 : Int32} {w0 : Int32} (hn : fs.length = 135) (e4 : fs[4]? = some (.int g4)) : (F_X12_end fs g4 w0)[0]? = some (.int (V0_X12_end g4 w0)) := by
  unfold F_X12_end V0_X12_end
  exact (gi (gi (gi (gi (gs_ne (by decide) (v0_X12_fails (by simp only [List.length_set, hn, l_X12_fails]) (v0_X12_fails (by simp only [List.length_set, hn, l_X12_fails]) (gs_eq (by simp only [List.length_set, hn, l_X12_fails]; decide))))) (v0_X12_fails (by simp only [List.length_set, hn, l_X12_fails]) (v0_X12_fails (by simp only [List.length_set, hn, l_X12_fails]) (gs_eq (by simp only [List.length_set, hn, l_X12_fails]; decide))))) (gi (gs_ne (by decide) (v0_X12_fails (by simp only [List.length_set, hn, l_X12_fails]) (v0_X12_fails (by simp only [List.length_set, hn, l_X12_fails]) (gs_eq (by simp only [List.length_set, hn, l_X12_fails]; decide))))) (v0_X12_fails (by simp only [List.length_set, hn, l_X12_fails]) (v0_X12_fails (by simp only [List.length_set, hn, l_X12_fails]) (gs_eq (by simp only [List.length_set, hn, l_X12_fails]; decide)))))) (v0_X12_fails (by simp only [List.length_set, hn, l_X12_fails]) (gs_eq (by simp only [List.length_set, hn, l_X12_fails]; decide)))) (gi (gi (gi (gs_ne (by decide) (v0_X12_fails (by simp only [List.length_set, hn, l_X12_fails]) (v0_X12_fails (by simp only [List.length_set, hn, l_X12_fails]) (gs_eq (by simp only [List.length_set, hn, l_X12_fails]; decide))))) (v0_X12_fails (by simp only [List.length_set, hn, l_X12_fails]) (v0_X12_fails (by simp only [List.length_set, hn, l_X12_fails]) (gs_eq (by simp only [List.length_set, hn, l_X12_fails]; decide))))) (gi (gs_ne (by decide) (v0_X12_fails (by simp only [List.length_set, hn, l_X12_fails]) (v0_X12_fails (by simp only [List.length_set, hn, l_X12_fails]) (gs_eq (by simp only [List.length_set, hn, l_X12_fails]; decide))))) (v0_X12_fails (by simp only [List.length_set, hn, l_X12_fails]) (v0_X12_fails (by simp only [List.length_set, hn, l_X12_fails]) (gs_eq (by simp only [List.length_set, hn, l_X12_fails]; decide)))))) (v0_X12_fails (by simp only [List.length_set, hn, l_X12_fails]) (gs_eq (by simp only [List.length_set, hn, l_X12_fails]; decide)))))
def V4_X12_end (g4 : Int32) (w0 : Int32) : Int32 := if (f_X12_in (w0.toInt64) (Int64.ofNat ((0 : Fin 2) : Nat)) (20 : Int64)) = 0 then if (f_X12_fails (Int32.ofInt 0) (Int32.ofInt 1) (Int32.ofInt 1)) = 0 then if (Int8.ofInt 20).toInt32 ≤ g4 then if (f_X12_fails (V0_X12_fails (Int32.ofInt 0) (Int32.ofInt 1) (Int32.ofInt 1)) (Int32.ofInt 0) (Int32.ofInt 2)) = 0 then (g4 - ((Int8.ofInt 20).toInt32 - w0)) else (g4) else (if (f_X12_fails (V0_X12_fails (Int32.ofInt 0) (Int32.ofInt 1) (Int32.ofInt 1)) (Int32.ofInt 1) (Int32.ofInt 2)) = 0 then (g4 - ((Int8.ofInt 20).toInt32 - w0)) else (g4)) else (g4) else (if (f_X12_fails (Int32.ofInt 0) (Int32.ofInt 0) (Int32.ofInt 1)) = 0 then if (Int8.ofInt 20).toInt32 ≤ g4 then if (f_X12_fails (V0_X12_fails (Int32.ofInt 0) (Int32.ofInt 0) (Int32.ofInt 1)) (Int32.ofInt 0) (Int32.ofInt 2)) = 0 then (g4 - ((Int8.ofInt 20).toInt32 - w0)) else (g4) else (if (f_X12_fails (V0_X12_fails (Int32.ofInt 0) (Int32.ofInt 0) (Int32.ofInt 1)) (Int32.ofInt 1) (Int32.ofInt 2)) = 0 then (g4 - ((Int8.ofInt 20).toInt32 - w0)) else (g4)) else (g4))
theorem v4_X12_end {fs : List Value} {g4 : Int32} {w0 : Int32} (hn : fs.length = 135) (e4 : fs[4]? = some (.int g4)) : (F_X12_end fs g4 w0)[4]? = some (.int (V4_X12_end g4 w0)) := by
  unfold F_X12_end V4_X12_end
  exact (gi (gi (gi (gi (gs_eq (by simp only [List.length_set, hn, l_X12_fails]; decide)) ((k_X12_fails (by decide)).trans ((k_X12_fails (by decide)).trans (gs_ne (by decide) e4)))) (gi (gs_eq (by simp only [List.length_set, hn, l_X12_fails]; decide)) ((k_X12_fails (by decide)).trans ((k_X12_fails (by decide)).trans (gs_ne (by decide) e4))))) ((k_X12_fails (by decide)).trans (gs_ne (by decide) e4))) (gi (gi (gi (gs_eq (by simp only [List.length_set, hn, l_X12_fails]; decide)) ((k_X12_fails (by decide)).trans ((k_X12_fails (by decide)).trans (gs_ne (by decide) e4)))) (gi (gs_eq (by simp only [List.length_set, hn, l_X12_fails]; decide)) ((k_X12_fails (by decide)).trans ((k_X12_fails (by decide)).trans (gs_ne (by decide) e4))))) ((k_X12_fails (by decide)).trans (gs_ne (by decide) e4))))
set_option maxHeartbeats 8000000 in
set_option maxRecDepth 20000 in
theorem p_X12_end {l : Launch} {E : EE} (hl : l.stackTraces = false) {h : HP} {g4 : Int32} {w0 : Int32} {a : Nat} {fs : List Value} (ha : ob h a = some (.inr (15, fs))) (hn : fs.length = 135) (e4 : fs[4]? = some (.int g4)) : en_C l E M_X12_end 1 0 0 [.ref a, .int w0] h (pR (some (.int (f_X12_end g4 w0))) (stt h a (.inr (15, F_X12_end fs g4 w0)))) := by
  refine en_mk m_X12_end rfl hl (Nat.le_of_ble_eq_true rfl) ?_
  refine x_heap (h' := (stt h a (.inr (15, fs)))) (by rw [stt_id ha]) ?_
  refine x_aload_n (M := M_X12_end) dX12_end_0 rfl ?_
  refine x_iconst (M := M_X12_end) dX12_end_1 ?_
  refine x_put (M := M_X12_end) (ci := 15) (C := RX12) (T := TX12) (N := 135) (ty := tyX12) cl15 dX12_end_2 (ob_self ha) 0 (by decide) t_2391 (Or.inl rfl) (by simp only [List.length_set, hn]; decide) rfl ?_
  refine x_heap (h' := (stt h a (.inr (15, (fs.set 0 (.int (Int32.ofInt 0))))))) (by rw [stt_stt (a := a)]) ?_
  refine x_aload_n (M := M_X12_end) dX12_end_5 rfl ?_
  refine x_iload_n (M := M_X12_end) dX12_end_6 rfl ?_
  refine x_i2l (M := M_X12_end) dX12_end_7 ?_
  refine x_lconst (M := M_X12_end) dX12_end_8 ?_
  refine x_ldc2 (M := M_X12_end) dX12_end_9 t_2817 ?_
  refine x_callSR (M := M_X12_end) (M' := M_X12_in) rfl rfl dX12_end_12 m_X12_in t_2818 t_2819 (p_X12_in hl) rfl rfl (Nat.le_of_ble_eq_true rfl) (Nat.le_of_ble_eq_true rfl) (Nat.le_of_ble_eq_true rfl) (Nat.le_of_ble_eq_true rfl) ?_
  refine x_if_ne (M := M_X12_end) (tgt := 22) dX12_end_15 (by decide) (fun q0 => ?_) (fun q0 => ?_)
  · refine x_iconst (M := M_X12_end) dX12_end_22 ?_
    refine x_iconst (M := M_X12_end) dX12_end_23 ?_
    refine x_callVR (M := M_X12_end) (M' := M_X12_fails) rfl rfl dX12_end_24 m_X12_fails t_2805 t_2807 s_157 (p_X12_fails hl (ob_self ha) (by simp only [List.length_set, hn]) (gs_eq (by simp only [List.length_set, hn]; decide))) rfl rfl (ob_self ha) rfl (Nat.le_of_ble_eq_true rfl) (Nat.le_of_ble_eq_true rfl) (Nat.le_of_ble_eq_true rfl) (Nat.le_of_ble_eq_true rfl) ?_
    refine x_heap (h' := (stt h a (.inr (15, (F_X12_fails (fs.set 0 (.int (Int32.ofInt 0))) (Int32.ofInt 0) (Int32.ofInt 0) (Int32.ofInt 1)))))) (by rw [stt_stt (a := a)]) ?_
    refine x_if_ne (M := M_X12_end) (tgt := 52) dX12_end_27 (by decide) (fun q1 => ?_) (fun q1 => ?_)
    · refine x_iconst (M := M_X12_end) dX12_end_52 ?_
      exact x_iret (M := M_X12_end) dX12_end_53 rfl ⟨by rw [f_X12_end, if_neg q0, if_neg q1], by rw [F_X12_end, if_neg q0, if_neg q1]⟩ (Nat.le_of_ble_eq_true rfl) (Nat.le_of_ble_eq_true rfl)
    · refine x_aload_n (M := M_X12_end) dX12_end_30 rfl ?_
      refine x_aload_n (M := M_X12_end) dX12_end_31 rfl ?_
      refine x_getf (M := M_X12_end) (ci := 15) (C := RX12) (T := TX12) (N := 135) (ty := tyX12) cl15 dX12_end_32 (ob_self ha) 4 (by decide) t_2395 ((k_X12_fails (by decide)).trans (gs_ne (by decide) e4)) ?_
      refine x_bipush (M := M_X12_end) dX12_end_35 ?_
      refine x_icmp_ge (M := M_X12_end) (tgt := 44) dX12_end_37 (by decide) (fun q2 => ?_) (fun q2 => ?_)
      · refine x_iconst (M := M_X12_end) dX12_end_44 ?_
        refine x_iconst (M := M_X12_end) dX12_end_45 ?_
        refine x_callVR (M := M_X12_end) (M' := M_X12_fails) rfl rfl dX12_end_46 m_X12_fails t_2805 t_2807 s_157 (p_X12_fails hl (ob_self ha) (by simp only [List.length_set, hn, l_X12_fails]) (v0_X12_fails (by simp only [List.length_set, hn, l_X12_fails]) (gs_eq (by simp only [List.length_set, hn, l_X12_fails]; decide)))) rfl rfl (ob_self ha) rfl (Nat.le_of_ble_eq_true rfl) (Nat.le_of_ble_eq_true rfl) (Nat.le_of_ble_eq_true rfl) (Nat.le_of_ble_eq_true rfl) ?_
        refine x_heap (h' := (stt h a (.inr (15, (F_X12_fails (F_X12_fails (fs.set 0 (.int (Int32.ofInt 0))) (Int32.ofInt 0) (Int32.ofInt 0) (Int32.ofInt 1)) (V0_X12_fails (Int32.ofInt 0) (Int32.ofInt 0) (Int32.ofInt 1)) (Int32.ofInt 0) (Int32.ofInt 2)))))) (by rw [stt_stt (a := a)]) ?_
        refine x_if_eq (M := M_X12_end) (tgt := 54) dX12_end_49 (by decide) (fun q3 => ?_) (fun q3 => ?_)
        · refine x_aload_n (M := M_X12_end) dX12_end_54 rfl ?_
          refine x_dup (M := M_X12_end) dX12_end_55 rfl ?_
          refine x_getf (M := M_X12_end) (ci := 15) (C := RX12) (T := TX12) (N := 135) (ty := tyX12) cl15 dX12_end_56 (ob_self ha) 4 (by decide) t_2395 ((k_X12_fails (by decide)).trans ((k_X12_fails (by decide)).trans (gs_ne (by decide) e4))) ?_
          refine x_bipush (M := M_X12_end) dX12_end_59 ?_
          refine x_iload_n (M := M_X12_end) dX12_end_61 rfl ?_
          refine x_isub (M := M_X12_end) dX12_end_62 ?_
          refine x_isub (M := M_X12_end) dX12_end_63 ?_
          refine x_put (M := M_X12_end) (ci := 15) (C := RX12) (T := TX12) (N := 135) (ty := tyX12) cl15 dX12_end_64 (ob_self ha) 4 (by decide) t_2395 (Or.inl rfl) (by simp only [List.length_set, hn, l_X12_fails]; decide) rfl ?_
          refine x_heap (h' := (stt h a (.inr (15, ((F_X12_fails (F_X12_fails (fs.set 0 (.int (Int32.ofInt 0))) (Int32.ofInt 0) (Int32.ofInt 0) (Int32.ofInt 1)) (V0_X12_fails (Int32.ofInt 0) (Int32.ofInt 0) (Int32.ofInt 1)) (Int32.ofInt 0) (Int32.ofInt 2)).set 4 (.int (g4 - ((Int8.ofInt 20).toInt32 - w0)))))))) (by rw [stt_stt (a := a)]) ?_
          refine x_aload_n (M := M_X12_end) dX12_end_67 rfl ?_
          refine x_getf (M := M_X12_end) (ci := 15) (C := RX12) (T := TX12) (N := 135) (ty := tyX12) cl15 dX12_end_68 (ob_self ha) 4 (by decide) t_2395 (gs_eq (by simp only [List.length_set, hn, l_X12_fails]; decide)) ?_
          exact x_iret (M := M_X12_end) dX12_end_71 rfl ⟨by rw [f_X12_end, if_neg q0, if_pos q1, if_pos q2, if_pos q3], by rw [F_X12_end, if_neg q0, if_pos q1, if_pos q2, if_pos q3]⟩ (Nat.le_of_ble_eq_true rfl) (Nat.le_of_ble_eq_true rfl)
        · refine x_iconst (M := M_X12_end) dX12_end_52 ?_
          exact x_iret (M := M_X12_end) dX12_end_53 rfl ⟨by rw [f_X12_end, if_neg q0, if_pos q1, if_pos q2, if_neg q3], by rw [F_X12_end, if_neg q0, if_pos q1, if_pos q2, if_neg q3]⟩ (Nat.le_of_ble_eq_true rfl) (Nat.le_of_ble_eq_true rfl)
      · refine x_iconst (M := M_X12_end) dX12_end_40 ?_
        refine x_goto (M := M_X12_end) (tgt := 45) dX12_end_41 (by decide) ?_
        refine x_iconst (M := M_X12_end) dX12_end_45 ?_
        refine x_callVR (M := M_X12_end) (M' := M_X12_fails) rfl rfl dX12_end_46 m_X12_fails t_2805 t_2807 s_157 (p_X12_fails hl (ob_self ha) (by simp only [List.length_set, hn, l_X12_fails]) (v0_X12_fails (by simp only [List.length_set, hn, l_X12_fails]) (gs_eq (by simp only [List.length_set, hn, l_X12_fails]; decide)))) rfl rfl (ob_self ha) rfl (Nat.le_of_ble_eq_true rfl) (Nat.le_of_ble_eq_true rfl) (Nat.le_of_ble_eq_true rfl) (Nat.le_of_ble_eq_true rfl) ?_
        refine x_heap (h' := (stt h a (.inr (15, (F_X12_fails (F_X12_fails (fs.set 0 (.int (Int32.ofInt 0))) (Int32.ofInt 0) (Int32.ofInt 0) (Int32.ofInt 1)) (V0_X12_fails (Int32.ofInt 0) (Int32.ofInt 0) (Int32.ofInt 1)) (Int32.ofInt 1) (Int32.ofInt 2)))))) (by rw [stt_stt (a := a)]) ?_
        refine x_if_eq (M := M_X12_end) (tgt := 54) dX12_end_49 (by decide) (fun q3 => ?_) (fun q3 => ?_)
        · refine x_aload_n (M := M_X12_end) dX12_end_54 rfl ?_
          refine x_dup (M := M_X12_end) dX12_end_55 rfl ?_
          refine x_getf (M := M_X12_end) (ci := 15) (C := RX12) (T := TX12) (N := 135) (ty := tyX12) cl15 dX12_end_56 (ob_self ha) 4 (by decide) t_2395 ((k_X12_fails (by decide)).trans ((k_X12_fails (by decide)).trans (gs_ne (by decide) e4))) ?_
          refine x_bipush (M := M_X12_end) dX12_end_59 ?_
          refine x_iload_n (M := M_X12_end) dX12_end_61 rfl ?_
          refine x_isub (M := M_X12_end) dX12_end_62 ?_
          refine x_isub (M := M_X12_end) dX12_end_63 ?_
          refine x_put (M := M_X12_end) (ci := 15) (C := RX12) (T := TX12) (N := 135) (ty := tyX12) cl15 dX12_end_64 (ob_self ha) 4 (by decide) t_2395 (Or.inl rfl) (by simp only [List.length_set, hn, l_X12_fails]; decide) rfl ?_
          refine x_heap (h' := (stt h a (.inr (15, ((F_X12_fails (F_X12_fails (fs.set 0 (.int (Int32.ofInt 0))) (Int32.ofInt 0) (Int32.ofInt 0) (Int32.ofInt 1)) (V0_X12_fails (Int32.ofInt 0) (Int32.ofInt 0) (Int32.ofInt 1)) (Int32.ofInt 1) (Int32.ofInt 2)).set 4 (.int (g4 - ((Int8.ofInt 20).toInt32 - w0)))))))) (by rw [stt_stt (a := a)]) ?_
          refine x_aload_n (M := M_X12_end) dX12_end_67 rfl ?_
          refine x_getf (M := M_X12_end) (ci := 15) (C := RX12) (T := TX12) (N := 135) (ty := tyX12) cl15 dX12_end_68 (ob_self ha) 4 (by decide) t_2395 (gs_eq (by simp only [List.length_set, hn, l_X12_fails]; decide)) ?_
          exact x_iret (M := M_X12_end) dX12_end_71 rfl ⟨by rw [f_X12_end, if_neg q0, if_pos q1, if_neg q2, if_pos q3], by rw [F_X12_end, if_neg q0, if_pos q1, if_neg q2, if_pos q3]⟩ (Nat.le_of_ble_eq_true rfl) (Nat.le_of_ble_eq_true rfl)
        · refine x_iconst (M := M_X12_end) dX12_end_52 ?_
          exact x_iret (M := M_X12_end) dX12_end_53 rfl ⟨by rw [f_X12_end, if_neg q0, if_pos q1, if_neg q2, if_neg q3], by rw [F_X12_end, if_neg q0, if_pos q1, if_neg q2, if_neg q3]⟩ (Nat.le_of_ble_eq_true rfl) (Nat.le_of_ble_eq_true rfl)
  · refine x_iconst (M := M_X12_end) dX12_end_18 ?_
    refine x_goto (M := M_X12_end) (tgt := 23) dX12_end_19 (by decide) ?_
    refine x_iconst (M := M_X12_end) dX12_end_23 ?_
    refine x_callVR (M := M_X12_end) (M' := M_X12_fails) rfl rfl dX12_end_24 m_X12_fails t_2805 t_2807 s_157 (p_X12_fails hl (ob_self ha) (by simp only [List.length_set, hn, l_X12_fails]) (gs_eq (by simp only [List.length_set, hn, l_X12_fails]; decide))) rfl rfl (ob_self ha) rfl (Nat.le_of_ble_eq_true rfl) (Nat.le_of_ble_eq_true rfl) (Nat.le_of_ble_eq_true rfl) (Nat.le_of_ble_eq_true rfl) ?_
    refine x_heap (h' := (stt h a (.inr (15, (F_X12_fails (fs.set 0 (.int (Int32.ofInt 0))) (Int32.ofInt 0) (Int32.ofInt 1) (Int32.ofInt 1)))))) (by rw [stt_stt (a := a)]) ?_
    refine x_if_ne (M := M_X12_end) (tgt := 52) dX12_end_27 (by decide) (fun q1 => ?_) (fun q1 => ?_)
    · refine x_iconst (M := M_X12_end) dX12_end_52 ?_
      exact x_iret (M := M_X12_end) dX12_end_53 rfl ⟨by rw [f_X12_end, if_pos q0, if_neg q1], by rw [F_X12_end, if_pos q0, if_neg q1]⟩ (Nat.le_of_ble_eq_true rfl) (Nat.le_of_ble_eq_true rfl)
    · refine x_aload_n (M := M_X12_end) dX12_end_30 rfl ?_
      refine x_aload_n (M := M_X12_end) dX12_end_31 rfl ?_
      refine x_getf (M := M_X12_end) (ci := 15) (C := RX12) (T := TX12) (N := 135) (ty := tyX12) cl15 dX12_end_32 (ob_self ha) 4 (by decide) t_2395 ((k_X12_fails (by decide)).trans (gs_ne (by decide) e4)) ?_
      refine x_bipush (M := M_X12_end) dX12_end_35 ?_
      refine x_icmp_ge (M := M_X12_end) (tgt := 44) dX12_end_37 (by decide) (fun q2 => ?_) (fun q2 => ?_)
      · refine x_iconst (M := M_X12_end) dX12_end_44 ?_
        refine x_iconst (M := M_X12_end) dX12_end_45 ?_
        refine x_callVR (M := M_X12_end) (M' := M_X12_fails) rfl rfl dX12_end_46 m_X12_fails t_2805 t_2807 s_157 (p_X12_fails hl (ob_self ha) (by simp only [List.length_set, hn, l_X12_fails]) (v0_X12_fails (by simp only [List.length_set, hn, l_X12_fails]) (gs_eq (by simp only [List.length_set, hn, l_X12_fails]; decide)))) rfl rfl (ob_self ha) rfl (Nat.le_of_ble_eq_true rfl) (Nat.le_of_ble_eq_true rfl) (Nat.le_of_ble_eq_true rfl) (Nat.le_of_ble_eq_true rfl) ?_
        refine x_heap (h' := (stt h a (.inr (15, (F_X12_fails (F_X12_fails (fs.set 0 (.int (Int32.ofInt 0))) (Int32.ofInt 0) (Int32.ofInt 1) (Int32.ofInt 1)) (V0_X12_fails (Int32.ofInt 0) (Int32.ofInt 1) (Int32.ofInt 1)) (Int32.ofInt 0) (Int32.ofInt 2)))))) (by rw [stt_stt (a := a)]) ?_
        refine x_if_eq (M := M_X12_end) (tgt := 54) dX12_end_49 (by decide) (fun q3 => ?_) (fun q3 => ?_)
        · refine x_aload_n (M := M_X12_end) dX12_end_54 rfl ?_
          refine x_dup (M := M_X12_end) dX12_end_55 rfl ?_
          refine x_getf (M := M_X12_end) (ci := 15) (C := RX12) (T := TX12) (N := 135) (ty := tyX12) cl15 dX12_end_56 (ob_self ha) 4 (by decide) t_2395 ((k_X12_fails (by decide)).trans ((k_X12_fails (by decide)).trans (gs_ne (by decide) e4))) ?_
          refine x_bipush (M := M_X12_end) dX12_end_59 ?_
          refine x_iload_n (M := M_X12_end) dX12_end_61 rfl ?_
          refine x_isub (M := M_X12_end) dX12_end_62 ?_
          refine x_isub (M := M_X12_end) dX12_end_63 ?_
          refine x_put (M := M_X12_end) (ci := 15) (C := RX12) (T := TX12) (N := 135) (ty := tyX12) cl15 dX12_end_64 (ob_self ha) 4 (by decide) t_2395 (Or.inl rfl) (by simp only [List.length_set, hn, l_X12_fails]; decide) rfl ?_
          refine x_heap (h' := (stt h a (.inr (15, ((F_X12_fails (F_X12_fails (fs.set 0 (.int (Int32.ofInt 0))) (Int32.ofInt 0) (Int32.ofInt 1) (Int32.ofInt 1)) (V0_X12_fails (Int32.ofInt 0) (Int32.ofInt 1) (Int32.ofInt 1)) (Int32.ofInt 0) (Int32.ofInt 2)).set 4 (.int (g4 - ((Int8.ofInt 20).toInt32 - w0)))))))) (by rw [stt_stt (a := a)]) ?_
          refine x_aload_n (M := M_X12_end) dX12_end_67 rfl ?_
          refine x_getf (M := M_X12_end) (ci := 15) (C := RX12) (T := TX12) (N := 135) (ty := tyX12) cl15 dX12_end_68 (ob_self ha) 4 (by decide) t_2395 (gs_eq (by simp only [List.length_set, hn, l_X12_fails]; decide)) ?_
          exact x_iret (M := M_X12_end) dX12_end_71 rfl ⟨by rw [f_X12_end, if_pos q0, if_pos q1, if_pos q2, if_pos q3], by rw [F_X12_end, if_pos q0, if_pos q1, if_pos q2, if_pos q3]⟩ (Nat.le_of_ble_eq_true rfl) (Nat.le_of_ble_eq_true rfl)
        · refine x_iconst (M := M_X12_end) dX12_end_52 ?_
          exact x_iret (M := M_X12_end) dX12_end_53 rfl ⟨by rw [f_X12_end, if_pos q0, if_pos q1, if_pos q2, if_neg q3], by rw [F_X12_end, if_pos q0, if_pos q1, if_pos q2, if_neg q3]⟩ (Nat.le_of_ble_eq_true rfl) (Nat.le_of_ble_eq_true rfl)
      · refine x_iconst (M := M_X12_end) dX12_end_40 ?_
        refine x_goto (M := M_X12_end) (tgt := 45) dX12_end_41 (by decide) ?_
        refine x_iconst (M := M_X12_end) dX12_end_45 ?_
        refine x_callVR (M := M_X12_end) (M' := M_X12_fails) rfl rfl dX12_end_46 m_X12_fails t_2805 t_2807 s_157 (p_X12_fails hl (ob_self ha) (by simp only [List.length_set, hn, l_X12_fails]) (v0_X12_fails (by simp only [List.length_set, hn, l_X12_fails]) (gs_eq (by simp only [List.length_set, hn, l_X12_fails]; decide)))) rfl rfl (ob_self ha) rfl (Nat.le_of_ble_eq_true rfl) (Nat.le_of_ble_eq_true rfl) (Nat.le_of_ble_eq_true rfl) (Nat.le_of_ble_eq_true rfl) ?_
        refine x_heap (h' := (stt h a (.inr (15, (F_X12_fails (F_X12_fails (fs.set 0 (.int (Int32.ofInt 0))) (Int32.ofInt 0) (Int32.ofInt 1) (Int32.ofInt 1)) (V0_X12_fails (Int32.ofInt 0) (Int32.ofInt 1) (Int32.ofInt 1)) (Int32.ofInt 1) (Int32.ofInt 2)))))) (by rw [stt_stt (a := a)]) ?_
        refine x_if_eq (M := M_X12_end) (tgt := 54) dX12_end_49 (by decide) (fun q3 => ?_) (fun q3 => ?_)
        · refine x_aload_n (M := M_X12_end) dX12_end_54 rfl ?_
          refine x_dup (M := M_X12_end) dX12_end_55 rfl ?_
          refine x_getf (M := M_X12_end) (ci := 15) (C := RX12) (T := TX12) (N := 135) (ty := tyX12) cl15 dX12_end_56 (ob_self ha) 4 (by decide) t_2395 ((k_X12_fails (by decide)).trans ((k_X12_fails (by decide)).trans (gs_ne (by decide) e4))) ?_
          refine x_bipush (M := M_X12_end) dX12_end_59 ?_
          refine x_iload_n (M := M_X12_end) dX12_end_61 rfl ?_
          refine x_isub (M := M_X12_end) dX12_end_62 ?_
          refine x_isub (M := M_X12_end) dX12_end_63 ?_
          refine x_put (M := M_X12_end) (ci := 15) (C := RX12) (T := TX12) (N := 135) (ty := tyX12) cl15 dX12_end_64 (ob_self ha) 4 (by decide) t_2395 (Or.inl rfl) (by simp only [List.length_set, hn, l_X12_fails]; decide) rfl ?_
          refine x_heap (h' := (stt h a (.inr (15, ((F_X12_fails (F_X12_fails (fs.set 0 (.int (Int32.ofInt 0))) (Int32.ofInt 0) (Int32.ofInt 1) (Int32.ofInt 1)) (V0_X12_fails (Int32.ofInt 0) (Int32.ofInt 1) (Int32.ofInt 1)) (Int32.ofInt 1) (Int32.ofInt 2)).set 4 (.int (g4 - ((Int8.ofInt 20).toInt32 - w0)))))))) (by rw [stt_stt (a := a)]) ?_
          refine x_aload_n (M := M_X12_end) dX12_end_67 rfl ?_
          refine x_getf (M := M_X12_end) (ci := 15) (C := RX12) (T := TX12) (N := 135) (ty := tyX12) cl15 dX12_end_68 (ob_self ha) 4 (by decide) t_2395 (gs_eq (by simp only [List.length_set, hn, l_X12_fails]; decide)) ?_
          exact x_iret (M := M_X12_end) dX12_end_71 rfl ⟨by rw [f_X12_end, if_pos q0, if_pos q1, if_neg q2, if_pos q3], by rw [F_X12_end, if_pos q0, if_pos q1, if_neg q2, if_pos q3]⟩ (Nat.le_of_ble_eq_true rfl) (Nat.le_of_ble_eq_true rfl)
        · refine x_iconst (M := M_X12_end) dX12_end_52 ?_
          exact x_iret (M := M_X12_end) dX12_end_53 rfl ⟨by rw [f_X12_end, if_pos q0, if_pos q1, if_neg q2, if_neg q3], by rw [F_X12_end, if_pos q0, if_pos q1, if_neg q2, if_neg q3]⟩ (Nat.le_of_ble_eq_true rfl) (Nat.le_of_ble_eq_true rfl)
def f_X12_fault (g7 : Int32) (g8 : Int32) (w0 : Int32) : Int32 := if (f_X12_in (w0.toInt64) (Int64.ofNat ((0 : Fin 2) : Nat)) (Int64.ofNat ((1 : Fin 2) : Nat))) = 0 then if (f_X12_fails (Int32.ofInt 0) (Int32.ofInt 1) (Int32.ofInt 1)) = 0 then if w0 = 0 then g7 else (g8) else ((Int32.ofInt 0)) else (if (f_X12_fails (Int32.ofInt 0) (Int32.ofInt 0) (Int32.ofInt 1)) = 0 then if w0 = 0 then g7 else (g8) else ((Int32.ofInt 0)))
def F_X12_fault (fs : List Value) (g7 : Int32) (g8 : Int32) (w0 : Int32) : List Value := if (f_X12_in (w0.toInt64) (Int64.ofNat ((0 : Fin 2) : Nat)) (Int64.ofNat ((1 : Fin 2) : Nat))) = 0 then if (f_X12_fails (Int32.ofInt 0) (Int32.ofInt 1) (Int32.ofInt 1)) = 0 then if w0 = 0 then (F_X12_fails (fs.set 0 (.int (Int32.ofInt 0))) (Int32.ofInt 0) (Int32.ofInt 1) (Int32.ofInt 1)) else ((F_X12_fails (fs.set 0 (.int (Int32.ofInt 0))) (Int32.ofInt 0) (Int32.ofInt 1) (Int32.ofInt 1))) else ((F_X12_fails (fs.set 0 (.int (Int32.ofInt 0))) (Int32.ofInt 0) (Int32.ofInt 1) (Int32.ofInt 1))) else (if (f_X12_fails (Int32.ofInt 0) (Int32.ofInt 0) (Int32.ofInt 1)) = 0 then if w0 = 0 then (F_X12_fails (fs.set 0 (.int (Int32.ofInt 0))) (Int32.ofInt 0) (Int32.ofInt 0) (Int32.ofInt 1)) else ((F_X12_fails (fs.set 0 (.int (Int32.ofInt 0))) (Int32.ofInt 0) (Int32.ofInt 0) (Int32.ofInt 1))) else ((F_X12_fails (fs.set 0 (.int (Int32.ofInt 0))) (Int32.ofInt 0) (Int32.ofInt 0) (Int32.ofInt 1))))
theorem l_X12_fault {fs : List Value} {g7 : Int32} {g8 : Int32} {w0 : Int32} : (F_X12_fault fs g7 g8 w0).length = fs.length := by
  unfold F_X12_fault
  repeat' split
  all_goals first | rfl | simp only [List.length_set, l_X12_fails]
theorem k_X12_fault {fs : List Value} {g7 : Int32} {g8 : Int32} {w0 : Int32} {k : Nat} (hk : k ∉ ([0] : List Nat)) : (F_X12_fault fs g7 g8 w0)[k]? = fs[k]? := by
  simp only [List.mem_cons, List.not_mem_nil, or_false, not_or] at hk
  unfold F_X12_fault
  repeat' split
  all_goals first | rfl | simp only [List.getElem?_set_ne (by omega : 0 ≠ k), k_X12_fails (k := k) (by simp <;> omega)]
def V0_X12_fault (g7 : Int32) (g8 : Int32) (w0 : Int32) : Int32 := if (f_X12_in (w0.toInt64) (Int64.ofNat ((0 : Fin 2) : Nat)) (Int64.ofNat ((1 : Fin 2) : Nat))) = 0 then if (f_X12_fails (Int32.ofInt 0) (Int32.ofInt 1) (Int32.ofInt 1)) = 0 then if w0 = 0 then (V0_X12_fails (Int32.ofInt 0) (Int32.ofInt 1) (Int32.ofInt 1)) else ((V0_X12_fails (Int32.ofInt 0) (Int32.ofInt 1) (Int32.ofInt 1))) else ((V0_X12_fails (Int32.ofInt 0) (Int32.ofInt 1) (Int32.ofInt 1))) else (if (f_X12_fails (Int32.ofInt 0) (Int32.ofInt 0) (Int32.ofInt 1)) = 0 then if w0 = 0 then (V0_X12_fails (Int32.ofInt 0) (Int32.ofInt 0) (Int32.ofInt 1)) else ((V0_X12_fails (Int32.ofInt 0) (Int32.ofInt 0) (Int32.ofInt 1))) else ((V0_X12_fails (Int32.ofInt 0) (Int32.ofInt 0) (Int32.ofInt 1))))
theorem v0_X12_fault {fs : List Value} {g7 : Int32} {g8 : Int32} {w0 : Int32} (hn : fs.length = 135) (e7 : fs[7]? = some (.int g7)) (e8 : fs[8]? = some (.int g8)) : (F_X12_fault fs g7 g8 w0)[0]? = some (.int (V0_X12_fault g7 g8 w0)) := by
  unfold F_X12_fault V0_X12_fault
  exact (gi (gi (gi (v0_X12_fails (by simp only [List.length_set, hn, l_X12_fails]) (gs_eq (by simp only [List.length_set, hn, l_X12_fails]; decide))) (v0_X12_fails (by simp only [List.length_set, hn, l_X12_fails]) (gs_eq (by simp only [List.length_set, hn, l_X12_fails]; decide)))) (v0_X12_fails (by simp only [List.length_set, hn, l_X12_fails]) (gs_eq (by simp only [List.length_set, hn, l_X12_fails]; decide)))) (gi (gi (v0_X12_fails (by simp only [List.length_set, hn, l_X12_fails]) (gs_eq (by simp only [List.length_set, hn, l_X12_fails]; decide))) (v0_X12_fails (by simp only [List.length_set, hn, l_X12_fails]) (gs_eq (by simp only [List.length_set, hn, l_X12_fails]; decide)))) (v0_X12_fails (by simp only [List.length_set, hn, l_X12_fails]) (gs_eq (by simp only [List.length_set, hn, l_X12_fails]; decide)))))
theorem p_X12_fault {l : Launch} {E : EE} (hl : l.stackTraces = false) {h : HP} {g7 : Int32} {g8 : Int32} {w0 : Int32} {a : Nat} {fs : List Value} (ha : ob h a = some (.inr (15, fs))) (hn : fs.length = 135) (e7 : fs[7]? = some (.int g7)) (e8 : fs[8]? = some (.int g8)) : en_C l E M_X12_fault 1 0 0 [.ref a, .int w0] h (pR (some (.int (f_X12_fault g7 g8 w0))) (stt h a (.inr (15, F_X12_fault fs g7 g8 w0)))) := by
  refine en_mk m_X12_fault rfl hl (Nat.le_of_ble_eq_true rfl) ?_
  refine x_heap (h' := (stt h a (.inr (15, fs)))) (by rw [stt_id ha]) ?_
  refine x_aload_n (M := M_X12_fault) dX12_fault_0 rfl ?_
  refine x_iconst (M := M_X12_fault) dX12_fault_1 ?_
  refine x_put (M := M_X12_fault) (ci := 15) (C := RX12) (T := TX12) (N := 135) (ty := tyX12) cl15 dX12_fault_2 (ob_self ha) 0 (by decide) t_2391 (Or.inl rfl) (by simp only [List.length_set, hn]; decide) rfl ?_
  refine x_heap (h' := (stt h a (.inr (15, (fs.set 0 (.int (Int32.ofInt 0))))))) (by rw [stt_stt (a := a)]) ?_
  refine x_aload_n (M := M_X12_fault) dX12_fault_5 rfl ?_
  refine x_iload_n (M := M_X12_fault) dX12_fault_6 rfl ?_
  refine x_i2l (M := M_X12_fault) dX12_fault_7 ?_
  refine x_lconst (M := M_X12_fault) dX12_fault_8 ?_
  refine x_lconst (M := M_X12_fault) dX12_fault_9 ?_
  refine x_callSR (M := M_X12_fault) (M' := M_X12_in) rfl rfl dX12_fault_10 m_X12_in t_2818 t_2819 (p_X12_in hl) rfl rfl (Nat.le_of_ble_eq_true rfl) (Nat.le_of_ble_eq_true rfl) (Nat.le_of_ble_eq_true rfl) (Nat.le_of_ble_eq_true rfl) ?_
  refine x_if_ne (M := M_X12_fault) (tgt := 20) dX12_fault_13 (by decide) (fun q0 => ?_) (fun q0 => ?_)
  · refine x_iconst (M := M_X12_fault) dX12_fault_20 ?_
    refine x_iconst (M := M_X12_fault) dX12_fault_21 ?_
    refine x_callVR (M := M_X12_fault) (M' := M_X12_fails) rfl rfl dX12_fault_22 m_X12_fails t_2805 t_2807 s_157 (p_X12_fails hl (ob_self ha) (by simp only [List.length_set, hn]) (gs_eq (by simp only [List.length_set, hn]; decide))) rfl rfl (ob_self ha) rfl (Nat.le_of_ble_eq_true rfl) (Nat.le_of_ble_eq_true rfl) (Nat.le_of_ble_eq_true rfl) (Nat.le_of_ble_eq_true rfl) ?_
    refine x_heap (h' := (stt h a (.inr (15, (F_X12_fails (fs.set 0 (.int (Int32.ofInt 0))) (Int32.ofInt 0) (Int32.ofInt 0) (Int32.ofInt 1)))))) (by rw [stt_stt (a := a)]) ?_
    refine x_if_eq (M := M_X12_fault) (tgt := 30) dX12_fault_25 (by decide) (fun q1 => ?_) (fun q1 => ?_)
    · refine x_iload_n (M := M_X12_fault) dX12_fault_30 rfl ?_
      refine x_if_ne (M := M_X12_fault) (tgt := 41) dX12_fault_31 (by decide) (fun q2 => ?_) (fun q2 => ?_)
      · refine x_aload_n (M := M_X12_fault) dX12_fault_41 rfl ?_
        refine x_getf (M := M_X12_fault) (ci := 15) (C := RX12) (T := TX12) (N := 135) (ty := tyX12) cl15 dX12_fault_42 (ob_self ha) 8 (by decide) t_2399 ((k_X12_fails (by decide)).trans (gs_ne (by decide) e8)) ?_
        exact x_iret (M := M_X12_fault) dX12_fault_45 rfl ⟨by rw [f_X12_fault, if_neg q0, if_pos q1, if_neg q2], by rw [F_X12_fault, if_neg q0, if_pos q1, if_neg q2]⟩ (Nat.le_of_ble_eq_true rfl) (Nat.le_of_ble_eq_true rfl)
      · refine x_aload_n (M := M_X12_fault) dX12_fault_34 rfl ?_
        refine x_getf (M := M_X12_fault) (ci := 15) (C := RX12) (T := TX12) (N := 135) (ty := tyX12) cl15 dX12_fault_35 (ob_self ha) 7 (by decide) t_2398 ((k_X12_fails (by decide)).trans (gs_ne (by decide) e7)) ?_
        refine x_goto (M := M_X12_fault) (tgt := 45) dX12_fault_38 (by decide) ?_
        exact x_iret (M := M_X12_fault) dX12_fault_45 rfl ⟨by rw [f_X12_fault, if_neg q0, if_pos q1, if_pos q2], by rw [F_X12_fault, if_neg q0, if_pos q1, if_pos q2]⟩ (Nat.le_of_ble_eq_true rfl) (Nat.le_of_ble_eq_true rfl)
    · refine x_iconst (M := M_X12_fault) dX12_fault_28 ?_
      exact x_iret (M := M_X12_fault) dX12_fault_29 rfl ⟨by rw [f_X12_fault, if_neg q0, if_neg q1], by rw [F_X12_fault, if_neg q0, if_neg q1]⟩ (Nat.le_of_ble_eq_true rfl) (Nat.le_of_ble_eq_true rfl)
  · refine x_iconst (M := M_X12_fault) dX12_fault_16 ?_
    refine x_goto (M := M_X12_fault) (tgt := 21) dX12_fault_17 (by decide) ?_
    refine x_iconst (M := M_X12_fault) dX12_fault_21 ?_
    refine x_callVR (M := M_X12_fault) (M' := M_X12_fails) rfl rfl dX12_fault_22 m_X12_fails t_2805 t_2807 s_157 (p_X12_fails hl (ob_self ha) (by simp only [List.length_set, hn, l_X12_fails]) (gs_eq (by simp only [List.length_set, hn, l_X12_fails]; decide))) rfl rfl (ob_self ha) rfl (Nat.le_of_ble_eq_true rfl) (Nat.le_of_ble_eq_true rfl) (Nat.le_of_ble_eq_true rfl) (Nat.le_of_ble_eq_true rfl) ?_
    refine x_heap (h' := (stt h a (.inr (15, (F_X12_fails (fs.set 0 (.int (Int32.ofInt 0))) (Int32.ofInt 0) (Int32.ofInt 1) (Int32.ofInt 1)))))) (by rw [stt_stt (a := a)]) ?_
    refine x_if_eq (M := M_X12_fault) (tgt := 30) dX12_fault_25 (by decide) (fun q1 => ?_) (fun q1 => ?_)
    · refine x_iload_n (M := M_X12_fault) dX12_fault_30 rfl ?_
      refine x_if_ne (M := M_X12_fault) (tgt := 41) dX12_fault_31 (by decide) (fun q2 => ?_) (fun q2 => ?_)
      · refine x_aload_n (M := M_X12_fault) dX12_fault_41 rfl ?_
        refine x_getf (M := M_X12_fault) (ci := 15) (C := RX12) (T := TX12) (N := 135) (ty := tyX12) cl15 dX12_fault_42 (ob_self ha) 8 (by decide) t_2399 ((k_X12_fails (by decide)).trans (gs_ne (by decide) e8)) ?_
        exact x_iret (M := M_X12_fault) dX12_fault_45 rfl ⟨by rw [f_X12_fault, if_pos q0, if_pos q1, if_neg q2], by rw [F_X12_fault, if_pos q0, if_pos q1, if_neg q2]⟩ (Nat.le_of_ble_eq_true rfl) (Nat.le_of_ble_eq_true rfl)
      · refine x_aload_n (M := M_X12_fault) dX12_fault_34 rfl ?_
        refine x_getf (M := M_X12_fault) (ci := 15) (C := RX12) (T := TX12) (N := 135) (ty := tyX12) cl15 dX12_fault_35 (ob_self ha) 7 (by decide) t_2398 ((k_X12_fails (by decide)).trans (gs_ne (by decide) e7)) ?_
        refine x_goto (M := M_X12_fault) (tgt := 45) dX12_fault_38 (by decide) ?_
        exact x_iret (M := M_X12_fault) dX12_fault_45 rfl ⟨by rw [f_X12_fault, if_pos q0, if_pos q1, if_pos q2], by rw [F_X12_fault, if_pos q0, if_pos q1, if_pos q2]⟩ (Nat.le_of_ble_eq_true rfl) (Nat.le_of_ble_eq_true rfl)
    · refine x_iconst (M := M_X12_fault) dX12_fault_28 ?_
      exact x_iret (M := M_X12_fault) dX12_fault_29 rfl ⟨by rw [f_X12_fault, if_pos q0, if_neg q1], by rw [F_X12_fault, if_pos q0, if_neg q1]⟩ (Nat.le_of_ble_eq_true rfl) (Nat.le_of_ble_eq_true rfl)
def f_X12_byteAt (g6 : Int32) (c5 : Nat → Int32) (w0 : Int32) : Int32 := if (f_X12_in (w0.toInt64) (Int64.ofNat ((0 : Fin 2) : Nat)) ((g6 - (Int32.ofInt 1)).toInt64)) = 0 then if (f_X12_fails (Int32.ofInt 0) (Int32.ofInt 1) (Int32.ofInt 1)) = 0 then ((c5 w0.toNatClampNeg) &&& (Int16.ofInt 255).toInt32) else ((Int32.ofInt 0)) else (if (f_X12_fails (Int32.ofInt 0) (Int32.ofInt 0) (Int32.ofInt 1)) = 0 then ((c5 w0.toNatClampNeg) &&& (Int16.ofInt 255).toInt32) else ((Int32.ofInt 0)))
def F_X12_byteAt (fs : List Value) (g6 : Int32) (c5 : Nat → Int32) (w0 : Int32) : List Value := if (f_X12_in (w0.toInt64) (Int64.ofNat ((0 : Fin 2) : Nat)) ((g6 - (Int32.ofInt 1)).toInt64)) = 0 then if (f_X12_fails (Int32.ofInt 0) (Int32.ofInt 1) (Int32.ofInt 1)) = 0 then (F_X12_fails (fs.set 0 (.int (Int32.ofInt 0))) (Int32.ofInt 0) (Int32.ofInt 1) (Int32.ofInt 1)) else ((F_X12_fails (fs.set 0 (.int (Int32.ofInt 0))) (Int32.ofInt 0) (Int32.ofInt 1) (Int32.ofInt 1))) else (if (f_X12_fails (Int32.ofInt 0) (Int32.ofInt 0) (Int32.ofInt 1)) = 0 then (F_X12_fails (fs.set 0 (.int (Int32.ofInt 0))) (Int32.ofInt 0) (Int32.ofInt 0) (Int32.ofInt 1)) else ((F_X12_fails (fs.set 0 (.int (Int32.ofInt 0))) (Int32.ofInt 0) (Int32.ofInt 0) (Int32.ofInt 1))))
theorem l_X12_byteAt {fs : List Value} {g6 : Int32} {c5 : Nat → Int32} {w0 : Int32} : (F_X12_byteAt fs g6 c5 w0).length = fs.length := by
  unfold F_X12_byteAt
  repeat' split
  all_goals first | rfl | simp only [List.length_set, l_X12_fails]
theorem k_X12_byteAt {fs : List Value} {g6 : Int32} {c5 : Nat → Int32} {w0 : Int32} {k : Nat} (hk : k ∉ ([0] : List Nat)) : (F_X12_byteAt fs g6 c5 w0)[k]? = fs[k]? := by
  simp only [List.mem_cons, List.not_mem_nil, or_false, not_or] at hk
  unfold F_X12_byteAt
  repeat' split
  all_goals first | rfl | simp only [List.getElem?_set_ne (by omega : 0 ≠ k), k_X12_fails (k := k) (by simp <;> omega)]
def V0_X12_byteAt (g6 : Int32) (c5 : Nat → Int32) (w0 : Int32) : Int32 := if (f_X12_in (w0.toInt64) (Int64.ofNat ((0 : Fin 2) : Nat)) ((g6 - (Int32.ofInt 1)).toInt64)) = 0 then if (f_X12_fails (Int32.ofInt 0) (Int32.ofInt 1) (Int32.ofInt 1)) = 0 then (V0_X12_fails (Int32.ofInt 0) (Int32.ofInt 1) (Int32.ofInt 1)) else ((V0_X12_fails (Int32.ofInt 0) (Int32.ofInt 1) (Int32.ofInt 1))) else (if (f_X12_fails (Int32.ofInt 0) (Int32.ofInt 0) (Int32.ofInt 1)) = 0 then (V0_X12_fails (Int32.ofInt 0) (Int32.ofInt 0) (Int32.ofInt 1)) else ((V0_X12_fails (Int32.ofInt 0) (Int32.ofInt 0) (Int32.ofInt 1))))
theorem v0_X12_byteAt {fs : List Value} {g6 : Int32} {c5 : Nat → Int32} {w0 : Int32} (hn : fs.length = 135) (e6 : fs[6]? = some (.int g6)) : (F_X12_byteAt fs g6 c5 w0)[0]? = some (.int (V0_X12_byteAt g6 c5 w0)) := by
  unfold F_X12_byteAt V0_X12_byteAt
  exact (gi (gi (v0_X12_fails (by simp only [List.length_set, hn, l_X12_fails]) (gs_eq (by simp only [List.length_set, hn, l_X12_fails]; decide))) (v0_X12_fails (by simp only [List.length_set, hn, l_X12_fails]) (gs_eq (by simp only [List.length_set, hn, l_X12_fails]; decide)))) (gi (v0_X12_fails (by simp only [List.length_set, hn, l_X12_fails]) (gs_eq (by simp only [List.length_set, hn, l_X12_fails]; decide))) (v0_X12_fails (by simp only [List.length_set, hn, l_X12_fails]) (gs_eq (by simp only [List.length_set, hn, l_X12_fails]; decide)))))
theorem p_X12_byteAt {l : Launch} {E : EE} (hl : l.stackTraces = false) {h : HP} {g6 : Int32} {c5 : Nat → Int32} {w0 : Int32} {a : Nat} {fs : List Value} (ha : ob h a = some (.inr (15, fs))) (hn : fs.length = 135) (e6 : fs[6]? = some (.int g6)) {r5 n5 : Nat} (e5 : fs[5]? = some (.ref r5)) (o5 : ob h r5 = some (.inl (2, n5, .inl c5))) (i0 : (¬ (f_X12_in (w0.toInt64) (Int64.ofNat ((0 : Fin 2) : Nat)) ((g6 - (Int32.ofInt 1)).toInt64)) = 0) → ((f_X12_fails (Int32.ofInt 0) (Int32.ofInt 0) (Int32.ofInt 1)) = 0) → vp_in w0 n5) (i1 : ((f_X12_in (w0.toInt64) (Int64.ofNat ((0 : Fin 2) : Nat)) ((g6 - (Int32.ofInt 1)).toInt64)) = 0) → ((f_X12_fails (Int32.ofInt 0) (Int32.ofInt 1) (Int32.ofInt 1)) = 0) → vp_in w0 n5) : en_C l E M_X12_byteAt 1 0 0 [.ref a, .int w0] h (pR (some (.int (f_X12_byteAt g6 c5 w0))) (stt h a (.inr (15, F_X12_byteAt fs g6 c5 w0)))) := by
  refine en_mk m_X12_byteAt rfl hl (Nat.le_of_ble_eq_true rfl) ?_
  refine x_heap (h' := (stt h a (.inr (15, fs)))) (by rw [stt_id ha]) ?_
  refine x_aload_n (M := M_X12_byteAt) dX12_byteAt_0 rfl ?_
  refine x_iconst (M := M_X12_byteAt) dX12_byteAt_1 ?_
  refine x_put (M := M_X12_byteAt) (ci := 15) (C := RX12) (T := TX12) (N := 135) (ty := tyX12) cl15 dX12_byteAt_2 (ob_self ha) 0 (by decide) t_2391 (Or.inl rfl) (by simp only [List.length_set, hn]; decide) rfl ?_
  refine x_heap (h' := (stt h a (.inr (15, (fs.set 0 (.int (Int32.ofInt 0))))))) (by rw [stt_stt (a := a)]) ?_
  refine x_aload_n (M := M_X12_byteAt) dX12_byteAt_5 rfl ?_
  refine x_iload_n (M := M_X12_byteAt) dX12_byteAt_6 rfl ?_
  refine x_i2l (M := M_X12_byteAt) dX12_byteAt_7 ?_
  refine x_lconst (M := M_X12_byteAt) dX12_byteAt_8 ?_
  refine x_aload_n (M := M_X12_byteAt) dX12_byteAt_9 rfl ?_
  refine x_getf (M := M_X12_byteAt) (ci := 15) (C := RX12) (T := TX12) (N := 135) (ty := tyX12) cl15 dX12_byteAt_10 (ob_self ha) 6 (by decide) t_2397 (gs_ne (by decide) e6) ?_
  refine x_iconst (M := M_X12_byteAt) dX12_byteAt_13 ?_
  refine x_isub (M := M_X12_byteAt) dX12_byteAt_14 ?_
  refine x_i2l (M := M_X12_byteAt) dX12_byteAt_15 ?_
  refine x_callSR (M := M_X12_byteAt) (M' := M_X12_in) rfl rfl dX12_byteAt_16 m_X12_in t_2818 t_2819 (p_X12_in hl) rfl rfl (Nat.le_of_ble_eq_true rfl) (Nat.le_of_ble_eq_true rfl) (Nat.le_of_ble_eq_true rfl) (Nat.le_of_ble_eq_true rfl) ?_
  refine x_if_ne (M := M_X12_byteAt) (tgt := 26) dX12_byteAt_19 (by decide) (fun q0 => ?_) (fun q0 => ?_)
  · refine x_iconst (M := M_X12_byteAt) dX12_byteAt_26 ?_
    refine x_iconst (M := M_X12_byteAt) dX12_byteAt_27 ?_
    refine x_callVR (M := M_X12_byteAt) (M' := M_X12_fails) rfl rfl dX12_byteAt_28 m_X12_fails t_2805 t_2807 s_157 (p_X12_fails hl (ob_self ha) (by simp only [List.length_set, hn]) (gs_eq (by simp only [List.length_set, hn]; decide))) rfl rfl (ob_self ha) rfl (Nat.le_of_ble_eq_true rfl) (Nat.le_of_ble_eq_true rfl) (Nat.le_of_ble_eq_true rfl) (Nat.le_of_ble_eq_true rfl) ?_
    refine x_heap (h' := (stt h a (.inr (15, (F_X12_fails (fs.set 0 (.int (Int32.ofInt 0))) (Int32.ofInt 0) (Int32.ofInt 0) (Int32.ofInt 1)))))) (by rw [stt_stt (a := a)]) ?_
    refine x_if_eq (M := M_X12_byteAt) (tgt := 36) dX12_byteAt_31 (by decide) (fun q1 => ?_) (fun q1 => ?_)
    · refine x_aload_n (M := M_X12_byteAt) dX12_byteAt_36 rfl ?_
      refine x_getf (M := M_X12_byteAt) (ci := 15) (C := RX12) (T := TX12) (N := 135) (ty := tyX12) cl15 dX12_byteAt_37 (ob_self ha) 5 (by decide) t_2396 ((k_X12_fails (by decide)).trans (gs_ne (by decide) e5)) ?_
      refine x_iload_n (M := M_X12_byteAt) dX12_byteAt_40 rfl ?_
      refine x_bald (M := M_X12_byteAt) dX12_byteAt_41 (ob_oth ha o5) (i0 q0 q1) ?_
      refine x_sipush (M := M_X12_byteAt) dX12_byteAt_42 ?_
      refine x_iand (M := M_X12_byteAt) dX12_byteAt_45 ?_
      exact x_iret (M := M_X12_byteAt) dX12_byteAt_46 rfl ⟨by rw [f_X12_byteAt, if_neg q0, if_pos q1], by rw [F_X12_byteAt, if_neg q0, if_pos q1]⟩ (Nat.le_of_ble_eq_true rfl) (Nat.le_of_ble_eq_true rfl)
    · refine x_iconst (M := M_X12_byteAt) dX12_byteAt_34 ?_
      exact x_iret (M := M_X12_byteAt) dX12_byteAt_35 rfl ⟨by rw [f_X12_byteAt, if_neg q0, if_neg q1], by rw [F_X12_byteAt, if_neg q0, if_neg q1]⟩ (Nat.le_of_ble_eq_true rfl) (Nat.le_of_ble_eq_true rfl)
  · refine x_iconst (M := M_X12_byteAt) dX12_byteAt_22 ?_
    refine x_goto (M := M_X12_byteAt) (tgt := 27) dX12_byteAt_23 (by decide) ?_
    refine x_iconst (M := M_X12_byteAt) dX12_byteAt_27 ?_
    refine x_callVR (M := M_X12_byteAt) (M' := M_X12_fails) rfl rfl dX12_byteAt_28 m_X12_fails t_2805 t_2807 s_157 (p_X12_fails hl (ob_self ha) (by simp only [List.length_set, hn, l_X12_fails]) (gs_eq (by simp only [List.length_set, hn, l_X12_fails]; decide))) rfl rfl (ob_self ha) rfl (Nat.le_of_ble_eq_true rfl) (Nat.le_of_ble_eq_true rfl) (Nat.le_of_ble_eq_true rfl) (Nat.le_of_ble_eq_true rfl) ?_
    refine x_heap (h' := (stt h a (.inr (15, (F_X12_fails (fs.set 0 (.int (Int32.ofInt 0))) (Int32.ofInt 0) (Int32.ofInt 1) (Int32.ofInt 1)))))) (by rw [stt_stt (a := a)]) ?_
    refine x_if_eq (M := M_X12_byteAt) (tgt := 36) dX12_byteAt_31 (by decide) (fun q1 => ?_) (fun q1 => ?_)
    · refine x_aload_n (M := M_X12_byteAt) dX12_byteAt_36 rfl ?_
      refine x_getf (M := M_X12_byteAt) (ci := 15) (C := RX12) (T := TX12) (N := 135) (ty := tyX12) cl15 dX12_byteAt_37 (ob_self ha) 5 (by decide) t_2396 ((k_X12_fails (by decide)).trans (gs_ne (by decide) e5)) ?_
      refine x_iload_n (M := M_X12_byteAt) dX12_byteAt_40 rfl ?_
      refine x_bald (M := M_X12_byteAt) dX12_byteAt_41 (ob_oth ha o5) (i1 q0 q1) ?_
      refine x_sipush (M := M_X12_byteAt) dX12_byteAt_42 ?_
      refine x_iand (M := M_X12_byteAt) dX12_byteAt_45 ?_
      exact x_iret (M := M_X12_byteAt) dX12_byteAt_46 rfl ⟨by rw [f_X12_byteAt, if_pos q0, if_pos q1], by rw [F_X12_byteAt, if_pos q0, if_pos q1]⟩ (Nat.le_of_ble_eq_true rfl) (Nat.le_of_ble_eq_true rfl)
    · refine x_iconst (M := M_X12_byteAt) dX12_byteAt_34 ?_
      exact x_iret (M := M_X12_byteAt) dX12_byteAt_35 rfl ⟨by rw [f_X12_byteAt, if_pos q0, if_neg q1], by rw [F_X12_byteAt, if_pos q0, if_neg q1]⟩ (Nat.le_of_ble_eq_true rfl) (Nat.le_of_ble_eq_true rfl)
end PUR
