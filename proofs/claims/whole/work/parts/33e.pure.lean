section PUR
def f_X12_begins (g50 : Int64) (g51 : Int64) (c41 : Nat → Int64) (c42 : Nat → Int64) (w0 : Int32) : Int32 := if (lg_cmp (c41 w0.toNatClampNeg) g50) = 0 then if (lg_cmp (c42 w0.toNatClampNeg) g51) = 0 then (Int32.ofInt 1) else ((Int32.ofInt 0)) else ((Int32.ofInt 0))
theorem b_X12_begins (g50 : Int64) (g51 : Int64) (c41 : Nat → Int64) (c42 : Nat → Int64) (w0 : Int32) : f_X12_begins g50 g51 c41 c42 w0 = 0 ∨ f_X12_begins g50 g51 c41 c42 w0 = 1 := (ite01 (ite01 (Or.inr rfl) (Or.inl rfl)) (Or.inl rfl))
theorem p_X12_begins {l : Launch} {E : EE} (hl : l.stackTraces = false) {h : HP} {g50 : Int64} {g51 : Int64} {c41 : Nat → Int64} {c42 : Nat → Int64} {w0 : Int32} {a : Nat} {fs : List Value} (ha : ob h a = some (.inr (15, fs))) (e50 : fs[50]? = some (.long g50)) (e51 : fs[51]? = some (.long g51)) {r41 n41 : Nat} (e41 : fs[41]? = some (.ref r41)) (o41 : ob h r41 = some (.inl (1, n41, .inr (.inl c41)))) {r42 n42 : Nat} (e42 : fs[42]? = some (.ref r42)) (o42 : ob h r42 = some (.inl (1, n42, .inr (.inl c42)))) (i0 : vp_in w0 n41) (i1 : ((lg_cmp (c41 w0.toNatClampNeg) g50) = 0) → vp_in w0 n42) : en_C l E M_X12_begins 0 0 0 [.ref a, .int w0] h (pR (some (.int (f_X12_begins g50 g51 c41 c42 w0))) h) := by
  refine en_mk m_X12_begins rfl hl (Nat.le_of_ble_eq_true rfl) ?_
  refine x_aload_n (M := M_X12_begins) dX12_begins_0 rfl ?_
  refine x_getf (M := M_X12_begins) (ci := 15) (C := RX12) (T := TX12) (N := 135) (ty := tyX12) cl15 dX12_begins_1 ha 41 (by decide) t_2432 e41 ?_
  refine x_iload_n (M := M_X12_begins) dX12_begins_4 rfl ?_
  refine x_lald (M := M_X12_begins) dX12_begins_5 o41 i0 ?_
  refine x_aload_n (M := M_X12_begins) dX12_begins_6 rfl ?_
  refine x_getf (M := M_X12_begins) (ci := 15) (C := RX12) (T := TX12) (N := 135) (ty := tyX12) cl15 dX12_begins_7 ha 50 (by decide) t_2441 e50 ?_
  refine x_lcmp (M := M_X12_begins) dX12_begins_10 ?_
  refine x_if_ne (M := M_X12_begins) (tgt := 32) dX12_begins_11 (by decide) (fun q0 => ?_) (fun q0 => ?_)
  · refine x_iconst (M := M_X12_begins) dX12_begins_32 ?_
    exact x_zret (M := M_X12_begins) dX12_begins_33 rfl (Or.inl rfl) ⟨by rw [f_X12_begins, if_neg q0], rfl⟩ (Nat.le_of_ble_eq_true rfl) (Nat.le_of_ble_eq_true rfl)
  · refine x_aload_n (M := M_X12_begins) dX12_begins_14 rfl ?_
    refine x_getf (M := M_X12_begins) (ci := 15) (C := RX12) (T := TX12) (N := 135) (ty := tyX12) cl15 dX12_begins_15 ha 42 (by decide) t_2433 e42 ?_
    refine x_iload_n (M := M_X12_begins) dX12_begins_18 rfl ?_
    refine x_lald (M := M_X12_begins) dX12_begins_19 o42 (i1 q0) ?_
    refine x_aload_n (M := M_X12_begins) dX12_begins_20 rfl ?_
    refine x_getf (M := M_X12_begins) (ci := 15) (C := RX12) (T := TX12) (N := 135) (ty := tyX12) cl15 dX12_begins_21 ha 51 (by decide) t_2442 e51 ?_
    refine x_lcmp (M := M_X12_begins) dX12_begins_24 ?_
    refine x_if_ne (M := M_X12_begins) (tgt := 32) dX12_begins_25 (by decide) (fun q1 => ?_) (fun q1 => ?_)
    · refine x_iconst (M := M_X12_begins) dX12_begins_32 ?_
      exact x_zret (M := M_X12_begins) dX12_begins_33 rfl (Or.inl rfl) ⟨by rw [f_X12_begins, if_pos q0, if_neg q1], rfl⟩ (Nat.le_of_ble_eq_true rfl) (Nat.le_of_ble_eq_true rfl)
    · refine x_iconst (M := M_X12_begins) dX12_begins_28 ?_
      refine x_goto (M := M_X12_begins) (tgt := 33) dX12_begins_29 (by decide) ?_
      exact x_zret (M := M_X12_begins) dX12_begins_33 rfl (Or.inr rfl) ⟨by rw [f_X12_begins, if_pos q0, if_pos q1], rfl⟩ (Nat.le_of_ble_eq_true rfl) (Nat.le_of_ble_eq_true rfl)
def f_X12_tellPair (c14 : Nat → Int32) (c45 : Nat → Int32) (c46 : Nat → Int32) (c54 : Nat → Int32) (c55 : Nat → Int32) (w0 : Int32) (w1 : Int32) (w2 : Int32) : Int32 := w0
def F_X12_tellPair (fs : List Value) (c14 : Nat → Int32) (c45 : Nat → Int32) (c46 : Nat → Int32) (c54 : Nat → Int32) (c55 : Nat → Int32) (w0 : Int32) (w1 : Int32) (w2 : Int32) : List Value := fs
def A14_X12_tellPair (c14 : Nat → Int32) (c45 : Nat → Int32) (c46 : Nat → Int32) (c54 : Nat → Int32) (c55 : Nat → Int32) (w0 : Int32) (w1 : Int32) (w2 : Int32) : Nat → Int32 := (upd (upd (upd (upd (upd (upd c14 (Int32.ofInt 1).toNatClampNeg (c54 (c45 w1.toNatClampNeg).toNatClampNeg)) (Int32.ofInt 2).toNatClampNeg (c55 (c45 w1.toNatClampNeg).toNatClampNeg)) (Int32.ofInt 3).toNatClampNeg (c46 w1.toNatClampNeg)) (Int32.ofInt 4).toNatClampNeg (c54 (c45 w2.toNatClampNeg).toNatClampNeg)) (Int32.ofInt 5).toNatClampNeg (c55 (c45 w2.toNatClampNeg).toNatClampNeg)) ((Int8.ofInt 6).toInt32).toNatClampNeg (c46 w2.toNatClampNeg))
theorem l_X12_tellPair {fs : List Value} {c14 : Nat → Int32} {c45 : Nat → Int32} {c46 : Nat → Int32} {c54 : Nat → Int32} {c55 : Nat → Int32} {w0 : Int32} {w1 : Int32} {w2 : Int32} : (F_X12_tellPair fs c14 c45 c46 c54 c55 w0 w1 w2).length = fs.length := by
  unfold F_X12_tellPair
  first | rfl | simp only [List.length_set]
theorem k_X12_tellPair {fs : List Value} {c14 : Nat → Int32} {c45 : Nat → Int32} {c46 : Nat → Int32} {c54 : Nat → Int32} {c55 : Nat → Int32} {w0 : Int32} {w1 : Int32} {w2 : Int32} {k : Nat} (hk : k ∉ ([] : List Nat)) : (F_X12_tellPair fs c14 c45 c46 c54 c55 w0 w1 w2)[k]? = fs[k]? := by
  clear hk
  unfold F_X12_tellPair
  first | rfl | simp only []
theorem p_X12_tellPair {l : Launch} {E : EE} (hl : l.stackTraces = false) {h : HP} {c14 : Nat → Int32} {c45 : Nat → Int32} {c46 : Nat → Int32} {c54 : Nat → Int32} {c55 : Nat → Int32} {w0 : Int32} {w1 : Int32} {w2 : Int32} {a : Nat} {fs : List Value} (ha : ob h a = some (.inr (15, fs))) {r14 n14 : Nat} (e14 : fs[14]? = some (.ref r14)) (o14 : ob h r14 = some (.inl (0, n14, .inl c14))) {r45 n45 : Nat} (e45 : fs[45]? = some (.ref r45)) (o45 : ob h r45 = some (.inl (0, n45, .inl c45))) {r46 n46 : Nat} (e46 : fs[46]? = some (.ref r46)) (o46 : ob h r46 = some (.inl (0, n46, .inl c46))) {r54 n54 : Nat} (e54 : fs[54]? = some (.ref r54)) (o54 : ob h r54 = some (.inl (0, n54, .inl c54))) {r55 n55 : Nat} (e55 : fs[55]? = some (.ref r55)) (o55 : ob h r55 = some (.inl (0, n55, .inl c55))) (d14_45 : r14 ≠ r45) (d14_46 : r14 ≠ r46) (d14_54 : r14 ≠ r54) (d14_55 : r14 ≠ r55) (i0 : vp_in w1 n45) (i1 : vp_in (c45 w1.toNatClampNeg) n54) (i2 : vp_in (Int32.ofInt 1) n14) (i3 : vp_in w1 n45) (i4 : vp_in (c45 w1.toNatClampNeg) n55) (i5 : vp_in (Int32.ofInt 2) n14) (i6 : vp_in w1 n46) (i7 : vp_in (Int32.ofInt 3) n14) (i8 : vp_in w2 n45) (i9 : vp_in (c45 w2.toNatClampNeg) n54) (i10 : vp_in (Int32.ofInt 4) n14) (i11 : vp_in w2 n45) (i12 : vp_in (c45 w2.toNatClampNeg) n55) (i13 : vp_in (Int32.ofInt 5) n14) (i14 : vp_in w2 n46) (i15 : vp_in ((Int8.ofInt 6).toInt32) n14) : en_C l E M_X12_tellPair 0 0 0 [.ref a, .int w0, .int w1, .int w2] h (pR (some (.int (f_X12_tellPair c14 c45 c46 c54 c55 w0 w1 w2))) (stt (stt h a (.inr (15, F_X12_tellPair fs c14 c45 c46 c54 c55 w0 w1 w2))) r14 (.inl (0, n14, .inl (A14_X12_tellPair c14 c45 c46 c54 c55 w0 w1 w2))))) := by
  refine en_mk m_X12_tellPair rfl hl (Nat.le_of_ble_eq_true rfl) ?_
  refine x_heap (h' := (stt (stt h a (.inr (15, fs))) r14 (.inl (0, n14, .inl c14)))) (by rw [stt_id ha, stt_id o14]) ?_
  refine x_aload_n (M := M_X12_tellPair) dX12_tellPair_0 rfl ?_
  refine x_getf (M := M_X12_tellPair) (ci := 15) (C := RX12) (T := TX12) (N := 135) (ty := tyX12) cl15 dX12_tellPair_1 (ob_up (ob_df ha o14).symm (ob_at o14).1 (ob_self ha)) 14 (by decide) t_2405 e14 ?_
  refine x_iconst (M := M_X12_tellPair) dX12_tellPair_4 ?_
  refine x_aload_n (M := M_X12_tellPair) dX12_tellPair_5 rfl ?_
  refine x_getf (M := M_X12_tellPair) (ci := 15) (C := RX12) (T := TX12) (N := 135) (ty := tyX12) cl15 dX12_tellPair_6 (ob_up (ob_df ha o14).symm (ob_at o14).1 (ob_self ha)) 54 (by decide) t_2445 e54 ?_
  refine x_aload_n (M := M_X12_tellPair) dX12_tellPair_9 rfl ?_
  refine x_getf (M := M_X12_tellPair) (ci := 15) (C := RX12) (T := TX12) (N := 135) (ty := tyX12) cl15 dX12_tellPair_10 (ob_up (ob_df ha o14).symm (ob_at o14).1 (ob_self ha)) 45 (by decide) t_2436 e45 ?_
  refine x_iload_n (M := M_X12_tellPair) dX12_tellPair_13 rfl ?_
  refine x_iald (M := M_X12_tellPair) dX12_tellPair_14 (ob_up d14_45 (ob_at o14).1 (ob_oth ha o45)) i0 ?_
  refine x_iald (M := M_X12_tellPair) dX12_tellPair_15 (ob_up d14_54 (ob_at o14).1 (ob_oth ha o54)) i1 ?_
  refine x_iast (M := M_X12_tellPair) dX12_tellPair_16 (ob_self (ob_oth ha o14)) i2 ?_
  refine x_heap (h' := (stt (stt h a (.inr (15, fs))) r14 (.inl (0, n14, .inl (upd c14 (Int32.ofInt 1).toNatClampNeg (c54 (c45 w1.toNatClampNeg).toNatClampNeg)))))) (by rw [stt_stt (a := r14)]) ?_
  refine x_aload_n (M := M_X12_tellPair) dX12_tellPair_17 rfl ?_
  refine x_getf (M := M_X12_tellPair) (ci := 15) (C := RX12) (T := TX12) (N := 135) (ty := tyX12) cl15 dX12_tellPair_18 (ob_up (ob_df ha o14).symm (ob_at o14).1 (ob_self ha)) 14 (by decide) t_2405 e14 ?_
  refine x_iconst (M := M_X12_tellPair) dX12_tellPair_21 ?_
  refine x_aload_n (M := M_X12_tellPair) dX12_tellPair_22 rfl ?_
  refine x_getf (M := M_X12_tellPair) (ci := 15) (C := RX12) (T := TX12) (N := 135) (ty := tyX12) cl15 dX12_tellPair_23 (ob_up (ob_df ha o14).symm (ob_at o14).1 (ob_self ha)) 55 (by decide) t_2446 e55 ?_
  refine x_aload_n (M := M_X12_tellPair) dX12_tellPair_26 rfl ?_
  refine x_getf (M := M_X12_tellPair) (ci := 15) (C := RX12) (T := TX12) (N := 135) (ty := tyX12) cl15 dX12_tellPair_27 (ob_up (ob_df ha o14).symm (ob_at o14).1 (ob_self ha)) 45 (by decide) t_2436 e45 ?_
  refine x_iload_n (M := M_X12_tellPair) dX12_tellPair_30 rfl ?_
  refine x_iald (M := M_X12_tellPair) dX12_tellPair_31 (ob_up d14_45 (ob_at o14).1 (ob_oth ha o45)) i3 ?_
  refine x_iald (M := M_X12_tellPair) dX12_tellPair_32 (ob_up d14_55 (ob_at o14).1 (ob_oth ha o55)) i4 ?_
  refine x_iast (M := M_X12_tellPair) dX12_tellPair_33 (ob_self (ob_oth ha o14)) i5 ?_
  refine x_heap (h' := (stt (stt h a (.inr (15, fs))) r14 (.inl (0, n14, .inl (upd (upd c14 (Int32.ofInt 1).toNatClampNeg (c54 (c45 w1.toNatClampNeg).toNatClampNeg)) (Int32.ofInt 2).toNatClampNeg (c55 (c45 w1.toNatClampNeg).toNatClampNeg)))))) (by rw [stt_stt (a := r14)]) ?_
  refine x_aload_n (M := M_X12_tellPair) dX12_tellPair_34 rfl ?_
  refine x_getf (M := M_X12_tellPair) (ci := 15) (C := RX12) (T := TX12) (N := 135) (ty := tyX12) cl15 dX12_tellPair_35 (ob_up (ob_df ha o14).symm (ob_at o14).1 (ob_self ha)) 14 (by decide) t_2405 e14 ?_
  refine x_iconst (M := M_X12_tellPair) dX12_tellPair_38 ?_
  refine x_aload_n (M := M_X12_tellPair) dX12_tellPair_39 rfl ?_
  refine x_getf (M := M_X12_tellPair) (ci := 15) (C := RX12) (T := TX12) (N := 135) (ty := tyX12) cl15 dX12_tellPair_40 (ob_up (ob_df ha o14).symm (ob_at o14).1 (ob_self ha)) 46 (by decide) t_2437 e46 ?_
  refine x_iload_n (M := M_X12_tellPair) dX12_tellPair_43 rfl ?_
  refine x_iald (M := M_X12_tellPair) dX12_tellPair_44 (ob_up d14_46 (ob_at o14).1 (ob_oth ha o46)) i6 ?_
  refine x_iast (M := M_X12_tellPair) dX12_tellPair_45 (ob_self (ob_oth ha o14)) i7 ?_
  refine x_heap (h' := (stt (stt h a (.inr (15, fs))) r14 (.inl (0, n14, .inl (upd (upd (upd c14 (Int32.ofInt 1).toNatClampNeg (c54 (c45 w1.toNatClampNeg).toNatClampNeg)) (Int32.ofInt 2).toNatClampNeg (c55 (c45 w1.toNatClampNeg).toNatClampNeg)) (Int32.ofInt 3).toNatClampNeg (c46 w1.toNatClampNeg)))))) (by rw [stt_stt (a := r14)]) ?_
  refine x_aload_n (M := M_X12_tellPair) dX12_tellPair_46 rfl ?_
  refine x_getf (M := M_X12_tellPair) (ci := 15) (C := RX12) (T := TX12) (N := 135) (ty := tyX12) cl15 dX12_tellPair_47 (ob_up (ob_df ha o14).symm (ob_at o14).1 (ob_self ha)) 14 (by decide) t_2405 e14 ?_
  refine x_iconst (M := M_X12_tellPair) dX12_tellPair_50 ?_
  refine x_aload_n (M := M_X12_tellPair) dX12_tellPair_51 rfl ?_
  refine x_getf (M := M_X12_tellPair) (ci := 15) (C := RX12) (T := TX12) (N := 135) (ty := tyX12) cl15 dX12_tellPair_52 (ob_up (ob_df ha o14).symm (ob_at o14).1 (ob_self ha)) 54 (by decide) t_2445 e54 ?_
  refine x_aload_n (M := M_X12_tellPair) dX12_tellPair_55 rfl ?_
  refine x_getf (M := M_X12_tellPair) (ci := 15) (C := RX12) (T := TX12) (N := 135) (ty := tyX12) cl15 dX12_tellPair_56 (ob_up (ob_df ha o14).symm (ob_at o14).1 (ob_self ha)) 45 (by decide) t_2436 e45 ?_
  refine x_iload_n (M := M_X12_tellPair) dX12_tellPair_59 rfl ?_
  refine x_iald (M := M_X12_tellPair) dX12_tellPair_60 (ob_up d14_45 (ob_at o14).1 (ob_oth ha o45)) i8 ?_
  refine x_iald (M := M_X12_tellPair) dX12_tellPair_61 (ob_up d14_54 (ob_at o14).1 (ob_oth ha o54)) i9 ?_
  refine x_iast (M := M_X12_tellPair) dX12_tellPair_62 (ob_self (ob_oth ha o14)) i10 ?_
  refine x_heap (h' := (stt (stt h a (.inr (15, fs))) r14 (.inl (0, n14, .inl (upd (upd (upd (upd c14 (Int32.ofInt 1).toNatClampNeg (c54 (c45 w1.toNatClampNeg).toNatClampNeg)) (Int32.ofInt 2).toNatClampNeg (c55 (c45 w1.toNatClampNeg).toNatClampNeg)) (Int32.ofInt 3).toNatClampNeg (c46 w1.toNatClampNeg)) (Int32.ofInt 4).toNatClampNeg (c54 (c45 w2.toNatClampNeg).toNatClampNeg)))))) (by rw [stt_stt (a := r14)]) ?_
  refine x_aload_n (M := M_X12_tellPair) dX12_tellPair_63 rfl ?_
  refine x_getf (M := M_X12_tellPair) (ci := 15) (C := RX12) (T := TX12) (N := 135) (ty := tyX12) cl15 dX12_tellPair_64 (ob_up (ob_df ha o14).symm (ob_at o14).1 (ob_self ha)) 14 (by decide) t_2405 e14 ?_
  refine x_iconst (M := M_X12_tellPair) dX12_tellPair_67 ?_
  refine x_aload_n (M := M_X12_tellPair) dX12_tellPair_68 rfl ?_
  refine x_getf (M := M_X12_tellPair) (ci := 15) (C := RX12) (T := TX12) (N := 135) (ty := tyX12) cl15 dX12_tellPair_69 (ob_up (ob_df ha o14).symm (ob_at o14).1 (ob_self ha)) 55 (by decide) t_2446 e55 ?_
  refine x_aload_n (M := M_X12_tellPair) dX12_tellPair_72 rfl ?_
  refine x_getf (M := M_X12_tellPair) (ci := 15) (C := RX12) (T := TX12) (N := 135) (ty := tyX12) cl15 dX12_tellPair_73 (ob_up (ob_df ha o14).symm (ob_at o14).1 (ob_self ha)) 45 (by decide) t_2436 e45 ?_
  refine x_iload_n (M := M_X12_tellPair) dX12_tellPair_76 rfl ?_
  refine x_iald (M := M_X12_tellPair) dX12_tellPair_77 (ob_up d14_45 (ob_at o14).1 (ob_oth ha o45)) i11 ?_
  refine x_iald (M := M_X12_tellPair) dX12_tellPair_78 (ob_up d14_55 (ob_at o14).1 (ob_oth ha o55)) i12 ?_
  refine x_iast (M := M_X12_tellPair) dX12_tellPair_79 (ob_self (ob_oth ha o14)) i13 ?_
  refine x_heap (h' := (stt (stt h a (.inr (15, fs))) r14 (.inl (0, n14, .inl (upd (upd (upd (upd (upd c14 (Int32.ofInt 1).toNatClampNeg (c54 (c45 w1.toNatClampNeg).toNatClampNeg)) (Int32.ofInt 2).toNatClampNeg (c55 (c45 w1.toNatClampNeg).toNatClampNeg)) (Int32.ofInt 3).toNatClampNeg (c46 w1.toNatClampNeg)) (Int32.ofInt 4).toNatClampNeg (c54 (c45 w2.toNatClampNeg).toNatClampNeg)) (Int32.ofInt 5).toNatClampNeg (c55 (c45 w2.toNatClampNeg).toNatClampNeg)))))) (by rw [stt_stt (a := r14)]) ?_
  refine x_aload_n (M := M_X12_tellPair) dX12_tellPair_80 rfl ?_
  refine x_getf (M := M_X12_tellPair) (ci := 15) (C := RX12) (T := TX12) (N := 135) (ty := tyX12) cl15 dX12_tellPair_81 (ob_up (ob_df ha o14).symm (ob_at o14).1 (ob_self ha)) 14 (by decide) t_2405 e14 ?_
  refine x_bipush (M := M_X12_tellPair) dX12_tellPair_84 ?_
  refine x_aload_n (M := M_X12_tellPair) dX12_tellPair_86 rfl ?_
  refine x_getf (M := M_X12_tellPair) (ci := 15) (C := RX12) (T := TX12) (N := 135) (ty := tyX12) cl15 dX12_tellPair_87 (ob_up (ob_df ha o14).symm (ob_at o14).1 (ob_self ha)) 46 (by decide) t_2437 e46 ?_
  refine x_iload_n (M := M_X12_tellPair) dX12_tellPair_90 rfl ?_
  refine x_iald (M := M_X12_tellPair) dX12_tellPair_91 (ob_up d14_46 (ob_at o14).1 (ob_oth ha o46)) i14 ?_
  refine x_iast (M := M_X12_tellPair) dX12_tellPair_92 (ob_self (ob_oth ha o14)) i15 ?_
  refine x_heap (h' := (stt (stt h a (.inr (15, fs))) r14 (.inl (0, n14, .inl (upd (upd (upd (upd (upd (upd c14 (Int32.ofInt 1).toNatClampNeg (c54 (c45 w1.toNatClampNeg).toNatClampNeg)) (Int32.ofInt 2).toNatClampNeg (c55 (c45 w1.toNatClampNeg).toNatClampNeg)) (Int32.ofInt 3).toNatClampNeg (c46 w1.toNatClampNeg)) (Int32.ofInt 4).toNatClampNeg (c54 (c45 w2.toNatClampNeg).toNatClampNeg)) (Int32.ofInt 5).toNatClampNeg (c55 (c45 w2.toNatClampNeg).toNatClampNeg)) ((Int8.ofInt 6).toInt32).toNatClampNeg (c46 w2.toNatClampNeg)))))) (by rw [stt_stt (a := r14)]) ?_
  refine x_iload_n (M := M_X12_tellPair) dX12_tellPair_93 rfl ?_
  exact x_iret (M := M_X12_tellPair) dX12_tellPair_94 rfl ⟨rfl, by rw [F_X12_tellPair, A14_X12_tellPair]⟩ (Nat.le_of_ble_eq_true rfl) (Nat.le_of_ble_eq_true rfl)
def f_X12_tellRing (c14 : Nat → Int32) (c54 : Nat → Int32) (c55 : Nat → Int32) (w0 : Int32) (w1 : Int32) : Int32 := w0
def F_X12_tellRing (fs : List Value) (c14 : Nat → Int32) (c54 : Nat → Int32) (c55 : Nat → Int32) (w0 : Int32) (w1 : Int32) : List Value := fs
def A14_X12_tellRing (c14 : Nat → Int32) (c54 : Nat → Int32) (c55 : Nat → Int32) (w0 : Int32) (w1 : Int32) : Nat → Int32 := (upd (upd c14 (Int32.ofInt 1).toNatClampNeg (c54 w1.toNatClampNeg)) (Int32.ofInt 2).toNatClampNeg (c55 w1.toNatClampNeg))
theorem l_X12_tellRing {fs : List Value} {c14 : Nat → Int32} {c54 : Nat → Int32} {c55 : Nat → Int32} {w0 : Int32} {w1 : Int32} : (F_X12_tellRing fs c14 c54 c55 w0 w1).length = fs.length := by
  unfold F_X12_tellRing
  first | rfl | simp only [List.length_set]
theorem k_X12_tellRing {fs : List Value} {c14 : Nat → Int32} {c54 : Nat → Int32} {c55 : Nat → Int32} {w0 : Int32} {w1 : Int32} {k : Nat} (hk : k ∉ ([] : List Nat)) : (F_X12_tellRing fs c14 c54 c55 w0 w1)[k]? = fs[k]? := by
  clear hk
  unfold F_X12_tellRing
  first | rfl | simp only []
theorem p_X12_tellRing {l : Launch} {E : EE} (hl : l.stackTraces = false) {h : HP} {c14 : Nat → Int32} {c54 : Nat → Int32} {c55 : Nat → Int32} {w0 : Int32} {w1 : Int32} {a : Nat} {fs : List Value} (ha : ob h a = some (.inr (15, fs))) {r14 n14 : Nat} (e14 : fs[14]? = some (.ref r14)) (o14 : ob h r14 = some (.inl (0, n14, .inl c14))) {r54 n54 : Nat} (e54 : fs[54]? = some (.ref r54)) (o54 : ob h r54 = some (.inl (0, n54, .inl c54))) {r55 n55 : Nat} (e55 : fs[55]? = some (.ref r55)) (o55 : ob h r55 = some (.inl (0, n55, .inl c55))) (d14_54 : r14 ≠ r54) (d14_55 : r14 ≠ r55) (i0 : vp_in w1 n54) (i1 : vp_in (Int32.ofInt 1) n14) (i2 : vp_in w1 n55) (i3 : vp_in (Int32.ofInt 2) n14) : en_C l E M_X12_tellRing 0 0 0 [.ref a, .int w0, .int w1] h (pR (some (.int (f_X12_tellRing c14 c54 c55 w0 w1))) (stt (stt h a (.inr (15, F_X12_tellRing fs c14 c54 c55 w0 w1))) r14 (.inl (0, n14, .inl (A14_X12_tellRing c14 c54 c55 w0 w1))))) := by
  refine en_mk m_X12_tellRing rfl hl (Nat.le_of_ble_eq_true rfl) ?_
  refine x_heap (h' := (stt (stt h a (.inr (15, fs))) r14 (.inl (0, n14, .inl c14)))) (by rw [stt_id ha, stt_id o14]) ?_
  refine x_aload_n (M := M_X12_tellRing) dX12_tellRing_0 rfl ?_
  refine x_getf (M := M_X12_tellRing) (ci := 15) (C := RX12) (T := TX12) (N := 135) (ty := tyX12) cl15 dX12_tellRing_1 (ob_up (ob_df ha o14).symm (ob_at o14).1 (ob_self ha)) 14 (by decide) t_2405 e14 ?_
  refine x_iconst (M := M_X12_tellRing) dX12_tellRing_4 ?_
  refine x_aload_n (M := M_X12_tellRing) dX12_tellRing_5 rfl ?_
  refine x_getf (M := M_X12_tellRing) (ci := 15) (C := RX12) (T := TX12) (N := 135) (ty := tyX12) cl15 dX12_tellRing_6 (ob_up (ob_df ha o14).symm (ob_at o14).1 (ob_self ha)) 54 (by decide) t_2445 e54 ?_
  refine x_iload_n (M := M_X12_tellRing) dX12_tellRing_9 rfl ?_
  refine x_iald (M := M_X12_tellRing) dX12_tellRing_10 (ob_up d14_54 (ob_at o14).1 (ob_oth ha o54)) i0 ?_
  refine x_iast (M := M_X12_tellRing) dX12_tellRing_11 (ob_self (ob_oth ha o14)) i1 ?_
  refine x_heap (h' := (stt (stt h a (.inr (15, fs))) r14 (.inl (0, n14, .inl (upd c14 (Int32.ofInt 1).toNatClampNeg (c54 w1.toNatClampNeg)))))) (by rw [stt_stt (a := r14)]) ?_
  refine x_aload_n (M := M_X12_tellRing) dX12_tellRing_12 rfl ?_
  refine x_getf (M := M_X12_tellRing) (ci := 15) (C := RX12) (T := TX12) (N := 135) (ty := tyX12) cl15 dX12_tellRing_13 (ob_up (ob_df ha o14).symm (ob_at o14).1 (ob_self ha)) 14 (by decide) t_2405 e14 ?_
  refine x_iconst (M := M_X12_tellRing) dX12_tellRing_16 ?_
  refine x_aload_n (M := M_X12_tellRing) dX12_tellRing_17 rfl ?_
  refine x_getf (M := M_X12_tellRing) (ci := 15) (C := RX12) (T := TX12) (N := 135) (ty := tyX12) cl15 dX12_tellRing_18 (ob_up (ob_df ha o14).symm (ob_at o14).1 (ob_self ha)) 55 (by decide) t_2446 e55 ?_
  refine x_iload_n (M := M_X12_tellRing) dX12_tellRing_21 rfl ?_
  refine x_iald (M := M_X12_tellRing) dX12_tellRing_22 (ob_up d14_55 (ob_at o14).1 (ob_oth ha o55)) i2 ?_
  refine x_iast (M := M_X12_tellRing) dX12_tellRing_23 (ob_self (ob_oth ha o14)) i3 ?_
  refine x_heap (h' := (stt (stt h a (.inr (15, fs))) r14 (.inl (0, n14, .inl (upd (upd c14 (Int32.ofInt 1).toNatClampNeg (c54 w1.toNatClampNeg)) (Int32.ofInt 2).toNatClampNeg (c55 w1.toNatClampNeg)))))) (by rw [stt_stt (a := r14)]) ?_
  refine x_iload_n (M := M_X12_tellRing) dX12_tellRing_24 rfl ?_
  exact x_iret (M := M_X12_tellRing) dX12_tellRing_25 rfl ⟨rfl, by rw [F_X12_tellRing, A14_X12_tellRing]⟩ (Nat.le_of_ble_eq_true rfl) (Nat.le_of_ble_eq_true rfl)
def f_X12_place (c14 : Nat → Int32) (w0 : Int32) : Int32 := if (f_X12_in (w0.toInt64) (Int64.ofNat ((0 : Fin 2) : Nat)) (6 : Int64)) = 0 then if (f_X12_fails (Int32.ofInt 0) (Int32.ofInt 1) (Int32.ofInt 1)) = 0 then (c14 w0.toNatClampNeg) else ((Int32.ofInt 0)) else (if (f_X12_fails (Int32.ofInt 0) (Int32.ofInt 0) (Int32.ofInt 1)) = 0 then (c14 w0.toNatClampNeg) else ((Int32.ofInt 0)))
def F_X12_place (fs : List Value) (c14 : Nat → Int32) (w0 : Int32) : List Value := if (f_X12_in (w0.toInt64) (Int64.ofNat ((0 : Fin 2) : Nat)) (6 : Int64)) = 0 then if (f_X12_fails (Int32.ofInt 0) (Int32.ofInt 1) (Int32.ofInt 1)) = 0 then (F_X12_fails (fs.set 0 (.int (Int32.ofInt 0))) (Int32.ofInt 0) (Int32.ofInt 1) (Int32.ofInt 1)) else ((F_X12_fails (fs.set 0 (.int (Int32.ofInt 0))) (Int32.ofInt 0) (Int32.ofInt 1) (Int32.ofInt 1))) else (if (f_X12_fails (Int32.ofInt 0) (Int32.ofInt 0) (Int32.ofInt 1)) = 0 then (F_X12_fails (fs.set 0 (.int (Int32.ofInt 0))) (Int32.ofInt 0) (Int32.ofInt 0) (Int32.ofInt 1)) else ((F_X12_fails (fs.set 0 (.int (Int32.ofInt 0))) (Int32.ofInt 0) (Int32.ofInt 0) (Int32.ofInt 1))))
theorem l_X12_place {fs : List Value} {c14 : Nat → Int32} {w0 : Int32} : (F_X12_place fs c14 w0).length = fs.length := by
  unfold F_X12_place
  repeat' split
  all_goals first | rfl | simp only [List.length_set, l_X12_fails]
theorem k_X12_place {fs : List Value} {c14 : Nat → Int32} {w0 : Int32} {k : Nat} (hk : k ∉ ([0] : List Nat)) : (F_X12_place fs c14 w0)[k]? = fs[k]? := by
  simp only [List.mem_cons, List.not_mem_nil, or_false, not_or] at hk
  unfold F_X12_place
  repeat' split
  all_goals first | rfl | simp only [List.getElem?_set_ne (by omega : 0 ≠ k), k_X12_fails (k := k) (by simp <;> omega)]
theorem p_X12_place {l : Launch} {E : EE} (hl : l.stackTraces = false) {h : HP} {c14 : Nat → Int32} {w0 : Int32} {a : Nat} {fs : List Value} (ha : ob h a = some (.inr (15, fs))) (hn : fs.length = 135) {r14 n14 : Nat} (e14 : fs[14]? = some (.ref r14)) (o14 : ob h r14 = some (.inl (0, n14, .inl c14))) (i0 : (¬ (f_X12_in (w0.toInt64) (Int64.ofNat ((0 : Fin 2) : Nat)) (6 : Int64)) = 0) → ((f_X12_fails (Int32.ofInt 0) (Int32.ofInt 0) (Int32.ofInt 1)) = 0) → vp_in w0 n14) (i1 : ((f_X12_in (w0.toInt64) (Int64.ofNat ((0 : Fin 2) : Nat)) (6 : Int64)) = 0) → ((f_X12_fails (Int32.ofInt 0) (Int32.ofInt 1) (Int32.ofInt 1)) = 0) → vp_in w0 n14) : en_C l E M_X12_place 1 0 0 [.ref a, .int w0] h (pR (some (.int (f_X12_place c14 w0))) (stt h a (.inr (15, F_X12_place fs c14 w0)))) := by
  refine en_mk m_X12_place rfl hl (Nat.le_of_ble_eq_true rfl) ?_
  refine x_heap (h' := (stt h a (.inr (15, fs)))) (by rw [stt_id ha]) ?_
  refine x_aload_n (M := M_X12_place) dX12_place_0 rfl ?_
  refine x_iconst (M := M_X12_place) dX12_place_1 ?_
  refine x_put (M := M_X12_place) (ci := 15) (C := RX12) (T := TX12) (N := 135) (ty := tyX12) cl15 dX12_place_2 (ob_self ha) 0 (by decide) t_2391 (Or.inl rfl) (by simp only [List.length_set, hn]; decide) rfl ?_
  refine x_heap (h' := (stt h a (.inr (15, (fs.set 0 (.int (Int32.ofInt 0))))))) (by rw [stt_stt (a := a)]) ?_
  refine x_aload_n (M := M_X12_place) dX12_place_5 rfl ?_
  refine x_iload_n (M := M_X12_place) dX12_place_6 rfl ?_
  refine x_i2l (M := M_X12_place) dX12_place_7 ?_
  refine x_lconst (M := M_X12_place) dX12_place_8 ?_
  refine x_ldc2 (M := M_X12_place) dX12_place_9 t_3341 ?_
  refine x_callSR (M := M_X12_place) (M' := M_X12_in) rfl rfl dX12_place_12 m_X12_in t_2818 t_2819 (p_X12_in hl) rfl rfl (Nat.le_of_ble_eq_true rfl) (Nat.le_of_ble_eq_true rfl) (Nat.le_of_ble_eq_true rfl) (Nat.le_of_ble_eq_true rfl) ?_
  refine x_if_ne (M := M_X12_place) (tgt := 22) dX12_place_15 (by decide) (fun q0 => ?_) (fun q0 => ?_)
  · refine x_iconst (M := M_X12_place) dX12_place_22 ?_
    refine x_iconst (M := M_X12_place) dX12_place_23 ?_
    refine x_callVR (M := M_X12_place) (M' := M_X12_fails) rfl rfl dX12_place_24 m_X12_fails t_2805 t_2807 s_157 (p_X12_fails hl (ob_self ha) (by simp only [List.length_set, hn]) (gs_eq (by simp only [List.length_set, hn]; decide))) rfl rfl (ob_self ha) rfl (Nat.le_of_ble_eq_true rfl) (Nat.le_of_ble_eq_true rfl) (Nat.le_of_ble_eq_true rfl) (Nat.le_of_ble_eq_true rfl) ?_
    refine x_heap (h' := (stt h a (.inr (15, (F_X12_fails (fs.set 0 (.int (Int32.ofInt 0))) (Int32.ofInt 0) (Int32.ofInt 0) (Int32.ofInt 1)))))) (by rw [stt_stt (a := a)]) ?_
    refine x_if_eq (M := M_X12_place) (tgt := 32) dX12_place_27 (by decide) (fun q1 => ?_) (fun q1 => ?_)
    · refine x_aload_n (M := M_X12_place) dX12_place_32 rfl ?_
      refine x_getf (M := M_X12_place) (ci := 15) (C := RX12) (T := TX12) (N := 135) (ty := tyX12) cl15 dX12_place_33 (ob_self ha) 14 (by decide) t_2405 ((k_X12_fails (by decide)).trans (gs_ne (by decide) e14)) ?_
      refine x_iload_n (M := M_X12_place) dX12_place_36 rfl ?_
      refine x_iald (M := M_X12_place) dX12_place_37 (ob_oth ha o14) (i0 q0 q1) ?_
      exact x_iret (M := M_X12_place) dX12_place_38 rfl ⟨by rw [f_X12_place, if_neg q0, if_pos q1], by rw [F_X12_place, if_neg q0, if_pos q1]⟩ (Nat.le_of_ble_eq_true rfl) (Nat.le_of_ble_eq_true rfl)
    · refine x_iconst (M := M_X12_place) dX12_place_30 ?_
      exact x_iret (M := M_X12_place) dX12_place_31 rfl ⟨by rw [f_X12_place, if_neg q0, if_neg q1], by rw [F_X12_place, if_neg q0, if_neg q1]⟩ (Nat.le_of_ble_eq_true rfl) (Nat.le_of_ble_eq_true rfl)
  · refine x_iconst (M := M_X12_place) dX12_place_18 ?_
    refine x_goto (M := M_X12_place) (tgt := 23) dX12_place_19 (by decide) ?_
    refine x_iconst (M := M_X12_place) dX12_place_23 ?_
    refine x_callVR (M := M_X12_place) (M' := M_X12_fails) rfl rfl dX12_place_24 m_X12_fails t_2805 t_2807 s_157 (p_X12_fails hl (ob_self ha) (by simp only [List.length_set, hn, l_X12_fails]) (gs_eq (by simp only [List.length_set, hn, l_X12_fails]; decide))) rfl rfl (ob_self ha) rfl (Nat.le_of_ble_eq_true rfl) (Nat.le_of_ble_eq_true rfl) (Nat.le_of_ble_eq_true rfl) (Nat.le_of_ble_eq_true rfl) ?_
    refine x_heap (h' := (stt h a (.inr (15, (F_X12_fails (fs.set 0 (.int (Int32.ofInt 0))) (Int32.ofInt 0) (Int32.ofInt 1) (Int32.ofInt 1)))))) (by rw [stt_stt (a := a)]) ?_
    refine x_if_eq (M := M_X12_place) (tgt := 32) dX12_place_27 (by decide) (fun q1 => ?_) (fun q1 => ?_)
    · refine x_aload_n (M := M_X12_place) dX12_place_32 rfl ?_
      refine x_getf (M := M_X12_place) (ci := 15) (C := RX12) (T := TX12) (N := 135) (ty := tyX12) cl15 dX12_place_33 (ob_self ha) 14 (by decide) t_2405 ((k_X12_fails (by decide)).trans (gs_ne (by decide) e14)) ?_
      refine x_iload_n (M := M_X12_place) dX12_place_36 rfl ?_
      refine x_iald (M := M_X12_place) dX12_place_37 (ob_oth ha o14) (i1 q0 q1) ?_
      exact x_iret (M := M_X12_place) dX12_place_38 rfl ⟨by rw [f_X12_place, if_pos q0, if_pos q1], by rw [F_X12_place, if_pos q0, if_pos q1]⟩ (Nat.le_of_ble_eq_true rfl) (Nat.le_of_ble_eq_true rfl)
    · refine x_iconst (M := M_X12_place) dX12_place_30 ?_
      exact x_iret (M := M_X12_place) dX12_place_31 rfl ⟨by rw [f_X12_place, if_pos q0, if_neg q1], by rw [F_X12_place, if_pos q0, if_neg q1]⟩ (Nat.le_of_ble_eq_true rfl) (Nat.le_of_ble_eq_true rfl)
def f_X12_isSooner (g76 : Int64) (g77 : Int64) (g78 : Int32) (c72 : Nat → Int64) (c73 : Nat → Int64) (c74 : Nat → Int32) (w0 : Int32) : Int32 := if (lg_cmp ((g76 * (c73 w0.toNatClampNeg)) - ((c72 w0.toNatClampNeg) * g77)) (Int64.ofNat ((0 : Fin 2) : Nat))) < 0 then (Int32.ofInt 1) else (if (lg_cmp ((g76 * (c73 w0.toNatClampNeg)) - ((c72 w0.toNatClampNeg) * g77)) (Int64.ofNat ((0 : Fin 2) : Nat))) = 0 then if g78 = 0 then if (c74 w0.toNatClampNeg) = 0 then (Int32.ofInt 0) else ((Int32.ofInt 1)) else ((Int32.ofInt 0)) else ((Int32.ofInt 0)))
theorem b_X12_isSooner (g76 : Int64) (g77 : Int64) (g78 : Int32) (c72 : Nat → Int64) (c73 : Nat → Int64) (c74 : Nat → Int32) (w0 : Int32) : f_X12_isSooner g76 g77 g78 c72 c73 c74 w0 = 0 ∨ f_X12_isSooner g76 g77 g78 c72 c73 c74 w0 = 1 := (ite01 (Or.inr rfl) (ite01 (ite01 (ite01 (Or.inl rfl) (Or.inr rfl)) (Or.inl rfl)) (Or.inl rfl)))
theorem p_X12_isSooner {l : Launch} {E : EE} (hl : l.stackTraces = false) {h : HP} {g76 : Int64} {g77 : Int64} {g78 : Int32} {c72 : Nat → Int64} {c73 : Nat → Int64} {c74 : Nat → Int32} {w0 : Int32} {a : Nat} {fs : List Value} (ha : ob h a = some (.inr (15, fs))) (e76 : fs[76]? = some (.long g76)) (e77 : fs[77]? = some (.long g77)) (e78 : fs[78]? = some (.int g78)) {r72 n72 : Nat} (e72 : fs[72]? = some (.ref r72)) (o72 : ob h r72 = some (.inl (1, n72, .inr (.inl c72)))) {r73 n73 : Nat} (e73 : fs[73]? = some (.ref r73)) (o73 : ob h r73 = some (.inl (1, n73, .inr (.inl c73)))) {r74 n74 : Nat} (e74 : fs[74]? = some (.ref r74)) (o74 : ob h r74 = some (.inl (3, n74, .inl c74))) (i0 : vp_in w0 n73) (i1 : vp_in w0 n72) (i2 : (¬ (lg_cmp ((g76 * (c73 w0.toNatClampNeg)) - ((c72 w0.toNatClampNeg) * g77)) (Int64.ofNat ((0 : Fin 2) : Nat))) < 0) → ((lg_cmp ((g76 * (c73 w0.toNatClampNeg)) - ((c72 w0.toNatClampNeg) * g77)) (Int64.ofNat ((0 : Fin 2) : Nat))) = 0) → (g78 = 0) → vp_in w0 n74) : en_C l E M_X12_isSooner 0 0 0 [.ref a, .int w0] h (pR (some (.int (f_X12_isSooner g76 g77 g78 c72 c73 c74 w0))) h) := by
  refine en_mk m_X12_isSooner rfl hl (Nat.le_of_ble_eq_true rfl) ?_
  refine x_aload_n (M := M_X12_isSooner) dX12_isSooner_0 rfl ?_
  refine x_getf (M := M_X12_isSooner) (ci := 15) (C := RX12) (T := TX12) (N := 135) (ty := tyX12) cl15 dX12_isSooner_1 ha 76 (by decide) t_2467 e76 ?_
  refine x_aload_n (M := M_X12_isSooner) dX12_isSooner_4 rfl ?_
  refine x_getf (M := M_X12_isSooner) (ci := 15) (C := RX12) (T := TX12) (N := 135) (ty := tyX12) cl15 dX12_isSooner_5 ha 73 (by decide) t_2464 e73 ?_
  refine x_iload_n (M := M_X12_isSooner) dX12_isSooner_8 rfl ?_
  refine x_lald (M := M_X12_isSooner) dX12_isSooner_9 o73 i0 ?_
  refine x_lmul (M := M_X12_isSooner) dX12_isSooner_10 ?_
  refine x_aload_n (M := M_X12_isSooner) dX12_isSooner_11 rfl ?_
  refine x_getf (M := M_X12_isSooner) (ci := 15) (C := RX12) (T := TX12) (N := 135) (ty := tyX12) cl15 dX12_isSooner_12 ha 72 (by decide) t_2463 e72 ?_
  refine x_iload_n (M := M_X12_isSooner) dX12_isSooner_15 rfl ?_
  refine x_lald (M := M_X12_isSooner) dX12_isSooner_16 o72 i1 ?_
  refine x_aload_n (M := M_X12_isSooner) dX12_isSooner_17 rfl ?_
  refine x_getf (M := M_X12_isSooner) (ci := 15) (C := RX12) (T := TX12) (N := 135) (ty := tyX12) cl15 dX12_isSooner_18 ha 77 (by decide) t_2468 e77 ?_
  refine x_lmul (M := M_X12_isSooner) dX12_isSooner_21 ?_
  refine x_lsub (M := M_X12_isSooner) dX12_isSooner_22 ?_
  refine x_lstore_n (M := M_X12_isSooner) dX12_isSooner_23 (by decide) rfl ?_
  refine x_norm (lv' := [some (.ref a), some (.int w0), some (.long ((g76 * (c73 w0.toNatClampNeg)) - ((c72 w0.toNatClampNeg) * g77))), none]) rfl rfl rfl rfl rfl ?_
  refine x_lload_n (M := M_X12_isSooner) dX12_isSooner_24 rfl ?_
  refine x_lconst (M := M_X12_isSooner) dX12_isSooner_25 ?_
  refine x_lcmp (M := M_X12_isSooner) dX12_isSooner_26 ?_
  refine x_if_lt (M := M_X12_isSooner) (tgt := 52) dX12_isSooner_27 (by decide) (fun q0 => ?_) (fun q0 => ?_)
  · refine x_iconst (M := M_X12_isSooner) dX12_isSooner_52 ?_
    refine x_goto (M := M_X12_isSooner) (tgt := 57) dX12_isSooner_53 (by decide) ?_
    exact x_zret (M := M_X12_isSooner) dX12_isSooner_57 rfl (Or.inr rfl) ⟨by rw [f_X12_isSooner, if_pos q0], rfl⟩ (Nat.le_of_ble_eq_true rfl) (Nat.le_of_ble_eq_true rfl)
  · refine x_lload_n (M := M_X12_isSooner) dX12_isSooner_30 rfl ?_
    refine x_lconst (M := M_X12_isSooner) dX12_isSooner_31 ?_
    refine x_lcmp (M := M_X12_isSooner) dX12_isSooner_32 ?_
    refine x_if_ne (M := M_X12_isSooner) (tgt := 56) dX12_isSooner_33 (by decide) (fun q1 => ?_) (fun q1 => ?_)
    · refine x_iconst (M := M_X12_isSooner) dX12_isSooner_56 ?_
      exact x_zret (M := M_X12_isSooner) dX12_isSooner_57 rfl (Or.inl rfl) ⟨by rw [f_X12_isSooner, if_neg q0, if_neg q1], rfl⟩ (Nat.le_of_ble_eq_true rfl) (Nat.le_of_ble_eq_true rfl)
    · refine x_aload_n (M := M_X12_isSooner) dX12_isSooner_36 rfl ?_
      refine x_getf (M := M_X12_isSooner) (ci := 15) (C := RX12) (T := TX12) (N := 135) (ty := tyX12) cl15 dX12_isSooner_37 ha 78 (by decide) t_2469 e78 ?_
      refine x_if_ne (M := M_X12_isSooner) (tgt := 56) dX12_isSooner_40 (by decide) (fun q2 => ?_) (fun q2 => ?_)
      · refine x_iconst (M := M_X12_isSooner) dX12_isSooner_56 ?_
        exact x_zret (M := M_X12_isSooner) dX12_isSooner_57 rfl (Or.inl rfl) ⟨by rw [f_X12_isSooner, if_neg q0, if_pos q1, if_neg q2], rfl⟩ (Nat.le_of_ble_eq_true rfl) (Nat.le_of_ble_eq_true rfl)
      · refine x_aload_n (M := M_X12_isSooner) dX12_isSooner_43 rfl ?_
        refine x_getf (M := M_X12_isSooner) (ci := 15) (C := RX12) (T := TX12) (N := 135) (ty := tyX12) cl15 dX12_isSooner_44 ha 74 (by decide) t_2465 e74 ?_
        refine x_iload_n (M := M_X12_isSooner) dX12_isSooner_47 rfl ?_
        refine x_zald (M := M_X12_isSooner) dX12_isSooner_48 o74 (i2 q0 q1 q2) ?_
        refine x_if_eq (M := M_X12_isSooner) (tgt := 56) dX12_isSooner_49 (by decide) (fun q3 => ?_) (fun q3 => ?_)
        · refine x_iconst (M := M_X12_isSooner) dX12_isSooner_56 ?_
          exact x_zret (M := M_X12_isSooner) dX12_isSooner_57 rfl (Or.inl rfl) ⟨by rw [f_X12_isSooner, if_neg q0, if_pos q1, if_pos q2, if_pos q3], rfl⟩ (Nat.le_of_ble_eq_true rfl) (Nat.le_of_ble_eq_true rfl)
        · refine x_iconst (M := M_X12_isSooner) dX12_isSooner_52 ?_
          refine x_goto (M := M_X12_isSooner) (tgt := 57) dX12_isSooner_53 (by decide) ?_
          exact x_zret (M := M_X12_isSooner) dX12_isSooner_57 rfl (Or.inr rfl) ⟨by rw [f_X12_isSooner, if_neg q0, if_pos q1, if_pos q2, if_neg q3], rfl⟩ (Nat.le_of_ble_eq_true rfl) (Nat.le_of_ble_eq_true rfl)
def f_X12_isAhead (w0 : Int64) (w1 : Int64) (w2 : Int64) (w3 : Int64) (w4 : Int64) (w5 : Int64) : Int32 := if 0 ≤ (lg_cmp (f_X12_cross w0 w1 w2 w3) (Int64.ofNat ((0 : Fin 2) : Nat))) then if (lg_cmp (f_X12_cross w0 w1 w2 w3) (Int64.ofNat ((0 : Fin 2) : Nat))) = 0 then if 0 ≤ (lg_cmp (f_X12_cross w0 w1 w4 w5) (Int64.ofNat ((0 : Fin 2) : Nat))) then if (lg_cmp (f_X12_cross w0 w1 w4 w5) (Int64.ofNat ((0 : Fin 2) : Nat))) = 0 then if (Int32.ofInt 1) < (Int32.ofInt 1) then (Int32.ofInt 1) else (if (Int32.ofInt 1) = (Int32.ofInt 1) then if 0 ≤ (lg_cmp (f_X12_cross w2 w3 w4 w5) (Int64.ofNat ((0 : Fin 2) : Nat))) then (Int32.ofInt 0) else ((Int32.ofInt 1)) else ((Int32.ofInt 0))) else (if (Int32.ofInt 1) < (Int32.ofInt 2) then (Int32.ofInt 1) else (if (Int32.ofInt 1) = (Int32.ofInt 2) then if 0 ≤ (lg_cmp (f_X12_cross w2 w3 w4 w5) (Int64.ofNat ((0 : Fin 2) : Nat))) then (Int32.ofInt 0) else ((Int32.ofInt 1)) else ((Int32.ofInt 0)))) else (if (Int32.ofInt 1) < (Int32.ofInt 0) then (Int32.ofInt 1) else (if (Int32.ofInt 1) = (Int32.ofInt 0) then if 0 ≤ (lg_cmp (f_X12_cross w2 w3 w4 w5) (Int64.ofNat ((0 : Fin 2) : Nat))) then (Int32.ofInt 0) else ((Int32.ofInt 1)) else ((Int32.ofInt 0)))) else (if 0 ≤ (lg_cmp (f_X12_cross w0 w1 w4 w5) (Int64.ofNat ((0 : Fin 2) : Nat))) then if (lg_cmp (f_X12_cross w0 w1 w4 w5) (Int64.ofNat ((0 : Fin 2) : Nat))) = 0 then if (Int32.ofInt 2) < (Int32.ofInt 1) then (Int32.ofInt 1) else (if (Int32.ofInt 2) = (Int32.ofInt 1) then if 0 ≤ (lg_cmp (f_X12_cross w2 w3 w4 w5) (Int64.ofNat ((0 : Fin 2) : Nat))) then (Int32.ofInt 0) else ((Int32.ofInt 1)) else ((Int32.ofInt 0))) else (if (Int32.ofInt 2) < (Int32.ofInt 2) then (Int32.ofInt 1) else (if (Int32.ofInt 2) = (Int32.ofInt 2) then if 0 ≤ (lg_cmp (f_X12_cross w2 w3 w4 w5) (Int64.ofNat ((0 : Fin 2) : Nat))) then (Int32.ofInt 0) else ((Int32.ofInt 1)) else ((Int32.ofInt 0)))) else (if (Int32.ofInt 2) < (Int32.ofInt 0) then (Int32.ofInt 1) else (if (Int32.ofInt 2) = (Int32.ofInt 0) then if 0 ≤ (lg_cmp (f_X12_cross w2 w3 w4 w5) (Int64.ofNat ((0 : Fin 2) : Nat))) then (Int32.ofInt 0) else ((Int32.ofInt 1)) else ((Int32.ofInt 0))))) else (if 0 ≤ (lg_cmp (f_X12_cross w0 w1 w4 w5) (Int64.ofNat ((0 : Fin 2) : Nat))) then if (lg_cmp (f_X12_cross w0 w1 w4 w5) (Int64.ofNat ((0 : Fin 2) : Nat))) = 0 then if (Int32.ofInt 0) < (Int32.ofInt 1) then (Int32.ofInt 1) else (if (Int32.ofInt 0) = (Int32.ofInt 1) then if 0 ≤ (lg_cmp (f_X12_cross w2 w3 w4 w5) (Int64.ofNat ((0 : Fin 2) : Nat))) then (Int32.ofInt 0) else ((Int32.ofInt 1)) else ((Int32.ofInt 0))) else (if (Int32.ofInt 0) < (Int32.ofInt 2) then (Int32.ofInt 1) else (if (Int32.ofInt 0) = (Int32.ofInt 2) then if 0 ≤ (lg_cmp (f_X12_cross w2 w3 w4 w5) (Int64.ofNat ((0 : Fin 2) : Nat))) then (Int32.ofInt 0) else ((Int32.ofInt 1)) else ((Int32.ofInt 0)))) else (if (Int32.ofInt 0) < (Int32.ofInt 0) then (Int32.ofInt 1) else (if (Int32.ofInt 0) = (Int32.ofInt 0) then if 0 ≤ (lg_cmp (f_X12_cross w2 w3 w4 w5) (Int64.ofNat ((0 : Fin 2) : Nat))) then (Int32.ofInt 0) else ((Int32.ofInt 1)) else ((Int32.ofInt 0)))))
theorem b_X12_isAhead (w0 : Int64) (w1 : Int64) (w2 : Int64) (w3 : Int64) (w4 : Int64) (w5 : Int64) : f_X12_isAhead w0 w1 w2 w3 w4 w5 = 0 ∨ f_X12_isAhead w0 w1 w2 w3 w4 w5 = 1 := (ite01 (ite01 (ite01 (ite01 (ite01 (Or.inr rfl) (ite01 (ite01 (Or.inl rfl) (Or.inr rfl)) (Or.inl rfl))) (ite01 (Or.inr rfl) (ite01 (ite01 (Or.inl rfl) (Or.inr rfl)) (Or.inl rfl)))) (ite01 (Or.inr rfl) (ite01 (ite01 (Or.inl rfl) (Or.inr rfl)) (Or.inl rfl)))) (ite01 (ite01 (ite01 (Or.inr rfl) (ite01 (ite01 (Or.inl rfl) (Or.inr rfl)) (Or.inl rfl))) (ite01 (Or.inr rfl) (ite01 (ite01 (Or.inl rfl) (Or.inr rfl)) (Or.inl rfl)))) (ite01 (Or.inr rfl) (ite01 (ite01 (Or.inl rfl) (Or.inr rfl)) (Or.inl rfl))))) (ite01 (ite01 (ite01 (Or.inr rfl) (ite01 (ite01 (Or.inl rfl) (Or.inr rfl)) (Or.inl rfl))) (ite01 (Or.inr rfl) (ite01 (ite01 (Or.inl rfl) (Or.inr rfl)) (Or.inl rfl)))) (ite01 (Or.inr rfl) (ite01 (ite01 (Or.inl rfl) (Or.inr rfl)) (Or.inl rfl)))))
set_option maxHeartbeats 8000000 in
set_option maxRecDepth 20000 in
theorem p_X12_isAhead {l : Launch} {E : EE} (hl : l.stackTraces = false) {h : HP} {w0 : Int64} {w1 : Int64} {w2 : Int64} {w3 : Int64} {w4 : Int64} {w5 : Int64} : en_C l E M_X12_isAhead 1 0 0 [.long w0, .long w1, .long w2, .long w3, .long w4, .long w5] h (pR (some (.int (f_X12_isAhead w0 w1 w2 w3 w4 w5))) h) := by
  refine en_mk m_X12_isAhead rfl hl (Nat.le_of_ble_eq_true rfl) ?_
  refine x_lload_n (M := M_X12_isAhead) dX12_isAhead_0 rfl ?_
  refine x_lload_n (M := M_X12_isAhead) dX12_isAhead_1 rfl ?_
  refine x_lload (M := M_X12_isAhead) dX12_isAhead_2 rfl ?_
  refine x_lload (M := M_X12_isAhead) dX12_isAhead_4 rfl ?_
  refine x_callSR (M := M_X12_isAhead) (M' := M_X12_cross) rfl rfl dX12_isAhead_6 m_X12_cross t_3265 t_3266 (p_X12_cross hl) rfl rfl (Nat.le_of_ble_eq_true rfl) (Nat.le_of_ble_eq_true rfl) (Nat.le_of_ble_eq_true rfl) (Nat.le_of_ble_eq_true rfl) ?_
  refine x_lstore (M := M_X12_isAhead) dX12_isAhead_9 (by decide) rfl ?_
  refine x_norm (lv' := [some (.long w0), none, some (.long w1), none, some (.long w2), none, some (.long w3), none, some (.long w4), none, some (.long w5), none, some (.long (f_X12_cross w0 w1 w2 w3)), none, none, none, none, none]) rfl rfl rfl rfl rfl ?_
  refine x_lload_n (M := M_X12_isAhead) dX12_isAhead_11 rfl ?_
  refine x_lload_n (M := M_X12_isAhead) dX12_isAhead_12 rfl ?_
  refine x_lload (M := M_X12_isAhead) dX12_isAhead_13 rfl ?_
  refine x_lload (M := M_X12_isAhead) dX12_isAhead_15 rfl ?_
  refine x_callSR (M := M_X12_isAhead) (M' := M_X12_cross) rfl rfl dX12_isAhead_17 m_X12_cross t_3265 t_3266 (p_X12_cross hl) rfl rfl (Nat.le_of_ble_eq_true rfl) (Nat.le_of_ble_eq_true rfl) (Nat.le_of_ble_eq_true rfl) (Nat.le_of_ble_eq_true rfl) ?_
  refine x_lstore (M := M_X12_isAhead) dX12_isAhead_20 (by decide) rfl ?_
  refine x_norm (lv' := [some (.long w0), none, some (.long w1), none, some (.long w2), none, some (.long w3), none, some (.long w4), none, some (.long w5), none, some (.long (f_X12_cross w0 w1 w2 w3)), none, some (.long (f_X12_cross w0 w1 w4 w5)), none, none, none]) rfl rfl rfl rfl rfl ?_
  refine x_lload (M := M_X12_isAhead) dX12_isAhead_22 rfl ?_
  refine x_lconst (M := M_X12_isAhead) dX12_isAhead_24 ?_
  refine x_lcmp (M := M_X12_isAhead) dX12_isAhead_25 ?_
  refine x_if_ge (M := M_X12_isAhead) (tgt := 33) dX12_isAhead_26 (by decide) (fun q0 => ?_) (fun q0 => ?_)
  · refine x_lload (M := M_X12_isAhead) dX12_isAhead_33 rfl ?_
    refine x_lconst (M := M_X12_isAhead) dX12_isAhead_35 ?_
    refine x_lcmp (M := M_X12_isAhead) dX12_isAhead_36 ?_
    refine x_if_ne (M := M_X12_isAhead) (tgt := 44) dX12_isAhead_37 (by decide) (fun q1 => ?_) (fun q1 => ?_)
    · refine x_iconst (M := M_X12_isAhead) dX12_isAhead_44 ?_
      refine x_istore (M := M_X12_isAhead) dX12_isAhead_45 (by decide) rfl ?_
      refine x_norm (lv' := [some (.long w0), none, some (.long w1), none, some (.long w2), none, some (.long w3), none, some (.long w4), none, some (.long w5), none, some (.long (f_X12_cross w0 w1 w2 w3)), none, some (.long (f_X12_cross w0 w1 w4 w5)), none, some (.int (Int32.ofInt 2)), none]) rfl rfl rfl rfl rfl ?_
      refine x_lload (M := M_X12_isAhead) dX12_isAhead_47 rfl ?_
      refine x_lconst (M := M_X12_isAhead) dX12_isAhead_49 ?_
      refine x_lcmp (M := M_X12_isAhead) dX12_isAhead_50 ?_
      refine x_if_ge (M := M_X12_isAhead) (tgt := 58) dX12_isAhead_51 (by decide) (fun q2 => ?_) (fun q2 => ?_)
      · refine x_lload (M := M_X12_isAhead) dX12_isAhead_58 rfl ?_
        refine x_lconst (M := M_X12_isAhead) dX12_isAhead_60 ?_
        refine x_lcmp (M := M_X12_isAhead) dX12_isAhead_61 ?_
        refine x_if_ne (M := M_X12_isAhead) (tgt := 69) dX12_isAhead_62 (by decide) (fun q3 => ?_) (fun q3 => ?_)
        · refine x_iconst (M := M_X12_isAhead) dX12_isAhead_69 ?_
          refine x_istore (M := M_X12_isAhead) dX12_isAhead_70 (by decide) rfl ?_
          refine x_norm (lv' := [some (.long w0), none, some (.long w1), none, some (.long w2), none, some (.long w3), none, some (.long w4), none, some (.long w5), none, some (.long (f_X12_cross w0 w1 w2 w3)), none, some (.long (f_X12_cross w0 w1 w4 w5)), none, some (.int (Int32.ofInt 2)), some (.int (Int32.ofInt 2))]) rfl rfl rfl rfl rfl ?_
          refine x_iload (M := M_X12_isAhead) dX12_isAhead_72 rfl ?_
          refine x_iload (M := M_X12_isAhead) dX12_isAhead_74 rfl ?_
          refine x_icmp_lt (M := M_X12_isAhead) (tgt := 102) dX12_isAhead_76 (by decide) (fun q4 => ?_) (fun q4 => ?_)
          · refine x_iconst (M := M_X12_isAhead) dX12_isAhead_102 ?_
            refine x_goto (M := M_X12_isAhead) (tgt := 107) dX12_isAhead_103 (by decide) ?_
            exact x_zret (M := M_X12_isAhead) dX12_isAhead_107 rfl (Or.inr rfl) ⟨by rw [f_X12_isAhead, if_pos q0, if_neg q1, if_pos q2, if_neg q3, if_pos q4], rfl⟩ (Nat.le_of_ble_eq_true rfl) (Nat.le_of_ble_eq_true rfl)
          · refine x_iload (M := M_X12_isAhead) dX12_isAhead_79 rfl ?_
            refine x_iload (M := M_X12_isAhead) dX12_isAhead_81 rfl ?_
            refine x_icmp_ne (M := M_X12_isAhead) (tgt := 106) dX12_isAhead_83 (by decide) (fun q5 => ?_) (fun q5 => ?_)
            · refine x_iconst (M := M_X12_isAhead) dX12_isAhead_106 ?_
              exact x_zret (M := M_X12_isAhead) dX12_isAhead_107 rfl (Or.inl rfl) ⟨by rw [f_X12_isAhead, if_pos q0, if_neg q1, if_pos q2, if_neg q3, if_neg q4, if_neg q5], rfl⟩ (Nat.le_of_ble_eq_true rfl) (Nat.le_of_ble_eq_true rfl)
            · refine x_lload (M := M_X12_isAhead) dX12_isAhead_86 rfl ?_
              refine x_lload (M := M_X12_isAhead) dX12_isAhead_88 rfl ?_
              refine x_lload (M := M_X12_isAhead) dX12_isAhead_90 rfl ?_
              refine x_lload (M := M_X12_isAhead) dX12_isAhead_92 rfl ?_
              refine x_callSR (M := M_X12_isAhead) (M' := M_X12_cross) rfl rfl dX12_isAhead_94 m_X12_cross t_3265 t_3266 (p_X12_cross hl) rfl rfl (Nat.le_of_ble_eq_true rfl) (Nat.le_of_ble_eq_true rfl) (Nat.le_of_ble_eq_true rfl) (Nat.le_of_ble_eq_true rfl) ?_
              refine x_lconst (M := M_X12_isAhead) dX12_isAhead_97 ?_
              refine x_lcmp (M := M_X12_isAhead) dX12_isAhead_98 ?_
              refine x_if_ge (M := M_X12_isAhead) (tgt := 106) dX12_isAhead_99 (by decide) (fun q6 => ?_) (fun q6 => ?_)
              · refine x_iconst (M := M_X12_isAhead) dX12_isAhead_106 ?_
                exact x_zret (M := M_X12_isAhead) dX12_isAhead_107 rfl (Or.inl rfl) ⟨by rw [f_X12_isAhead, if_pos q0, if_neg q1, if_pos q2, if_neg q3, if_neg q4, if_pos q5, if_pos q6], rfl⟩ (Nat.le_of_ble_eq_true rfl) (Nat.le_of_ble_eq_true rfl)
              · refine x_iconst (M := M_X12_isAhead) dX12_isAhead_102 ?_
                refine x_goto (M := M_X12_isAhead) (tgt := 107) dX12_isAhead_103 (by decide) ?_
                exact x_zret (M := M_X12_isAhead) dX12_isAhead_107 rfl (Or.inr rfl) ⟨by rw [f_X12_isAhead, if_pos q0, if_neg q1, if_pos q2, if_neg q3, if_neg q4, if_pos q5, if_neg q6], rfl⟩ (Nat.le_of_ble_eq_true rfl) (Nat.le_of_ble_eq_true rfl)
        · refine x_iconst (M := M_X12_isAhead) dX12_isAhead_65 ?_
          refine x_goto (M := M_X12_isAhead) (tgt := 70) dX12_isAhead_66 (by decide) ?_
          refine x_istore (M := M_X12_isAhead) dX12_isAhead_70 (by decide) rfl ?_
          refine x_norm (lv' := [some (.long w0), none, some (.long w1), none, some (.long w2), none, some (.long w3), none, some (.long w4), none, some (.long w5), none, some (.long (f_X12_cross w0 w1 w2 w3)), none, some (.long (f_X12_cross w0 w1 w4 w5)), none, some (.int (Int32.ofInt 2)), some (.int (Int32.ofInt 1))]) rfl rfl rfl rfl rfl ?_
          refine x_iload (M := M_X12_isAhead) dX12_isAhead_72 rfl ?_
          refine x_iload (M := M_X12_isAhead) dX12_isAhead_74 rfl ?_
          refine x_icmp_lt (M := M_X12_isAhead) (tgt := 102) dX12_isAhead_76 (by decide) (fun q4 => ?_) (fun q4 => ?_)
          · refine x_iconst (M := M_X12_isAhead) dX12_isAhead_102 ?_
            refine x_goto (M := M_X12_isAhead) (tgt := 107) dX12_isAhead_103 (by decide) ?_
            exact x_zret (M := M_X12_isAhead) dX12_isAhead_107 rfl (Or.inr rfl) ⟨by rw [f_X12_isAhead, if_pos q0, if_neg q1, if_pos q2, if_pos q3, if_pos q4], rfl⟩ (Nat.le_of_ble_eq_true rfl) (Nat.le_of_ble_eq_true rfl)
          · refine x_iload (M := M_X12_isAhead) dX12_isAhead_79 rfl ?_
            refine x_iload (M := M_X12_isAhead) dX12_isAhead_81 rfl ?_
            refine x_icmp_ne (M := M_X12_isAhead) (tgt := 106) dX12_isAhead_83 (by decide) (fun q5 => ?_) (fun q5 => ?_)
            · refine x_iconst (M := M_X12_isAhead) dX12_isAhead_106 ?_
              exact x_zret (M := M_X12_isAhead) dX12_isAhead_107 rfl (Or.inl rfl) ⟨by rw [f_X12_isAhead, if_pos q0, if_neg q1, if_pos q2, if_pos q3, if_neg q4, if_neg q5], rfl⟩ (Nat.le_of_ble_eq_true rfl) (Nat.le_of_ble_eq_true rfl)
            · refine x_lload (M := M_X12_isAhead) dX12_isAhead_86 rfl ?_
              refine x_lload (M := M_X12_isAhead) dX12_isAhead_88 rfl ?_
              refine x_lload (M := M_X12_isAhead) dX12_isAhead_90 rfl ?_
              refine x_lload (M := M_X12_isAhead) dX12_isAhead_92 rfl ?_
              refine x_callSR (M := M_X12_isAhead) (M' := M_X12_cross) rfl rfl dX12_isAhead_94 m_X12_cross t_3265 t_3266 (p_X12_cross hl) rfl rfl (Nat.le_of_ble_eq_true rfl) (Nat.le_of_ble_eq_true rfl) (Nat.le_of_ble_eq_true rfl) (Nat.le_of_ble_eq_true rfl) ?_
              refine x_lconst (M := M_X12_isAhead) dX12_isAhead_97 ?_
              refine x_lcmp (M := M_X12_isAhead) dX12_isAhead_98 ?_
              refine x_if_ge (M := M_X12_isAhead) (tgt := 106) dX12_isAhead_99 (by decide) (fun q6 => ?_) (fun q6 => ?_)
              · refine x_iconst (M := M_X12_isAhead) dX12_isAhead_106 ?_
                exact x_zret (M := M_X12_isAhead) dX12_isAhead_107 rfl (Or.inl rfl) ⟨by rw [f_X12_isAhead, if_pos q0, if_neg q1, if_pos q2, if_pos q3, if_neg q4, if_pos q5, if_pos q6], rfl⟩ (Nat.le_of_ble_eq_true rfl) (Nat.le_of_ble_eq_true rfl)
              · refine x_iconst (M := M_X12_isAhead) dX12_isAhead_102 ?_
                refine x_goto (M := M_X12_isAhead) (tgt := 107) dX12_isAhead_103 (by decide) ?_
                exact x_zret (M := M_X12_isAhead) dX12_isAhead_107 rfl (Or.inr rfl) ⟨by rw [f_X12_isAhead, if_pos q0, if_neg q1, if_pos q2, if_pos q3, if_neg q4, if_pos q5, if_neg q6], rfl⟩ (Nat.le_of_ble_eq_true rfl) (Nat.le_of_ble_eq_true rfl)
      · refine x_iconst (M := M_X12_isAhead) dX12_isAhead_54 ?_
        refine x_goto (M := M_X12_isAhead) (tgt := 70) dX12_isAhead_55 (by decide) ?_
        refine x_istore (M := M_X12_isAhead) dX12_isAhead_70 (by decide) rfl ?_
        refine x_norm (lv' := [some (.long w0), none, some (.long w1), none, some (.long w2), none, some (.long w3), none, some (.long w4), none, some (.long w5), none, some (.long (f_X12_cross w0 w1 w2 w3)), none, some (.long (f_X12_cross w0 w1 w4 w5)), none, some (.int (Int32.ofInt 2)), some (.int (Int32.ofInt 0))]) rfl rfl rfl rfl rfl ?_
        refine x_iload (M := M_X12_isAhead) dX12_isAhead_72 rfl ?_
        refine x_iload (M := M_X12_isAhead) dX12_isAhead_74 rfl ?_
        refine x_icmp_lt (M := M_X12_isAhead) (tgt := 102) dX12_isAhead_76 (by decide) (fun q3 => ?_) (fun q3 => ?_)
        · refine x_iconst (M := M_X12_isAhead) dX12_isAhead_102 ?_
          refine x_goto (M := M_X12_isAhead) (tgt := 107) dX12_isAhead_103 (by decide) ?_
          exact x_zret (M := M_X12_isAhead) dX12_isAhead_107 rfl (Or.inr rfl) ⟨by rw [f_X12_isAhead, if_pos q0, if_neg q1, if_neg q2, if_pos q3], rfl⟩ (Nat.le_of_ble_eq_true rfl) (Nat.le_of_ble_eq_true rfl)
        · refine x_iload (M := M_X12_isAhead) dX12_isAhead_79 rfl ?_
          refine x_iload (M := M_X12_isAhead) dX12_isAhead_81 rfl ?_
          refine x_icmp_ne (M := M_X12_isAhead) (tgt := 106) dX12_isAhead_83 (by decide) (fun q4 => ?_) (fun q4 => ?_)
          · refine x_iconst (M := M_X12_isAhead) dX12_isAhead_106 ?_
            exact x_zret (M := M_X12_isAhead) dX12_isAhead_107 rfl (Or.inl rfl) ⟨by rw [f_X12_isAhead, if_pos q0, if_neg q1, if_neg q2, if_neg q3, if_neg q4], rfl⟩ (Nat.le_of_ble_eq_true rfl) (Nat.le_of_ble_eq_true rfl)
          · refine x_lload (M := M_X12_isAhead) dX12_isAhead_86 rfl ?_
            refine x_lload (M := M_X12_isAhead) dX12_isAhead_88 rfl ?_
            refine x_lload (M := M_X12_isAhead) dX12_isAhead_90 rfl ?_
            refine x_lload (M := M_X12_isAhead) dX12_isAhead_92 rfl ?_
            refine x_callSR (M := M_X12_isAhead) (M' := M_X12_cross) rfl rfl dX12_isAhead_94 m_X12_cross t_3265 t_3266 (p_X12_cross hl) rfl rfl (Nat.le_of_ble_eq_true rfl) (Nat.le_of_ble_eq_true rfl) (Nat.le_of_ble_eq_true rfl) (Nat.le_of_ble_eq_true rfl) ?_
            refine x_lconst (M := M_X12_isAhead) dX12_isAhead_97 ?_
            refine x_lcmp (M := M_X12_isAhead) dX12_isAhead_98 ?_
            refine x_if_ge (M := M_X12_isAhead) (tgt := 106) dX12_isAhead_99 (by decide) (fun q5 => ?_) (fun q5 => ?_)
            · refine x_iconst (M := M_X12_isAhead) dX12_isAhead_106 ?_
              exact x_zret (M := M_X12_isAhead) dX12_isAhead_107 rfl (Or.inl rfl) ⟨by rw [f_X12_isAhead, if_pos q0, if_neg q1, if_neg q2, if_neg q3, if_pos q4, if_pos q5], rfl⟩ (Nat.le_of_ble_eq_true rfl) (Nat.le_of_ble_eq_true rfl)
            · refine x_iconst (M := M_X12_isAhead) dX12_isAhead_102 ?_
              refine x_goto (M := M_X12_isAhead) (tgt := 107) dX12_isAhead_103 (by decide) ?_
              exact x_zret (M := M_X12_isAhead) dX12_isAhead_107 rfl (Or.inr rfl) ⟨by rw [f_X12_isAhead, if_pos q0, if_neg q1, if_neg q2, if_neg q3, if_pos q4, if_neg q5], rfl⟩ (Nat.le_of_ble_eq_true rfl) (Nat.le_of_ble_eq_true rfl)
    · refine x_iconst (M := M_X12_isAhead) dX12_isAhead_40 ?_
      refine x_goto (M := M_X12_isAhead) (tgt := 45) dX12_isAhead_41 (by decide) ?_
      refine x_istore (M := M_X12_isAhead) dX12_isAhead_45 (by decide) rfl ?_
      refine x_norm (lv' := [some (.long w0), none, some (.long w1), none, some (.long w2), none, some (.long w3), none, some (.long w4), none, some (.long w5), none, some (.long (f_X12_cross w0 w1 w2 w3)), none, some (.long (f_X12_cross w0 w1 w4 w5)), none, some (.int (Int32.ofInt 1)), none]) rfl rfl rfl rfl rfl ?_
      refine x_lload (M := M_X12_isAhead) dX12_isAhead_47 rfl ?_
      refine x_lconst (M := M_X12_isAhead) dX12_isAhead_49 ?_
      refine x_lcmp (M := M_X12_isAhead) dX12_isAhead_50 ?_
      refine x_if_ge (M := M_X12_isAhead) (tgt := 58) dX12_isAhead_51 (by decide) (fun q2 => ?_) (fun q2 => ?_)
      · refine x_lload (M := M_X12_isAhead) dX12_isAhead_58 rfl ?_
        refine x_lconst (M := M_X12_isAhead) dX12_isAhead_60 ?_
        refine x_lcmp (M := M_X12_isAhead) dX12_isAhead_61 ?_
        refine x_if_ne (M := M_X12_isAhead) (tgt := 69) dX12_isAhead_62 (by decide) (fun q3 => ?_) (fun q3 => ?_)
        · refine x_iconst (M := M_X12_isAhead) dX12_isAhead_69 ?_
          refine x_istore (M := M_X12_isAhead) dX12_isAhead_70 (by decide) rfl ?_
          refine x_norm (lv' := [some (.long w0), none, some (.long w1), none, some (.long w2), none, some (.long w3), none, some (.long w4), none, some (.long w5), none, some (.long (f_X12_cross w0 w1 w2 w3)), none, some (.long (f_X12_cross w0 w1 w4 w5)), none, some (.int (Int32.ofInt 1)), some (.int (Int32.ofInt 2))]) rfl rfl rfl rfl rfl ?_
          refine x_iload (M := M_X12_isAhead) dX12_isAhead_72 rfl ?_
          refine x_iload (M := M_X12_isAhead) dX12_isAhead_74 rfl ?_
          refine x_icmp_lt (M := M_X12_isAhead) (tgt := 102) dX12_isAhead_76 (by decide) (fun q4 => ?_) (fun q4 => ?_)
          · refine x_iconst (M := M_X12_isAhead) dX12_isAhead_102 ?_
            refine x_goto (M := M_X12_isAhead) (tgt := 107) dX12_isAhead_103 (by decide) ?_
            exact x_zret (M := M_X12_isAhead) dX12_isAhead_107 rfl (Or.inr rfl) ⟨by rw [f_X12_isAhead, if_pos q0, if_pos q1, if_pos q2, if_neg q3, if_pos q4], rfl⟩ (Nat.le_of_ble_eq_true rfl) (Nat.le_of_ble_eq_true rfl)
          · refine x_iload (M := M_X12_isAhead) dX12_isAhead_79 rfl ?_
            refine x_iload (M := M_X12_isAhead) dX12_isAhead_81 rfl ?_
            refine x_icmp_ne (M := M_X12_isAhead) (tgt := 106) dX12_isAhead_83 (by decide) (fun q5 => ?_) (fun q5 => ?_)
            · refine x_iconst (M := M_X12_isAhead) dX12_isAhead_106 ?_
              exact x_zret (M := M_X12_isAhead) dX12_isAhead_107 rfl (Or.inl rfl) ⟨by rw [f_X12_isAhead, if_pos q0, if_pos q1, if_pos q2, if_neg q3, if_neg q4, if_neg q5], rfl⟩ (Nat.le_of_ble_eq_true rfl) (Nat.le_of_ble_eq_true rfl)
            · refine x_lload (M := M_X12_isAhead) dX12_isAhead_86 rfl ?_
              refine x_lload (M := M_X12_isAhead) dX12_isAhead_88 rfl ?_
              refine x_lload (M := M_X12_isAhead) dX12_isAhead_90 rfl ?_
              refine x_lload (M := M_X12_isAhead) dX12_isAhead_92 rfl ?_
              refine x_callSR (M := M_X12_isAhead) (M' := M_X12_cross) rfl rfl dX12_isAhead_94 m_X12_cross t_3265 t_3266 (p_X12_cross hl) rfl rfl (Nat.le_of_ble_eq_true rfl) (Nat.le_of_ble_eq_true rfl) (Nat.le_of_ble_eq_true rfl) (Nat.le_of_ble_eq_true rfl) ?_
              refine x_lconst (M := M_X12_isAhead) dX12_isAhead_97 ?_
              refine x_lcmp (M := M_X12_isAhead) dX12_isAhead_98 ?_
              refine x_if_ge (M := M_X12_isAhead) (tgt := 106) dX12_isAhead_99 (by decide) (fun q6 => ?_) (fun q6 => ?_)
              · refine x_iconst (M := M_X12_isAhead) dX12_isAhead_106 ?_
                exact x_zret (M := M_X12_isAhead) dX12_isAhead_107 rfl (Or.inl rfl) ⟨by rw [f_X12_isAhead, if_pos q0, if_pos q1, if_pos q2, if_neg q3, if_neg q4, if_pos q5, if_pos q6], rfl⟩ (Nat.le_of_ble_eq_true rfl) (Nat.le_of_ble_eq_true rfl)
              · refine x_iconst (M := M_X12_isAhead) dX12_isAhead_102 ?_
                refine x_goto (M := M_X12_isAhead) (tgt := 107) dX12_isAhead_103 (by decide) ?_
                exact x_zret (M := M_X12_isAhead) dX12_isAhead_107 rfl (Or.inr rfl) ⟨by rw [f_X12_isAhead, if_pos q0, if_pos q1, if_pos q2, if_neg q3, if_neg q4, if_pos q5, if_neg q6], rfl⟩ (Nat.le_of_ble_eq_true rfl) (Nat.le_of_ble_eq_true rfl)
        · refine x_iconst (M := M_X12_isAhead) dX12_isAhead_65 ?_
          refine x_goto (M := M_X12_isAhead) (tgt := 70) dX12_isAhead_66 (by decide) ?_
          refine x_istore (M := M_X12_isAhead) dX12_isAhead_70 (by decide) rfl ?_
          refine x_norm (lv' := [some (.long w0), none, some (.long w1), none, some (.long w2), none, some (.long w3), none, some (.long w4), none, some (.long w5), none, some (.long (f_X12_cross w0 w1 w2 w3)), none, some (.long (f_X12_cross w0 w1 w4 w5)), none, some (.int (Int32.ofInt 1)), some (.int (Int32.ofInt 1))]) rfl rfl rfl rfl rfl ?_
          refine x_iload (M := M_X12_isAhead) dX12_isAhead_72 rfl ?_
          refine x_iload (M := M_X12_isAhead) dX12_isAhead_74 rfl ?_
          refine x_icmp_lt (M := M_X12_isAhead) (tgt := 102) dX12_isAhead_76 (by decide) (fun q4 => ?_) (fun q4 => ?_)
          · refine x_iconst (M := M_X12_isAhead) dX12_isAhead_102 ?_
            refine x_goto (M := M_X12_isAhead) (tgt := 107) dX12_isAhead_103 (by decide) ?_
            exact x_zret (M := M_X12_isAhead) dX12_isAhead_107 rfl (Or.inr rfl) ⟨by rw [f_X12_isAhead, if_pos q0, if_pos q1, if_pos q2, if_pos q3, if_pos q4], rfl⟩ (Nat.le_of_ble_eq_true rfl) (Nat.le_of_ble_eq_true rfl)
          · refine x_iload (M := M_X12_isAhead) dX12_isAhead_79 rfl ?_
            refine x_iload (M := M_X12_isAhead) dX12_isAhead_81 rfl ?_
            refine x_icmp_ne (M := M_X12_isAhead) (tgt := 106) dX12_isAhead_83 (by decide) (fun q5 => ?_) (fun q5 => ?_)
            · refine x_iconst (M := M_X12_isAhead) dX12_isAhead_106 ?_
              exact x_zret (M := M_X12_isAhead) dX12_isAhead_107 rfl (Or.inl rfl) ⟨by rw [f_X12_isAhead, if_pos q0, if_pos q1, if_pos q2, if_pos q3, if_neg q4, if_neg q5], rfl⟩ (Nat.le_of_ble_eq_true rfl) (Nat.le_of_ble_eq_true rfl)
            · refine x_lload (M := M_X12_isAhead) dX12_isAhead_86 rfl ?_
              refine x_lload (M := M_X12_isAhead) dX12_isAhead_88 rfl ?_
              refine x_lload (M := M_X12_isAhead) dX12_isAhead_90 rfl ?_
              refine x_lload (M := M_X12_isAhead) dX12_isAhead_92 rfl ?_
              refine x_callSR (M := M_X12_isAhead) (M' := M_X12_cross) rfl rfl dX12_isAhead_94 m_X12_cross t_3265 t_3266 (p_X12_cross hl) rfl rfl (Nat.le_of_ble_eq_true rfl) (Nat.le_of_ble_eq_true rfl) (Nat.le_of_ble_eq_true rfl) (Nat.le_of_ble_eq_true rfl) ?_
              refine x_lconst (M := M_X12_isAhead) dX12_isAhead_97 ?_
              refine x_lcmp (M := M_X12_isAhead) dX12_isAhead_98 ?_
              refine x_if_ge (M := M_X12_isAhead) (tgt := 106) dX12_isAhead_99 (by decide) (fun q6 => ?_) (fun q6 => ?_)
              · refine x_iconst (M := M_X12_isAhead) dX12_isAhead_106 ?_
                exact x_zret (M := M_X12_isAhead) dX12_isAhead_107 rfl (Or.inl rfl) ⟨by rw [f_X12_isAhead, if_pos q0, if_pos q1, if_pos q2, if_pos q3, if_neg q4, if_pos q5, if_pos q6], rfl⟩ (Nat.le_of_ble_eq_true rfl) (Nat.le_of_ble_eq_true rfl)
              · refine x_iconst (M := M_X12_isAhead) dX12_isAhead_102 ?_
                refine x_goto (M := M_X12_isAhead) (tgt := 107) dX12_isAhead_103 (by decide) ?_
                exact x_zret (M := M_X12_isAhead) dX12_isAhead_107 rfl (Or.inr rfl) ⟨by rw [f_X12_isAhead, if_pos q0, if_pos q1, if_pos q2, if_pos q3, if_neg q4, if_pos q5, if_neg q6], rfl⟩ (Nat.le_of_ble_eq_true rfl) (Nat.le_of_ble_eq_true rfl)
      · refine x_iconst (M := M_X12_isAhead) dX12_isAhead_54 ?_
        refine x_goto (M := M_X12_isAhead) (tgt := 70) dX12_isAhead_55 (by decide) ?_
        refine x_istore (M := M_X12_isAhead) dX12_isAhead_70 (by decide) rfl ?_
        refine x_norm (lv' := [some (.long w0), none, some (.long w1), none, some (.long w2), none, some (.long w3), none, some (.long w4), none, some (.long w5), none, some (.long (f_X12_cross w0 w1 w2 w3)), none, some (.long (f_X12_cross w0 w1 w4 w5)), none, some (.int (Int32.ofInt 1)), some (.int (Int32.ofInt 0))]) rfl rfl rfl rfl rfl ?_
        refine x_iload (M := M_X12_isAhead) dX12_isAhead_72 rfl ?_
        refine x_iload (M := M_X12_isAhead) dX12_isAhead_74 rfl ?_
        refine x_icmp_lt (M := M_X12_isAhead) (tgt := 102) dX12_isAhead_76 (by decide) (fun q3 => ?_) (fun q3 => ?_)
        · refine x_iconst (M := M_X12_isAhead) dX12_isAhead_102 ?_
          refine x_goto (M := M_X12_isAhead) (tgt := 107) dX12_isAhead_103 (by decide) ?_
          exact x_zret (M := M_X12_isAhead) dX12_isAhead_107 rfl (Or.inr rfl) ⟨by rw [f_X12_isAhead, if_pos q0, if_pos q1, if_neg q2, if_pos q3], rfl⟩ (Nat.le_of_ble_eq_true rfl) (Nat.le_of_ble_eq_true rfl)
        · refine x_iload (M := M_X12_isAhead) dX12_isAhead_79 rfl ?_
          refine x_iload (M := M_X12_isAhead) dX12_isAhead_81 rfl ?_
          refine x_icmp_ne (M := M_X12_isAhead) (tgt := 106) dX12_isAhead_83 (by decide) (fun q4 => ?_) (fun q4 => ?_)
          · refine x_iconst (M := M_X12_isAhead) dX12_isAhead_106 ?_
            exact x_zret (M := M_X12_isAhead) dX12_isAhead_107 rfl (Or.inl rfl) ⟨by rw [f_X12_isAhead, if_pos q0, if_pos q1, if_neg q2, if_neg q3, if_neg q4], rfl⟩ (Nat.le_of_ble_eq_true rfl) (Nat.le_of_ble_eq_true rfl)
          · refine x_lload (M := M_X12_isAhead) dX12_isAhead_86 rfl ?_
            refine x_lload (M := M_X12_isAhead) dX12_isAhead_88 rfl ?_
            refine x_lload (M := M_X12_isAhead) dX12_isAhead_90 rfl ?_
            refine x_lload (M := M_X12_isAhead) dX12_isAhead_92 rfl ?_
            refine x_callSR (M := M_X12_isAhead) (M' := M_X12_cross) rfl rfl dX12_isAhead_94 m_X12_cross t_3265 t_3266 (p_X12_cross hl) rfl rfl (Nat.le_of_ble_eq_true rfl) (Nat.le_of_ble_eq_true rfl) (Nat.le_of_ble_eq_true rfl) (Nat.le_of_ble_eq_true rfl) ?_
            refine x_lconst (M := M_X12_isAhead) dX12_isAhead_97 ?_
            refine x_lcmp (M := M_X12_isAhead) dX12_isAhead_98 ?_
            refine x_if_ge (M := M_X12_isAhead) (tgt := 106) dX12_isAhead_99 (by decide) (fun q5 => ?_) (fun q5 => ?_)
            · refine x_iconst (M := M_X12_isAhead) dX12_isAhead_106 ?_
              exact x_zret (M := M_X12_isAhead) dX12_isAhead_107 rfl (Or.inl rfl) ⟨by rw [f_X12_isAhead, if_pos q0, if_pos q1, if_neg q2, if_neg q3, if_pos q4, if_pos q5], rfl⟩ (Nat.le_of_ble_eq_true rfl) (Nat.le_of_ble_eq_true rfl)
            · refine x_iconst (M := M_X12_isAhead) dX12_isAhead_102 ?_
              refine x_goto (M := M_X12_isAhead) (tgt := 107) dX12_isAhead_103 (by decide) ?_
              exact x_zret (M := M_X12_isAhead) dX12_isAhead_107 rfl (Or.inr rfl) ⟨by rw [f_X12_isAhead, if_pos q0, if_pos q1, if_neg q2, if_neg q3, if_pos q4, if_neg q5], rfl⟩ (Nat.le_of_ble_eq_true rfl) (Nat.le_of_ble_eq_true rfl)
  · refine x_iconst (M := M_X12_isAhead) dX12_isAhead_29 ?_
    refine x_goto (M := M_X12_isAhead) (tgt := 45) dX12_isAhead_30 (by decide) ?_
    refine x_istore (M := M_X12_isAhead) dX12_isAhead_45 (by decide) rfl ?_
    refine x_norm (lv' := [some (.long w0), none, some (.long w1), none, some (.long w2), none, some (.long w3), none, some (.long w4), none, some (.long w5), none, some (.long (f_X12_cross w0 w1 w2 w3)), none, some (.long (f_X12_cross w0 w1 w4 w5)), none, some (.int (Int32.ofInt 0)), none]) rfl rfl rfl rfl rfl ?_
    refine x_lload (M := M_X12_isAhead) dX12_isAhead_47 rfl ?_
    refine x_lconst (M := M_X12_isAhead) dX12_isAhead_49 ?_
    refine x_lcmp (M := M_X12_isAhead) dX12_isAhead_50 ?_
    refine x_if_ge (M := M_X12_isAhead) (tgt := 58) dX12_isAhead_51 (by decide) (fun q1 => ?_) (fun q1 => ?_)
    · refine x_lload (M := M_X12_isAhead) dX12_isAhead_58 rfl ?_
      refine x_lconst (M := M_X12_isAhead) dX12_isAhead_60 ?_
      refine x_lcmp (M := M_X12_isAhead) dX12_isAhead_61 ?_
      refine x_if_ne (M := M_X12_isAhead) (tgt := 69) dX12_isAhead_62 (by decide) (fun q2 => ?_) (fun q2 => ?_)
      · refine x_iconst (M := M_X12_isAhead) dX12_isAhead_69 ?_
        refine x_istore (M := M_X12_isAhead) dX12_isAhead_70 (by decide) rfl ?_
        refine x_norm (lv' := [some (.long w0), none, some (.long w1), none, some (.long w2), none, some (.long w3), none, some (.long w4), none, some (.long w5), none, some (.long (f_X12_cross w0 w1 w2 w3)), none, some (.long (f_X12_cross w0 w1 w4 w5)), none, some (.int (Int32.ofInt 0)), some (.int (Int32.ofInt 2))]) rfl rfl rfl rfl rfl ?_
        refine x_iload (M := M_X12_isAhead) dX12_isAhead_72 rfl ?_
        refine x_iload (M := M_X12_isAhead) dX12_isAhead_74 rfl ?_
        refine x_icmp_lt (M := M_X12_isAhead) (tgt := 102) dX12_isAhead_76 (by decide) (fun q3 => ?_) (fun q3 => ?_)
        · refine x_iconst (M := M_X12_isAhead) dX12_isAhead_102 ?_
          refine x_goto (M := M_X12_isAhead) (tgt := 107) dX12_isAhead_103 (by decide) ?_
          exact x_zret (M := M_X12_isAhead) dX12_isAhead_107 rfl (Or.inr rfl) ⟨by rw [f_X12_isAhead, if_neg q0, if_pos q1, if_neg q2, if_pos q3], rfl⟩ (Nat.le_of_ble_eq_true rfl) (Nat.le_of_ble_eq_true rfl)
        · refine x_iload (M := M_X12_isAhead) dX12_isAhead_79 rfl ?_
          refine x_iload (M := M_X12_isAhead) dX12_isAhead_81 rfl ?_
          refine x_icmp_ne (M := M_X12_isAhead) (tgt := 106) dX12_isAhead_83 (by decide) (fun q4 => ?_) (fun q4 => ?_)
          · refine x_iconst (M := M_X12_isAhead) dX12_isAhead_106 ?_
            exact x_zret (M := M_X12_isAhead) dX12_isAhead_107 rfl (Or.inl rfl) ⟨by rw [f_X12_isAhead, if_neg q0, if_pos q1, if_neg q2, if_neg q3, if_neg q4], rfl⟩ (Nat.le_of_ble_eq_true rfl) (Nat.le_of_ble_eq_true rfl)
          · refine x_lload (M := M_X12_isAhead) dX12_isAhead_86 rfl ?_
            refine x_lload (M := M_X12_isAhead) dX12_isAhead_88 rfl ?_
            refine x_lload (M := M_X12_isAhead) dX12_isAhead_90 rfl ?_
            refine x_lload (M := M_X12_isAhead) dX12_isAhead_92 rfl ?_
            refine x_callSR (M := M_X12_isAhead) (M' := M_X12_cross) rfl rfl dX12_isAhead_94 m_X12_cross t_3265 t_3266 (p_X12_cross hl) rfl rfl (Nat.le_of_ble_eq_true rfl) (Nat.le_of_ble_eq_true rfl) (Nat.le_of_ble_eq_true rfl) (Nat.le_of_ble_eq_true rfl) ?_
            refine x_lconst (M := M_X12_isAhead) dX12_isAhead_97 ?_
            refine x_lcmp (M := M_X12_isAhead) dX12_isAhead_98 ?_
            refine x_if_ge (M := M_X12_isAhead) (tgt := 106) dX12_isAhead_99 (by decide) (fun q5 => ?_) (fun q5 => ?_)
            · refine x_iconst (M := M_X12_isAhead) dX12_isAhead_106 ?_
              exact x_zret (M := M_X12_isAhead) dX12_isAhead_107 rfl (Or.inl rfl) ⟨by rw [f_X12_isAhead, if_neg q0, if_pos q1, if_neg q2, if_neg q3, if_pos q4, if_pos q5], rfl⟩ (Nat.le_of_ble_eq_true rfl) (Nat.le_of_ble_eq_true rfl)
            · refine x_iconst (M := M_X12_isAhead) dX12_isAhead_102 ?_
              refine x_goto (M := M_X12_isAhead) (tgt := 107) dX12_isAhead_103 (by decide) ?_
              exact x_zret (M := M_X12_isAhead) dX12_isAhead_107 rfl (Or.inr rfl) ⟨by rw [f_X12_isAhead, if_neg q0, if_pos q1, if_neg q2, if_neg q3, if_pos q4, if_neg q5], rfl⟩ (Nat.le_of_ble_eq_true rfl) (Nat.le_of_ble_eq_true rfl)
      · refine x_iconst (M := M_X12_isAhead) dX12_isAhead_65 ?_
        refine x_goto (M := M_X12_isAhead) (tgt := 70) dX12_isAhead_66 (by decide) ?_
        refine x_istore (M := M_X12_isAhead) dX12_isAhead_70 (by decide) rfl ?_
        refine x_norm (lv' := [some (.long w0), none, some (.long w1), none, some (.long w2), none, some (.long w3), none, some (.long w4), none, some (.long w5), none, some (.long (f_X12_cross w0 w1 w2 w3)), none, some (.long (f_X12_cross w0 w1 w4 w5)), none, some (.int (Int32.ofInt 0)), some (.int (Int32.ofInt 1))]) rfl rfl rfl rfl rfl ?_
        refine x_iload (M := M_X12_isAhead) dX12_isAhead_72 rfl ?_
        refine x_iload (M := M_X12_isAhead) dX12_isAhead_74 rfl ?_
        refine x_icmp_lt (M := M_X12_isAhead) (tgt := 102) dX12_isAhead_76 (by decide) (fun q3 => ?_) (fun q3 => ?_)
        · refine x_iconst (M := M_X12_isAhead) dX12_isAhead_102 ?_
          refine x_goto (M := M_X12_isAhead) (tgt := 107) dX12_isAhead_103 (by decide) ?_
          exact x_zret (M := M_X12_isAhead) dX12_isAhead_107 rfl (Or.inr rfl) ⟨by rw [f_X12_isAhead, if_neg q0, if_pos q1, if_pos q2, if_pos q3], rfl⟩ (Nat.le_of_ble_eq_true rfl) (Nat.le_of_ble_eq_true rfl)
        · refine x_iload (M := M_X12_isAhead) dX12_isAhead_79 rfl ?_
          refine x_iload (M := M_X12_isAhead) dX12_isAhead_81 rfl ?_
          refine x_icmp_ne (M := M_X12_isAhead) (tgt := 106) dX12_isAhead_83 (by decide) (fun q4 => ?_) (fun q4 => ?_)
          · refine x_iconst (M := M_X12_isAhead) dX12_isAhead_106 ?_
            exact x_zret (M := M_X12_isAhead) dX12_isAhead_107 rfl (Or.inl rfl) ⟨by rw [f_X12_isAhead, if_neg q0, if_pos q1, if_pos q2, if_neg q3, if_neg q4], rfl⟩ (Nat.le_of_ble_eq_true rfl) (Nat.le_of_ble_eq_true rfl)
          · refine x_lload (M := M_X12_isAhead) dX12_isAhead_86 rfl ?_
            refine x_lload (M := M_X12_isAhead) dX12_isAhead_88 rfl ?_
            refine x_lload (M := M_X12_isAhead) dX12_isAhead_90 rfl ?_
            refine x_lload (M := M_X12_isAhead) dX12_isAhead_92 rfl ?_
            refine x_callSR (M := M_X12_isAhead) (M' := M_X12_cross) rfl rfl dX12_isAhead_94 m_X12_cross t_3265 t_3266 (p_X12_cross hl) rfl rfl (Nat.le_of_ble_eq_true rfl) (Nat.le_of_ble_eq_true rfl) (Nat.le_of_ble_eq_true rfl) (Nat.le_of_ble_eq_true rfl) ?_
            refine x_lconst (M := M_X12_isAhead) dX12_isAhead_97 ?_
            refine x_lcmp (M := M_X12_isAhead) dX12_isAhead_98 ?_
            refine x_if_ge (M := M_X12_isAhead) (tgt := 106) dX12_isAhead_99 (by decide) (fun q5 => ?_) (fun q5 => ?_)
            · refine x_iconst (M := M_X12_isAhead) dX12_isAhead_106 ?_
              exact x_zret (M := M_X12_isAhead) dX12_isAhead_107 rfl (Or.inl rfl) ⟨by rw [f_X12_isAhead, if_neg q0, if_pos q1, if_pos q2, if_neg q3, if_pos q4, if_pos q5], rfl⟩ (Nat.le_of_ble_eq_true rfl) (Nat.le_of_ble_eq_true rfl)
            · refine x_iconst (M := M_X12_isAhead) dX12_isAhead_102 ?_
              refine x_goto (M := M_X12_isAhead) (tgt := 107) dX12_isAhead_103 (by decide) ?_
              exact x_zret (M := M_X12_isAhead) dX12_isAhead_107 rfl (Or.inr rfl) ⟨by rw [f_X12_isAhead, if_neg q0, if_pos q1, if_pos q2, if_neg q3, if_pos q4, if_neg q5], rfl⟩ (Nat.le_of_ble_eq_true rfl) (Nat.le_of_ble_eq_true rfl)
    · refine x_iconst (M := M_X12_isAhead) dX12_isAhead_54 ?_
      refine x_goto (M := M_X12_isAhead) (tgt := 70) dX12_isAhead_55 (by decide) ?_
      refine x_istore (M := M_X12_isAhead) dX12_isAhead_70 (by decide) rfl ?_
      refine x_norm (lv' := [some (.long w0), none, some (.long w1), none, some (.long w2), none, some (.long w3), none, some (.long w4), none, some (.long w5), none, some (.long (f_X12_cross w0 w1 w2 w3)), none, some (.long (f_X12_cross w0 w1 w4 w5)), none, some (.int (Int32.ofInt 0)), some (.int (Int32.ofInt 0))]) rfl rfl rfl rfl rfl ?_
      refine x_iload (M := M_X12_isAhead) dX12_isAhead_72 rfl ?_
      refine x_iload (M := M_X12_isAhead) dX12_isAhead_74 rfl ?_
      refine x_icmp_lt (M := M_X12_isAhead) (tgt := 102) dX12_isAhead_76 (by decide) (fun q2 => ?_) (fun q2 => ?_)
      · refine x_iconst (M := M_X12_isAhead) dX12_isAhead_102 ?_
        refine x_goto (M := M_X12_isAhead) (tgt := 107) dX12_isAhead_103 (by decide) ?_
        exact x_zret (M := M_X12_isAhead) dX12_isAhead_107 rfl (Or.inr rfl) ⟨by rw [f_X12_isAhead, if_neg q0, if_neg q1, if_pos q2], rfl⟩ (Nat.le_of_ble_eq_true rfl) (Nat.le_of_ble_eq_true rfl)
      · refine x_iload (M := M_X12_isAhead) dX12_isAhead_79 rfl ?_
        refine x_iload (M := M_X12_isAhead) dX12_isAhead_81 rfl ?_
        refine x_icmp_ne (M := M_X12_isAhead) (tgt := 106) dX12_isAhead_83 (by decide) (fun q3 => ?_) (fun q3 => ?_)
        · refine x_iconst (M := M_X12_isAhead) dX12_isAhead_106 ?_
          exact x_zret (M := M_X12_isAhead) dX12_isAhead_107 rfl (Or.inl rfl) ⟨by rw [f_X12_isAhead, if_neg q0, if_neg q1, if_neg q2, if_neg q3], rfl⟩ (Nat.le_of_ble_eq_true rfl) (Nat.le_of_ble_eq_true rfl)
        · refine x_lload (M := M_X12_isAhead) dX12_isAhead_86 rfl ?_
          refine x_lload (M := M_X12_isAhead) dX12_isAhead_88 rfl ?_
          refine x_lload (M := M_X12_isAhead) dX12_isAhead_90 rfl ?_
          refine x_lload (M := M_X12_isAhead) dX12_isAhead_92 rfl ?_
          refine x_callSR (M := M_X12_isAhead) (M' := M_X12_cross) rfl rfl dX12_isAhead_94 m_X12_cross t_3265 t_3266 (p_X12_cross hl) rfl rfl (Nat.le_of_ble_eq_true rfl) (Nat.le_of_ble_eq_true rfl) (Nat.le_of_ble_eq_true rfl) (Nat.le_of_ble_eq_true rfl) ?_
          refine x_lconst (M := M_X12_isAhead) dX12_isAhead_97 ?_
          refine x_lcmp (M := M_X12_isAhead) dX12_isAhead_98 ?_
          refine x_if_ge (M := M_X12_isAhead) (tgt := 106) dX12_isAhead_99 (by decide) (fun q4 => ?_) (fun q4 => ?_)
          · refine x_iconst (M := M_X12_isAhead) dX12_isAhead_106 ?_
            exact x_zret (M := M_X12_isAhead) dX12_isAhead_107 rfl (Or.inl rfl) ⟨by rw [f_X12_isAhead, if_neg q0, if_neg q1, if_neg q2, if_pos q3, if_pos q4], rfl⟩ (Nat.le_of_ble_eq_true rfl) (Nat.le_of_ble_eq_true rfl)
          · refine x_iconst (M := M_X12_isAhead) dX12_isAhead_102 ?_
            refine x_goto (M := M_X12_isAhead) (tgt := 107) dX12_isAhead_103 (by decide) ?_
            exact x_zret (M := M_X12_isAhead) dX12_isAhead_107 rfl (Or.inr rfl) ⟨by rw [f_X12_isAhead, if_neg q0, if_neg q1, if_neg q2, if_pos q3, if_neg q4], rfl⟩ (Nat.le_of_ble_eq_true rfl) (Nat.le_of_ble_eq_true rfl)
def f_X12_isStraight (c67 : Nat → Int64) (c68 : Nat → Int64) (w0 : Int32) (w1 : Int32) (w2 : Int32) : Int32 := if (f_X12_turn (c67 w0.toNatClampNeg) (c68 w0.toNatClampNeg) (c67 w1.toNatClampNeg) (c68 w1.toNatClampNeg) (c67 w2.toNatClampNeg) (c68 w2.toNatClampNeg)) = 0 then (Int32.ofInt 1) else ((Int32.ofInt 0))
theorem b_X12_isStraight (c67 : Nat → Int64) (c68 : Nat → Int64) (w0 : Int32) (w1 : Int32) (w2 : Int32) : f_X12_isStraight c67 c68 w0 w1 w2 = 0 ∨ f_X12_isStraight c67 c68 w0 w1 w2 = 1 := (ite01 (Or.inr rfl) (Or.inl rfl))
theorem p_X12_isStraight {l : Launch} {E : EE} (hl : l.stackTraces = false) {h : HP} {c67 : Nat → Int64} {c68 : Nat → Int64} {w0 : Int32} {w1 : Int32} {w2 : Int32} {a : Nat} {fs : List Value} (ha : ob h a = some (.inr (15, fs))) {r67 n67 : Nat} (e67 : fs[67]? = some (.ref r67)) (o67 : ob h r67 = some (.inl (1, n67, .inr (.inl c67)))) {r68 n68 : Nat} (e68 : fs[68]? = some (.ref r68)) (o68 : ob h r68 = some (.inl (1, n68, .inr (.inl c68)))) (i0 : vp_in w0 n67) (i1 : vp_in w0 n68) (i2 : vp_in w1 n67) (i3 : vp_in w1 n68) (i4 : vp_in w2 n67) (i5 : vp_in w2 n68) : en_C l E M_X12_isStraight 2 0 0 [.ref a, .int w0, .int w1, .int w2] h (pR (some (.int (f_X12_isStraight c67 c68 w0 w1 w2))) h) := by
  refine en_mk m_X12_isStraight rfl hl (Nat.le_of_ble_eq_true rfl) ?_
  refine x_aload_n (M := M_X12_isStraight) dX12_isStraight_0 rfl ?_
  refine x_getf (M := M_X12_isStraight) (ci := 15) (C := RX12) (T := TX12) (N := 135) (ty := tyX12) cl15 dX12_isStraight_1 ha 67 (by decide) t_2458 e67 ?_
  refine x_iload_n (M := M_X12_isStraight) dX12_isStraight_4 rfl ?_
  refine x_lald (M := M_X12_isStraight) dX12_isStraight_5 o67 i0 ?_
  refine x_aload_n (M := M_X12_isStraight) dX12_isStraight_6 rfl ?_
  refine x_getf (M := M_X12_isStraight) (ci := 15) (C := RX12) (T := TX12) (N := 135) (ty := tyX12) cl15 dX12_isStraight_7 ha 68 (by decide) t_2459 e68 ?_
  refine x_iload_n (M := M_X12_isStraight) dX12_isStraight_10 rfl ?_
  refine x_lald (M := M_X12_isStraight) dX12_isStraight_11 o68 i1 ?_
  refine x_aload_n (M := M_X12_isStraight) dX12_isStraight_12 rfl ?_
  refine x_getf (M := M_X12_isStraight) (ci := 15) (C := RX12) (T := TX12) (N := 135) (ty := tyX12) cl15 dX12_isStraight_13 ha 67 (by decide) t_2458 e67 ?_
  refine x_iload_n (M := M_X12_isStraight) dX12_isStraight_16 rfl ?_
  refine x_lald (M := M_X12_isStraight) dX12_isStraight_17 o67 i2 ?_
  refine x_aload_n (M := M_X12_isStraight) dX12_isStraight_18 rfl ?_
  refine x_getf (M := M_X12_isStraight) (ci := 15) (C := RX12) (T := TX12) (N := 135) (ty := tyX12) cl15 dX12_isStraight_19 ha 68 (by decide) t_2459 e68 ?_
  refine x_iload_n (M := M_X12_isStraight) dX12_isStraight_22 rfl ?_
  refine x_lald (M := M_X12_isStraight) dX12_isStraight_23 o68 i3 ?_
  refine x_aload_n (M := M_X12_isStraight) dX12_isStraight_24 rfl ?_
  refine x_getf (M := M_X12_isStraight) (ci := 15) (C := RX12) (T := TX12) (N := 135) (ty := tyX12) cl15 dX12_isStraight_25 ha 67 (by decide) t_2458 e67 ?_
  refine x_iload_n (M := M_X12_isStraight) dX12_isStraight_28 rfl ?_
  refine x_lald (M := M_X12_isStraight) dX12_isStraight_29 o67 i4 ?_
  refine x_aload_n (M := M_X12_isStraight) dX12_isStraight_30 rfl ?_
  refine x_getf (M := M_X12_isStraight) (ci := 15) (C := RX12) (T := TX12) (N := 135) (ty := tyX12) cl15 dX12_isStraight_31 ha 68 (by decide) t_2459 e68 ?_
  refine x_iload_n (M := M_X12_isStraight) dX12_isStraight_34 rfl ?_
  refine x_lald (M := M_X12_isStraight) dX12_isStraight_35 o68 i5 ?_
  refine x_callSR (M := M_X12_isStraight) (M' := M_X12_turn) rfl rfl dX12_isStraight_36 m_X12_turn t_3262 t_3263 (p_X12_turn hl) rfl rfl (Nat.le_of_ble_eq_true rfl) (Nat.le_of_ble_eq_true rfl) (Nat.le_of_ble_eq_true rfl) (Nat.le_of_ble_eq_true rfl) ?_
  refine x_if_ne (M := M_X12_isStraight) (tgt := 46) dX12_isStraight_39 (by decide) (fun q0 => ?_) (fun q0 => ?_)
  · refine x_iconst (M := M_X12_isStraight) dX12_isStraight_46 ?_
    exact x_zret (M := M_X12_isStraight) dX12_isStraight_47 rfl (Or.inl rfl) ⟨by rw [f_X12_isStraight, if_neg q0], rfl⟩ (Nat.le_of_ble_eq_true rfl) (Nat.le_of_ble_eq_true rfl)
  · refine x_iconst (M := M_X12_isStraight) dX12_isStraight_42 ?_
    refine x_goto (M := M_X12_isStraight) (tgt := 47) dX12_isStraight_43 (by decide) ?_
    exact x_zret (M := M_X12_isStraight) dX12_isStraight_47 rfl (Or.inr rfl) ⟨by rw [f_X12_isStraight, if_pos q0], rfl⟩ (Nat.le_of_ble_eq_true rfl) (Nat.le_of_ble_eq_true rfl)
def f_X12_isEarlier (c93 : Nat → Int32) (c95 : Nat → Int32) (w0 : Int32) (w1 : Int32) : Int32 := if (c93 (c95 w0.toNatClampNeg).toNatClampNeg) < (c93 (c95 w1.toNatClampNeg).toNatClampNeg) then (Int32.ofInt 1) else (if (c93 (c95 w0.toNatClampNeg).toNatClampNeg) = (c93 (c95 w1.toNatClampNeg).toNatClampNeg) then if (c93 ((c95 w1.toNatClampNeg) + (Int32.ofInt 1)).toNatClampNeg) ≤ (c93 ((c95 w0.toNatClampNeg) + (Int32.ofInt 1)).toNatClampNeg) then (Int32.ofInt 0) else ((Int32.ofInt 1)) else ((Int32.ofInt 0)))
theorem b_X12_isEarlier (c93 : Nat → Int32) (c95 : Nat → Int32) (w0 : Int32) (w1 : Int32) : f_X12_isEarlier c93 c95 w0 w1 = 0 ∨ f_X12_isEarlier c93 c95 w0 w1 = 1 := (ite01 (Or.inr rfl) (ite01 (ite01 (Or.inl rfl) (Or.inr rfl)) (Or.inl rfl)))
theorem p_X12_isEarlier {l : Launch} {E : EE} (hl : l.stackTraces = false) {h : HP} {c93 : Nat → Int32} {c95 : Nat → Int32} {w0 : Int32} {w1 : Int32} {a : Nat} {fs : List Value} (ha : ob h a = some (.inr (15, fs))) {r93 n93 : Nat} (e93 : fs[93]? = some (.ref r93)) (o93 : ob h r93 = some (.inl (0, n93, .inl c93))) {r95 n95 : Nat} (e95 : fs[95]? = some (.ref r95)) (o95 : ob h r95 = some (.inl (0, n95, .inl c95))) (i0 : vp_in w0 n95) (i1 : vp_in w1 n95) (i2 : vp_in (c95 w0.toNatClampNeg) n93) (i3 : vp_in (c95 w1.toNatClampNeg) n93) (i4 : (¬ (c93 (c95 w0.toNatClampNeg).toNatClampNeg) < (c93 (c95 w1.toNatClampNeg).toNatClampNeg)) → vp_in (c95 w0.toNatClampNeg) n93) (i5 : (¬ (c93 (c95 w0.toNatClampNeg).toNatClampNeg) < (c93 (c95 w1.toNatClampNeg).toNatClampNeg)) → vp_in (c95 w1.toNatClampNeg) n93) (i6 : (¬ (c93 (c95 w0.toNatClampNeg).toNatClampNeg) < (c93 (c95 w1.toNatClampNeg).toNatClampNeg)) → ((c93 (c95 w0.toNatClampNeg).toNatClampNeg) = (c93 (c95 w1.toNatClampNeg).toNatClampNeg)) → vp_in ((c95 w0.toNatClampNeg) + (Int32.ofInt 1)) n93) (i7 : (¬ (c93 (c95 w0.toNatClampNeg).toNatClampNeg) < (c93 (c95 w1.toNatClampNeg).toNatClampNeg)) → ((c93 (c95 w0.toNatClampNeg).toNatClampNeg) = (c93 (c95 w1.toNatClampNeg).toNatClampNeg)) → vp_in ((c95 w1.toNatClampNeg) + (Int32.ofInt 1)) n93) : en_C l E M_X12_isEarlier 0 0 0 [.ref a, .int w0, .int w1] h (pR (some (.int (f_X12_isEarlier c93 c95 w0 w1))) h) := by
  refine en_mk m_X12_isEarlier rfl hl (Nat.le_of_ble_eq_true rfl) ?_
  refine x_aload_n (M := M_X12_isEarlier) dX12_isEarlier_0 rfl ?_
  refine x_getf (M := M_X12_isEarlier) (ci := 15) (C := RX12) (T := TX12) (N := 135) (ty := tyX12) cl15 dX12_isEarlier_1 ha 95 (by decide) t_2486 e95 ?_
  refine x_iload_n (M := M_X12_isEarlier) dX12_isEarlier_4 rfl ?_
  refine x_iald (M := M_X12_isEarlier) dX12_isEarlier_5 o95 i0 ?_
  refine x_istore_n (M := M_X12_isEarlier) dX12_isEarlier_6 (by decide) rfl ?_
  refine x_norm (lv' := [some (.ref a), some (.int w0), some (.int w1), some (.int (c95 w0.toNatClampNeg)), none]) rfl rfl rfl rfl rfl ?_
  refine x_aload_n (M := M_X12_isEarlier) dX12_isEarlier_7 rfl ?_
  refine x_getf (M := M_X12_isEarlier) (ci := 15) (C := RX12) (T := TX12) (N := 135) (ty := tyX12) cl15 dX12_isEarlier_8 ha 95 (by decide) t_2486 e95 ?_
  refine x_iload_n (M := M_X12_isEarlier) dX12_isEarlier_11 rfl ?_
  refine x_iald (M := M_X12_isEarlier) dX12_isEarlier_12 o95 i1 ?_
  refine x_istore (M := M_X12_isEarlier) dX12_isEarlier_13 (by decide) rfl ?_
  refine x_norm (lv' := [some (.ref a), some (.int w0), some (.int w1), some (.int (c95 w0.toNatClampNeg)), some (.int (c95 w1.toNatClampNeg))]) rfl rfl rfl rfl rfl ?_
  refine x_aload_n (M := M_X12_isEarlier) dX12_isEarlier_15 rfl ?_
  refine x_getf (M := M_X12_isEarlier) (ci := 15) (C := RX12) (T := TX12) (N := 135) (ty := tyX12) cl15 dX12_isEarlier_16 ha 93 (by decide) t_2484 e93 ?_
  refine x_iload_n (M := M_X12_isEarlier) dX12_isEarlier_19 rfl ?_
  refine x_iald (M := M_X12_isEarlier) dX12_isEarlier_20 o93 i2 ?_
  refine x_aload_n (M := M_X12_isEarlier) dX12_isEarlier_21 rfl ?_
  refine x_getf (M := M_X12_isEarlier) (ci := 15) (C := RX12) (T := TX12) (N := 135) (ty := tyX12) cl15 dX12_isEarlier_22 ha 93 (by decide) t_2484 e93 ?_
  refine x_iload (M := M_X12_isEarlier) dX12_isEarlier_25 rfl ?_
  refine x_iald (M := M_X12_isEarlier) dX12_isEarlier_27 o93 i3 ?_
  refine x_icmp_lt (M := M_X12_isEarlier) (tgt := 67) dX12_isEarlier_28 (by decide) (fun q0 => ?_) (fun q0 => ?_)
  · refine x_iconst (M := M_X12_isEarlier) dX12_isEarlier_67 ?_
    refine x_goto (M := M_X12_isEarlier) (tgt := 72) dX12_isEarlier_68 (by decide) ?_
    exact x_zret (M := M_X12_isEarlier) dX12_isEarlier_72 rfl (Or.inr rfl) ⟨by rw [f_X12_isEarlier, if_pos q0], rfl⟩ (Nat.le_of_ble_eq_true rfl) (Nat.le_of_ble_eq_true rfl)
  · refine x_aload_n (M := M_X12_isEarlier) dX12_isEarlier_31 rfl ?_
    refine x_getf (M := M_X12_isEarlier) (ci := 15) (C := RX12) (T := TX12) (N := 135) (ty := tyX12) cl15 dX12_isEarlier_32 ha 93 (by decide) t_2484 e93 ?_
    refine x_iload_n (M := M_X12_isEarlier) dX12_isEarlier_35 rfl ?_
    refine x_iald (M := M_X12_isEarlier) dX12_isEarlier_36 o93 (i4 q0) ?_
    refine x_aload_n (M := M_X12_isEarlier) dX12_isEarlier_37 rfl ?_
    refine x_getf (M := M_X12_isEarlier) (ci := 15) (C := RX12) (T := TX12) (N := 135) (ty := tyX12) cl15 dX12_isEarlier_38 ha 93 (by decide) t_2484 e93 ?_
    refine x_iload (M := M_X12_isEarlier) dX12_isEarlier_41 rfl ?_
    refine x_iald (M := M_X12_isEarlier) dX12_isEarlier_43 o93 (i5 q0) ?_
    refine x_icmp_ne (M := M_X12_isEarlier) (tgt := 71) dX12_isEarlier_44 (by decide) (fun q1 => ?_) (fun q1 => ?_)
    · refine x_iconst (M := M_X12_isEarlier) dX12_isEarlier_71 ?_
      exact x_zret (M := M_X12_isEarlier) dX12_isEarlier_72 rfl (Or.inl rfl) ⟨by rw [f_X12_isEarlier, if_neg q0, if_neg q1], rfl⟩ (Nat.le_of_ble_eq_true rfl) (Nat.le_of_ble_eq_true rfl)
    · refine x_aload_n (M := M_X12_isEarlier) dX12_isEarlier_47 rfl ?_
      refine x_getf (M := M_X12_isEarlier) (ci := 15) (C := RX12) (T := TX12) (N := 135) (ty := tyX12) cl15 dX12_isEarlier_48 ha 93 (by decide) t_2484 e93 ?_
      refine x_iload_n (M := M_X12_isEarlier) dX12_isEarlier_51 rfl ?_
      refine x_iconst (M := M_X12_isEarlier) dX12_isEarlier_52 ?_
      refine x_iadd (M := M_X12_isEarlier) dX12_isEarlier_53 ?_
      refine x_iald (M := M_X12_isEarlier) dX12_isEarlier_54 o93 (i6 q0 q1) ?_
      refine x_aload_n (M := M_X12_isEarlier) dX12_isEarlier_55 rfl ?_
      refine x_getf (M := M_X12_isEarlier) (ci := 15) (C := RX12) (T := TX12) (N := 135) (ty := tyX12) cl15 dX12_isEarlier_56 ha 93 (by decide) t_2484 e93 ?_
      refine x_iload (M := M_X12_isEarlier) dX12_isEarlier_59 rfl ?_
      refine x_iconst (M := M_X12_isEarlier) dX12_isEarlier_61 ?_
      refine x_iadd (M := M_X12_isEarlier) dX12_isEarlier_62 ?_
      refine x_iald (M := M_X12_isEarlier) dX12_isEarlier_63 o93 (i7 q0 q1) ?_
      refine x_icmp_ge (M := M_X12_isEarlier) (tgt := 71) dX12_isEarlier_64 (by decide) (fun q2 => ?_) (fun q2 => ?_)
      · refine x_iconst (M := M_X12_isEarlier) dX12_isEarlier_71 ?_
        exact x_zret (M := M_X12_isEarlier) dX12_isEarlier_72 rfl (Or.inl rfl) ⟨by rw [f_X12_isEarlier, if_neg q0, if_pos q1, if_pos q2], rfl⟩ (Nat.le_of_ble_eq_true rfl) (Nat.le_of_ble_eq_true rfl)
      · refine x_iconst (M := M_X12_isEarlier) dX12_isEarlier_67 ?_
        refine x_goto (M := M_X12_isEarlier) (tgt := 72) dX12_isEarlier_68 (by decide) ?_
        exact x_zret (M := M_X12_isEarlier) dX12_isEarlier_72 rfl (Or.inr rfl) ⟨by rw [f_X12_isEarlier, if_neg q0, if_pos q1, if_neg q2], rfl⟩ (Nat.le_of_ble_eq_true rfl) (Nat.le_of_ble_eq_true rfl)
def f_X12_typeOfKind (w0 : Int32) : Int32 := if w0 = (Int8.ofInt 7).toInt32 then (Int32.ofInt (-1)) else (((w0 - (Int32.ofInt 1)) - (w0 - (Int32.ofInt 1)) / (Int32.ofInt 3) * (Int32.ofInt 3)))
theorem p_X12_typeOfKind {l : Launch} {E : EE} (hl : l.stackTraces = false) {h : HP} {w0 : Int32} : en_C l E M_X12_typeOfKind 0 0 0 [.int w0] h (pR (some (.int (f_X12_typeOfKind w0))) h) := by
  refine en_mk m_X12_typeOfKind rfl hl (Nat.le_of_ble_eq_true rfl) ?_
  refine x_iload_n (M := M_X12_typeOfKind) dX12_typeOfKind_0 rfl ?_
  refine x_bipush (M := M_X12_typeOfKind) dX12_typeOfKind_1 ?_
  refine x_icmp_ne (M := M_X12_typeOfKind) (tgt := 10) dX12_typeOfKind_3 (by decide) (fun q0 => ?_) (fun q0 => ?_)
  · refine x_iload_n (M := M_X12_typeOfKind) dX12_typeOfKind_10 rfl ?_
    refine x_iconst (M := M_X12_typeOfKind) dX12_typeOfKind_11 ?_
    refine x_isub (M := M_X12_typeOfKind) dX12_typeOfKind_12 ?_
    refine x_iconst (M := M_X12_typeOfKind) dX12_typeOfKind_13 ?_
    refine x_irem (M := M_X12_typeOfKind) dX12_typeOfKind_14 (by decide +kernel) ?_
    exact x_iret (M := M_X12_typeOfKind) dX12_typeOfKind_15 rfl ⟨by rw [f_X12_typeOfKind, if_neg q0], rfl⟩ (Nat.le_of_ble_eq_true rfl) (Nat.le_of_ble_eq_true rfl)
  · refine x_iconst (M := M_X12_typeOfKind) dX12_typeOfKind_6 ?_
    refine x_goto (M := M_X12_typeOfKind) (tgt := 15) dX12_typeOfKind_7 (by decide) ?_
    exact x_iret (M := M_X12_typeOfKind) dX12_typeOfKind_15 rfl ⟨by rw [f_X12_typeOfKind, if_pos q0], rfl⟩ (Nat.le_of_ble_eq_true rfl) (Nat.le_of_ble_eq_true rfl)
def F_X12_lineEnds (fs : List Value) (c105 : Nat → Int32) (c106 : Nat → Int32) (w0 : Int32) (w1 : Int32) (w2 : Int32) : List Value := fs
def A105_X12_lineEnds (c105 : Nat → Int32) (c106 : Nat → Int32) (w0 : Int32) (w1 : Int32) (w2 : Int32) : Nat → Int32 := if (Int16.ofInt 2100).toInt32 < ((c106 w0.toNatClampNeg) + (Int32.ofInt 2)) then c105 else (if w2 = 0 then c105 else ((upd (upd c105 (((Int16.ofInt 2100).toInt32 * w0) + (c106 w0.toNatClampNeg)).toNatClampNeg w1) ((((Int16.ofInt 2100).toInt32 * w0) + (c106 w0.toNatClampNeg)) + (Int32.ofInt 1)).toNatClampNeg ((w1 + w2) - (Int32.ofInt 1)))))
def A106_X12_lineEnds (c105 : Nat → Int32) (c106 : Nat → Int32) (w0 : Int32) (w1 : Int32) (w2 : Int32) : Nat → Int32 := if (Int16.ofInt 2100).toInt32 < ((c106 w0.toNatClampNeg) + (Int32.ofInt 2)) then c106 else (if w2 = 0 then c106 else ((upd c106 w0.toNatClampNeg ((c106 w0.toNatClampNeg) + (Int32.ofInt 2)))))
theorem l_X12_lineEnds {fs : List Value} {c105 : Nat → Int32} {c106 : Nat → Int32} {w0 : Int32} {w1 : Int32} {w2 : Int32} : (F_X12_lineEnds fs c105 c106 w0 w1 w2).length = fs.length := by
  unfold F_X12_lineEnds
  first | rfl | simp only [List.length_set]
theorem k_X12_lineEnds {fs : List Value} {c105 : Nat → Int32} {c106 : Nat → Int32} {w0 : Int32} {w1 : Int32} {w2 : Int32} {k : Nat} (hk : k ∉ ([] : List Nat)) : (F_X12_lineEnds fs c105 c106 w0 w1 w2)[k]? = fs[k]? := by
  clear hk
  unfold F_X12_lineEnds
  first | rfl | simp only []
theorem p_X12_lineEnds {l : Launch} {E : EE} (hl : l.stackTraces = false) {h : HP} {c105 : Nat → Int32} {c106 : Nat → Int32} {w0 : Int32} {w1 : Int32} {w2 : Int32} {a : Nat} {fs : List Value} (ha : ob h a = some (.inr (15, fs))) {r105 n105 : Nat} (e105 : fs[105]? = some (.ref r105)) (o105 : ob h r105 = some (.inl (0, n105, .inl c105))) {r106 n106 : Nat} (e106 : fs[106]? = some (.ref r106)) (o106 : ob h r106 = some (.inl (0, n106, .inl c106))) (d105_106 : r105 ≠ r106) (i0 : vp_in w0 n106) (i1 : (¬ (Int16.ofInt 2100).toInt32 < ((c106 w0.toNatClampNeg) + (Int32.ofInt 2))) → (¬ w2 = 0) → vp_in w0 n106) (i2 : (¬ (Int16.ofInt 2100).toInt32 < ((c106 w0.toNatClampNeg) + (Int32.ofInt 2))) → (¬ w2 = 0) → vp_in (((Int16.ofInt 2100).toInt32 * w0) + (c106 w0.toNatClampNeg)) n105) (i3 : (¬ (Int16.ofInt 2100).toInt32 < ((c106 w0.toNatClampNeg) + (Int32.ofInt 2))) → (¬ w2 = 0) → vp_in w0 n106) (i4 : (¬ (Int16.ofInt 2100).toInt32 < ((c106 w0.toNatClampNeg) + (Int32.ofInt 2))) → (¬ w2 = 0) → vp_in ((((Int16.ofInt 2100).toInt32 * w0) + (c106 w0.toNatClampNeg)) + (Int32.ofInt 1)) n105) (i5 : (¬ (Int16.ofInt 2100).toInt32 < ((c106 w0.toNatClampNeg) + (Int32.ofInt 2))) → (¬ w2 = 0) → vp_in w0 n106) (i6 : (¬ (Int16.ofInt 2100).toInt32 < ((c106 w0.toNatClampNeg) + (Int32.ofInt 2))) → (¬ w2 = 0) → vp_in w0 n106) : en_C l E M_X12_lineEnds 0 0 0 [.ref a, .int w0, .int w1, .int w2] h (pR none (stt (stt (stt h a (.inr (15, F_X12_lineEnds fs c105 c106 w0 w1 w2))) r105 (.inl (0, n105, .inl (A105_X12_lineEnds c105 c106 w0 w1 w2)))) r106 (.inl (0, n106, .inl (A106_X12_lineEnds c105 c106 w0 w1 w2))))) := by
  refine en_mk m_X12_lineEnds rfl hl (Nat.le_of_ble_eq_true rfl) ?_
  refine x_heap (h' := (stt (stt (stt h a (.inr (15, fs))) r105 (.inl (0, n105, .inl c105))) r106 (.inl (0, n106, .inl c106)))) (by rw [stt_id ha, stt_id o105, stt_id o106]) ?_
  refine x_aload_n (M := M_X12_lineEnds) dX12_lineEnds_0 rfl ?_
  refine x_getf (M := M_X12_lineEnds) (ci := 15) (C := RX12) (T := TX12) (N := 135) (ty := tyX12) cl15 dX12_lineEnds_1 (ob_up (ob_df ha o106).symm (ob_at o106).1 (ob_up (ob_df ha o105).symm (ob_at o105).1 (ob_self ha))) 106 (by decide) t_2497 e106 ?_
  refine x_iload_n (M := M_X12_lineEnds) dX12_lineEnds_4 rfl ?_
  refine x_iald (M := M_X12_lineEnds) dX12_lineEnds_5 (ob_self (ob_up d105_106 (ob_at o105).1 (ob_oth ha o106))) i0 ?_
  refine x_iconst (M := M_X12_lineEnds) dX12_lineEnds_6 ?_
  refine x_iadd (M := M_X12_lineEnds) dX12_lineEnds_7 ?_
  refine x_sipush (M := M_X12_lineEnds) dX12_lineEnds_8 ?_
  refine x_icmp_gt (M := M_X12_lineEnds) (tgt := 18) dX12_lineEnds_11 (by decide) (fun q0 => ?_) (fun q0 => ?_)
  · exact x_vret (M := M_X12_lineEnds) dX12_lineEnds_18 rfl ⟨rfl, by rw [F_X12_lineEnds, A105_X12_lineEnds, if_pos q0, A106_X12_lineEnds, if_pos q0]⟩ (Nat.le_of_ble_eq_true rfl) (Nat.le_of_ble_eq_true rfl)
  · refine x_iload_n (M := M_X12_lineEnds) dX12_lineEnds_14 rfl ?_
    refine x_if_ne (M := M_X12_lineEnds) (tgt := 19) dX12_lineEnds_15 (by decide) (fun q1 => ?_) (fun q1 => ?_)
    · refine x_aload_n (M := M_X12_lineEnds) dX12_lineEnds_19 rfl ?_
      refine x_getf (M := M_X12_lineEnds) (ci := 15) (C := RX12) (T := TX12) (N := 135) (ty := tyX12) cl15 dX12_lineEnds_20 (ob_up (ob_df ha o106).symm (ob_at o106).1 (ob_up (ob_df ha o105).symm (ob_at o105).1 (ob_self ha))) 105 (by decide) t_2496 e105 ?_
      refine x_sipush (M := M_X12_lineEnds) dX12_lineEnds_23 ?_
      refine x_iload_n (M := M_X12_lineEnds) dX12_lineEnds_26 rfl ?_
      refine x_imul (M := M_X12_lineEnds) dX12_lineEnds_27 ?_
      refine x_aload_n (M := M_X12_lineEnds) dX12_lineEnds_28 rfl ?_
      refine x_getf (M := M_X12_lineEnds) (ci := 15) (C := RX12) (T := TX12) (N := 135) (ty := tyX12) cl15 dX12_lineEnds_29 (ob_up (ob_df ha o106).symm (ob_at o106).1 (ob_up (ob_df ha o105).symm (ob_at o105).1 (ob_self ha))) 106 (by decide) t_2497 e106 ?_
      refine x_iload_n (M := M_X12_lineEnds) dX12_lineEnds_32 rfl ?_
      refine x_iald (M := M_X12_lineEnds) dX12_lineEnds_33 (ob_self (ob_up d105_106 (ob_at o105).1 (ob_oth ha o106))) (i1 q0 q1) ?_
      refine x_iadd (M := M_X12_lineEnds) dX12_lineEnds_34 ?_
      refine x_iload_n (M := M_X12_lineEnds) dX12_lineEnds_35 rfl ?_
      refine x_iast (M := M_X12_lineEnds) dX12_lineEnds_36 (ob_up d105_106.symm (ob_at o106).1 (ob_self (ob_oth ha o105))) (i2 q0 q1) ?_
      refine x_heap (h' := (stt (stt (stt h a (.inr (15, fs))) r105 (.inl (0, n105, .inl (upd c105 (((Int16.ofInt 2100).toInt32 * w0) + (c106 w0.toNatClampNeg)).toNatClampNeg w1)))) r106 (.inl (0, n106, .inl c106)))) (by rw [stt_sw (x := r106) (y := r105) d105_106.symm (ob_at o106).1 (ob_at o105).1, stt_stt (a := r105)]) ?_
      refine x_aload_n (M := M_X12_lineEnds) dX12_lineEnds_37 rfl ?_
      refine x_getf (M := M_X12_lineEnds) (ci := 15) (C := RX12) (T := TX12) (N := 135) (ty := tyX12) cl15 dX12_lineEnds_38 (ob_up (ob_df ha o106).symm (ob_at o106).1 (ob_up (ob_df ha o105).symm (ob_at o105).1 (ob_self ha))) 105 (by decide) t_2496 e105 ?_
      refine x_sipush (M := M_X12_lineEnds) dX12_lineEnds_41 ?_
      refine x_iload_n (M := M_X12_lineEnds) dX12_lineEnds_44 rfl ?_
      refine x_imul (M := M_X12_lineEnds) dX12_lineEnds_45 ?_
      refine x_aload_n (M := M_X12_lineEnds) dX12_lineEnds_46 rfl ?_
      refine x_getf (M := M_X12_lineEnds) (ci := 15) (C := RX12) (T := TX12) (N := 135) (ty := tyX12) cl15 dX12_lineEnds_47 (ob_up (ob_df ha o106).symm (ob_at o106).1 (ob_up (ob_df ha o105).symm (ob_at o105).1 (ob_self ha))) 106 (by decide) t_2497 e106 ?_
      refine x_iload_n (M := M_X12_lineEnds) dX12_lineEnds_50 rfl ?_
      refine x_iald (M := M_X12_lineEnds) dX12_lineEnds_51 (ob_self (ob_up d105_106 (ob_at o105).1 (ob_oth ha o106))) (i3 q0 q1) ?_
      refine x_iadd (M := M_X12_lineEnds) dX12_lineEnds_52 ?_
      refine x_iconst (M := M_X12_lineEnds) dX12_lineEnds_53 ?_
      refine x_iadd (M := M_X12_lineEnds) dX12_lineEnds_54 ?_
      refine x_iload_n (M := M_X12_lineEnds) dX12_lineEnds_55 rfl ?_
      refine x_iload_n (M := M_X12_lineEnds) dX12_lineEnds_56 rfl ?_
      refine x_iadd (M := M_X12_lineEnds) dX12_lineEnds_57 ?_
      refine x_iconst (M := M_X12_lineEnds) dX12_lineEnds_58 ?_
      refine x_isub (M := M_X12_lineEnds) dX12_lineEnds_59 ?_
      refine x_iast (M := M_X12_lineEnds) dX12_lineEnds_60 (ob_up d105_106.symm (ob_at o106).1 (ob_self (ob_oth ha o105))) (i4 q0 q1) ?_
      refine x_heap (h' := (stt (stt (stt h a (.inr (15, fs))) r105 (.inl (0, n105, .inl (upd (upd c105 (((Int16.ofInt 2100).toInt32 * w0) + (c106 w0.toNatClampNeg)).toNatClampNeg w1) ((((Int16.ofInt 2100).toInt32 * w0) + (c106 w0.toNatClampNeg)) + (Int32.ofInt 1)).toNatClampNeg ((w1 + w2) - (Int32.ofInt 1)))))) r106 (.inl (0, n106, .inl c106)))) (by rw [stt_sw (x := r106) (y := r105) d105_106.symm (ob_at o106).1 (ob_at o105).1, stt_stt (a := r105)]) ?_
      refine x_aload_n (M := M_X12_lineEnds) dX12_lineEnds_61 rfl ?_
      refine x_getf (M := M_X12_lineEnds) (ci := 15) (C := RX12) (T := TX12) (N := 135) (ty := tyX12) cl15 dX12_lineEnds_62 (ob_up (ob_df ha o106).symm (ob_at o106).1 (ob_up (ob_df ha o105).symm (ob_at o105).1 (ob_self ha))) 106 (by decide) t_2497 e106 ?_
      refine x_iload_n (M := M_X12_lineEnds) dX12_lineEnds_65 rfl ?_
      refine x_dup2 (M := M_X12_lineEnds) dX12_lineEnds_66 rfl rfl ?_
      refine x_iald (M := M_X12_lineEnds) dX12_lineEnds_67 (ob_self (ob_up d105_106 (ob_at o105).1 (ob_oth ha o106))) (i5 q0 q1) ?_
      refine x_iconst (M := M_X12_lineEnds) dX12_lineEnds_68 ?_
      refine x_iadd (M := M_X12_lineEnds) dX12_lineEnds_69 ?_
      refine x_iast (M := M_X12_lineEnds) dX12_lineEnds_70 (ob_self (ob_up d105_106 (ob_at o105).1 (ob_oth ha o106))) (i6 q0 q1) ?_
      refine x_heap (h' := (stt (stt (stt h a (.inr (15, fs))) r105 (.inl (0, n105, .inl (upd (upd c105 (((Int16.ofInt 2100).toInt32 * w0) + (c106 w0.toNatClampNeg)).toNatClampNeg w1) ((((Int16.ofInt 2100).toInt32 * w0) + (c106 w0.toNatClampNeg)) + (Int32.ofInt 1)).toNatClampNeg ((w1 + w2) - (Int32.ofInt 1)))))) r106 (.inl (0, n106, .inl (upd c106 w0.toNatClampNeg ((c106 w0.toNatClampNeg) + (Int32.ofInt 2))))))) (by rw [stt_stt (a := r106)]) ?_
      exact x_vret (M := M_X12_lineEnds) dX12_lineEnds_71 rfl ⟨rfl, by rw [F_X12_lineEnds, A105_X12_lineEnds, if_neg q0, if_neg q1, A106_X12_lineEnds, if_neg q0, if_neg q1]⟩ (Nat.le_of_ble_eq_true rfl) (Nat.le_of_ble_eq_true rfl)
    · exact x_vret (M := M_X12_lineEnds) dX12_lineEnds_18 rfl ⟨rfl, by rw [F_X12_lineEnds, A105_X12_lineEnds, if_neg q0, if_pos q1, A106_X12_lineEnds, if_neg q0, if_pos q1]⟩ (Nat.le_of_ble_eq_true rfl) (Nat.le_of_ble_eq_true rfl)
def F_X12_mark (fs : List Value) (c107 : Nat → Int32) (w0 : Int32) (w1 : Int32) (w2 : Int32) : List Value := fs
def A107_X12_mark (c107 : Nat → Int32) (w0 : Int32) (w1 : Int32) (w2 : Int32) : Nat → Int32 := if w2 ≤ (c107 (((Int32.ofInt 3) * w0) + w1).toNatClampNeg) then (upd c107 (((Int32.ofInt 3) * w0) + w1).toNatClampNeg (c107 (((Int32.ofInt 3) * w0) + w1).toNatClampNeg)) else ((upd c107 (((Int32.ofInt 3) * w0) + w1).toNatClampNeg w2))
theorem l_X12_mark {fs : List Value} {c107 : Nat → Int32} {w0 : Int32} {w1 : Int32} {w2 : Int32} : (F_X12_mark fs c107 w0 w1 w2).length = fs.length := by
  unfold F_X12_mark
  first | rfl | simp only [List.length_set]
theorem k_X12_mark {fs : List Value} {c107 : Nat → Int32} {w0 : Int32} {w1 : Int32} {w2 : Int32} {k : Nat} (hk : k ∉ ([] : List Nat)) : (F_X12_mark fs c107 w0 w1 w2)[k]? = fs[k]? := by
  clear hk
  unfold F_X12_mark
  first | rfl | simp only []
theorem p_X12_mark {l : Launch} {E : EE} (hl : l.stackTraces = false) {h : HP} {c107 : Nat → Int32} {w0 : Int32} {w1 : Int32} {w2 : Int32} {a : Nat} {fs : List Value} (ha : ob h a = some (.inr (15, fs))) {r107 n107 : Nat} (e107 : fs[107]? = some (.ref r107)) (o107 : ob h r107 = some (.inl (0, n107, .inl c107))) (i0 : vp_in (((Int32.ofInt 3) * w0) + w1) n107) (i1 : (w2 ≤ (c107 (((Int32.ofInt 3) * w0) + w1).toNatClampNeg)) → vp_in (((Int32.ofInt 3) * w0) + w1) n107) (i2 : (w2 ≤ (c107 (((Int32.ofInt 3) * w0) + w1).toNatClampNeg)) → vp_in (((Int32.ofInt 3) * w0) + w1) n107) (i3 : (¬ w2 ≤ (c107 (((Int32.ofInt 3) * w0) + w1).toNatClampNeg)) → vp_in (((Int32.ofInt 3) * w0) + w1) n107) : en_C l E M_X12_mark 0 0 0 [.ref a, .int w0, .int w1, .int w2] h (pR none (stt (stt h a (.inr (15, F_X12_mark fs c107 w0 w1 w2))) r107 (.inl (0, n107, .inl (A107_X12_mark c107 w0 w1 w2))))) := by
  refine en_mk m_X12_mark rfl hl (Nat.le_of_ble_eq_true rfl) ?_
  refine x_heap (h' := (stt (stt h a (.inr (15, fs))) r107 (.inl (0, n107, .inl c107)))) (by rw [stt_id ha, stt_id o107]) ?_
  refine x_iconst (M := M_X12_mark) dX12_mark_0 ?_
  refine x_iload_n (M := M_X12_mark) dX12_mark_1 rfl ?_
  refine x_imul (M := M_X12_mark) dX12_mark_2 ?_
  refine x_iload_n (M := M_X12_mark) dX12_mark_3 rfl ?_
  refine x_iadd (M := M_X12_mark) dX12_mark_4 ?_
  refine x_istore (M := M_X12_mark) dX12_mark_5 (by decide) rfl ?_
  refine x_norm (lv' := [some (.ref a), some (.int w0), some (.int w1), some (.int w2), some (.int (((Int32.ofInt 3) * w0) + w1))]) rfl rfl rfl rfl rfl ?_
  refine x_aload_n (M := M_X12_mark) dX12_mark_7 rfl ?_
  refine x_getf (M := M_X12_mark) (ci := 15) (C := RX12) (T := TX12) (N := 135) (ty := tyX12) cl15 dX12_mark_8 (ob_up (ob_df ha o107).symm (ob_at o107).1 (ob_self ha)) 107 (by decide) t_2498 e107 ?_
  refine x_iload (M := M_X12_mark) dX12_mark_11 rfl ?_
  refine x_aload_n (M := M_X12_mark) dX12_mark_13 rfl ?_
  refine x_getf (M := M_X12_mark) (ci := 15) (C := RX12) (T := TX12) (N := 135) (ty := tyX12) cl15 dX12_mark_14 (ob_up (ob_df ha o107).symm (ob_at o107).1 (ob_self ha)) 107 (by decide) t_2498 e107 ?_
  refine x_iload (M := M_X12_mark) dX12_mark_17 rfl ?_
  refine x_iald (M := M_X12_mark) dX12_mark_19 (ob_self (ob_oth ha o107)) i0 ?_
  refine x_iload_n (M := M_X12_mark) dX12_mark_20 rfl ?_
  refine x_icmp_ge (M := M_X12_mark) (tgt := 28) dX12_mark_21 (by decide) (fun q0 => ?_) (fun q0 => ?_)
  · refine x_aload_n (M := M_X12_mark) dX12_mark_28 rfl ?_
    refine x_getf (M := M_X12_mark) (ci := 15) (C := RX12) (T := TX12) (N := 135) (ty := tyX12) cl15 dX12_mark_29 (ob_up (ob_df ha o107).symm (ob_at o107).1 (ob_self ha)) 107 (by decide) t_2498 e107 ?_
    refine x_iload (M := M_X12_mark) dX12_mark_32 rfl ?_
    refine x_iald (M := M_X12_mark) dX12_mark_34 (ob_self (ob_oth ha o107)) (i1 q0) ?_
    refine x_iast (M := M_X12_mark) dX12_mark_35 (ob_self (ob_oth ha o107)) (i2 q0) ?_
    refine x_heap (h' := (stt (stt h a (.inr (15, fs))) r107 (.inl (0, n107, .inl (upd c107 (((Int32.ofInt 3) * w0) + w1).toNatClampNeg (c107 (((Int32.ofInt 3) * w0) + w1).toNatClampNeg)))))) (by rw [stt_stt (a := r107)]) ?_
    exact x_vret (M := M_X12_mark) dX12_mark_36 rfl ⟨rfl, by rw [F_X12_mark, A107_X12_mark, if_pos q0]⟩ (Nat.le_of_ble_eq_true rfl) (Nat.le_of_ble_eq_true rfl)
  · refine x_iload_n (M := M_X12_mark) dX12_mark_24 rfl ?_
    refine x_goto (M := M_X12_mark) (tgt := 35) dX12_mark_25 (by decide) ?_
    refine x_iast (M := M_X12_mark) dX12_mark_35 (ob_self (ob_oth ha o107)) (i3 q0) ?_
    refine x_heap (h' := (stt (stt h a (.inr (15, fs))) r107 (.inl (0, n107, .inl (upd c107 (((Int32.ofInt 3) * w0) + w1).toNatClampNeg w2))))) (by rw [stt_stt (a := r107)]) ?_
    exact x_vret (M := M_X12_mark) dX12_mark_36 rfl ⟨rfl, by rw [F_X12_mark, A107_X12_mark, if_neg q0]⟩ (Nat.le_of_ble_eq_true rfl) (Nat.le_of_ble_eq_true rfl)
def f_X12_dimension (c11 : Nat → Int32) (c100 : Nat → Int32) (c101 : Nat → Int32) (c103 : Nat → Int32) (c104 : Nat → Int32) (w0 : Int32) : Int32 := if (c101 w0.toNatClampNeg) = 0 then if (c11 (c100 w0.toNatClampNeg).toNatClampNeg) ≤ 0 then (Int32.ofInt (-1)) else ((Int32.ofInt 0)) else (if (c101 w0.toNatClampNeg) = (Int32.ofInt 1) then if (c103 w0.toNatClampNeg) ≤ 0 then (Int32.ofInt (-1)) else ((Int32.ofInt 1)) else (if (c104 w0.toNatClampNeg) = 0 then (Int32.ofInt (-1)) else ((Int32.ofInt 2))))
theorem p_X12_dimension {l : Launch} {E : EE} (hl : l.stackTraces = false) {h : HP} {c11 : Nat → Int32} {c100 : Nat → Int32} {c101 : Nat → Int32} {c103 : Nat → Int32} {c104 : Nat → Int32} {w0 : Int32} {a : Nat} {fs : List Value} (ha : ob h a = some (.inr (15, fs))) {r11 n11 : Nat} (e11 : fs[11]? = some (.ref r11)) (o11 : ob h r11 = some (.inl (0, n11, .inl c11))) {r100 n100 : Nat} (e100 : fs[100]? = some (.ref r100)) (o100 : ob h r100 = some (.inl (0, n100, .inl c100))) {r101 n101 : Nat} (e101 : fs[101]? = some (.ref r101)) (o101 : ob h r101 = some (.inl (0, n101, .inl c101))) {r103 n103 : Nat} (e103 : fs[103]? = some (.ref r103)) (o103 : ob h r103 = some (.inl (0, n103, .inl c103))) {r104 n104 : Nat} (e104 : fs[104]? = some (.ref r104)) (o104 : ob h r104 = some (.inl (3, n104, .inl c104))) (i0 : vp_in w0 n101) (i1 : (¬ (c101 w0.toNatClampNeg) = 0) → vp_in w0 n101) (i2 : (¬ (c101 w0.toNatClampNeg) = 0) → (¬ (c101 w0.toNatClampNeg) = (Int32.ofInt 1)) → vp_in w0 n104) (i3 : (¬ (c101 w0.toNatClampNeg) = 0) → ((c101 w0.toNatClampNeg) = (Int32.ofInt 1)) → vp_in w0 n103) (i4 : ((c101 w0.toNatClampNeg) = 0) → vp_in w0 n100) (i5 : ((c101 w0.toNatClampNeg) = 0) → vp_in (c100 w0.toNatClampNeg) n11) : en_C l E M_X12_dimension 0 0 0 [.ref a, .int w0] h (pR (some (.int (f_X12_dimension c11 c100 c101 c103 c104 w0))) h) := by
  refine en_mk m_X12_dimension rfl hl (Nat.le_of_ble_eq_true rfl) ?_
  refine x_aload_n (M := M_X12_dimension) dX12_dimension_0 rfl ?_
  refine x_getf (M := M_X12_dimension) (ci := 15) (C := RX12) (T := TX12) (N := 135) (ty := tyX12) cl15 dX12_dimension_1 ha 101 (by decide) t_2492 e101 ?_
  refine x_iload_n (M := M_X12_dimension) dX12_dimension_4 rfl ?_
  refine x_iald (M := M_X12_dimension) dX12_dimension_5 o101 i0 ?_
  refine x_if_ne (M := M_X12_dimension) (tgt := 29) dX12_dimension_6 (by decide) (fun q0 => ?_) (fun q0 => ?_)
  · refine x_aload_n (M := M_X12_dimension) dX12_dimension_29 rfl ?_
    refine x_getf (M := M_X12_dimension) (ci := 15) (C := RX12) (T := TX12) (N := 135) (ty := tyX12) cl15 dX12_dimension_30 ha 101 (by decide) t_2492 e101 ?_
    refine x_iload_n (M := M_X12_dimension) dX12_dimension_33 rfl ?_
    refine x_iald (M := M_X12_dimension) dX12_dimension_34 o101 (i1 q0) ?_
    refine x_iconst (M := M_X12_dimension) dX12_dimension_35 ?_
    refine x_icmp_ne (M := M_X12_dimension) (tgt := 54) dX12_dimension_36 (by decide) (fun q1 => ?_) (fun q1 => ?_)
    · refine x_aload_n (M := M_X12_dimension) dX12_dimension_54 rfl ?_
      refine x_getf (M := M_X12_dimension) (ci := 15) (C := RX12) (T := TX12) (N := 135) (ty := tyX12) cl15 dX12_dimension_55 ha 104 (by decide) t_2495 e104 ?_
      refine x_iload_n (M := M_X12_dimension) dX12_dimension_58 rfl ?_
      refine x_zald (M := M_X12_dimension) dX12_dimension_59 o104 (i2 q0 q1) ?_
      refine x_if_eq (M := M_X12_dimension) (tgt := 67) dX12_dimension_60 (by decide) (fun q2 => ?_) (fun q2 => ?_)
      · refine x_iconst (M := M_X12_dimension) dX12_dimension_67 ?_
        exact x_iret (M := M_X12_dimension) dX12_dimension_68 rfl ⟨by rw [f_X12_dimension, if_neg q0, if_neg q1, if_pos q2], rfl⟩ (Nat.le_of_ble_eq_true rfl) (Nat.le_of_ble_eq_true rfl)
      · refine x_iconst (M := M_X12_dimension) dX12_dimension_63 ?_
        refine x_goto (M := M_X12_dimension) (tgt := 68) dX12_dimension_64 (by decide) ?_
        exact x_iret (M := M_X12_dimension) dX12_dimension_68 rfl ⟨by rw [f_X12_dimension, if_neg q0, if_neg q1, if_neg q2], rfl⟩ (Nat.le_of_ble_eq_true rfl) (Nat.le_of_ble_eq_true rfl)
    · refine x_aload_n (M := M_X12_dimension) dX12_dimension_39 rfl ?_
      refine x_getf (M := M_X12_dimension) (ci := 15) (C := RX12) (T := TX12) (N := 135) (ty := tyX12) cl15 dX12_dimension_40 ha 103 (by decide) t_2494 e103 ?_
      refine x_iload_n (M := M_X12_dimension) dX12_dimension_43 rfl ?_
      refine x_iald (M := M_X12_dimension) dX12_dimension_44 o103 (i3 q0 q1) ?_
      refine x_if_le (M := M_X12_dimension) (tgt := 52) dX12_dimension_45 (by decide) (fun q2 => ?_) (fun q2 => ?_)
      · refine x_iconst (M := M_X12_dimension) dX12_dimension_52 ?_
        exact x_iret (M := M_X12_dimension) dX12_dimension_53 rfl ⟨by rw [f_X12_dimension, if_neg q0, if_pos q1, if_pos q2], rfl⟩ (Nat.le_of_ble_eq_true rfl) (Nat.le_of_ble_eq_true rfl)
      · refine x_iconst (M := M_X12_dimension) dX12_dimension_48 ?_
        refine x_goto (M := M_X12_dimension) (tgt := 53) dX12_dimension_49 (by decide) ?_
        exact x_iret (M := M_X12_dimension) dX12_dimension_53 rfl ⟨by rw [f_X12_dimension, if_neg q0, if_pos q1, if_neg q2], rfl⟩ (Nat.le_of_ble_eq_true rfl) (Nat.le_of_ble_eq_true rfl)
  · refine x_aload_n (M := M_X12_dimension) dX12_dimension_9 rfl ?_
    refine x_getf (M := M_X12_dimension) (ci := 15) (C := RX12) (T := TX12) (N := 135) (ty := tyX12) cl15 dX12_dimension_10 ha 11 (by decide) t_2402 e11 ?_
    refine x_aload_n (M := M_X12_dimension) dX12_dimension_13 rfl ?_
    refine x_getf (M := M_X12_dimension) (ci := 15) (C := RX12) (T := TX12) (N := 135) (ty := tyX12) cl15 dX12_dimension_14 ha 100 (by decide) t_2491 e100 ?_
    refine x_iload_n (M := M_X12_dimension) dX12_dimension_17 rfl ?_
    refine x_iald (M := M_X12_dimension) dX12_dimension_18 o100 (i4 q0) ?_
    refine x_iald (M := M_X12_dimension) dX12_dimension_19 o11 (i5 q0) ?_
    refine x_if_le (M := M_X12_dimension) (tgt := 27) dX12_dimension_20 (by decide) (fun q1 => ?_) (fun q1 => ?_)
    · refine x_iconst (M := M_X12_dimension) dX12_dimension_27 ?_
      exact x_iret (M := M_X12_dimension) dX12_dimension_28 rfl ⟨by rw [f_X12_dimension, if_pos q0, if_pos q1], rfl⟩ (Nat.le_of_ble_eq_true rfl) (Nat.le_of_ble_eq_true rfl)
    · refine x_iconst (M := M_X12_dimension) dX12_dimension_23 ?_
      refine x_goto (M := M_X12_dimension) (tgt := 28) dX12_dimension_24 (by decide) ?_
      exact x_iret (M := M_X12_dimension) dX12_dimension_28 rfl ⟨by rw [f_X12_dimension, if_pos q0, if_neg q1], rfl⟩ (Nat.le_of_ble_eq_true rfl) (Nat.le_of_ble_eq_true rfl)
def f_X12_m (c107 : Nat → Int32) (w0 : Int32) : Int32 := if (c107 w0.toNatClampNeg) < 0 then (Int32.ofInt 0) else ((Int32.ofInt 1))
theorem b_X12_m (c107 : Nat → Int32) (w0 : Int32) : f_X12_m c107 w0 = 0 ∨ f_X12_m c107 w0 = 1 := (ite01 (Or.inl rfl) (Or.inr rfl))
theorem p_X12_m {l : Launch} {E : EE} (hl : l.stackTraces = false) {h : HP} {c107 : Nat → Int32} {w0 : Int32} {a : Nat} {fs : List Value} (ha : ob h a = some (.inr (15, fs))) {r107 n107 : Nat} (e107 : fs[107]? = some (.ref r107)) (o107 : ob h r107 = some (.inl (0, n107, .inl c107))) (i0 : vp_in w0 n107) : en_C l E M_X12_m 0 0 0 [.ref a, .int w0] h (pR (some (.int (f_X12_m c107 w0))) h) := by
  refine en_mk m_X12_m rfl hl (Nat.le_of_ble_eq_true rfl) ?_
  refine x_aload_n (M := M_X12_m) dX12_m_0 rfl ?_
  refine x_getf (M := M_X12_m) (ci := 15) (C := RX12) (T := TX12) (N := 135) (ty := tyX12) cl15 dX12_m_1 ha 107 (by decide) t_2498 e107 ?_
  refine x_iload_n (M := M_X12_m) dX12_m_4 rfl ?_
  refine x_iald (M := M_X12_m) dX12_m_5 o107 i0 ?_
  refine x_if_lt (M := M_X12_m) (tgt := 13) dX12_m_6 (by decide) (fun q0 => ?_) (fun q0 => ?_)
  · refine x_iconst (M := M_X12_m) dX12_m_13 ?_
    exact x_zret (M := M_X12_m) dX12_m_14 rfl (Or.inl rfl) ⟨by rw [f_X12_m, if_pos q0], rfl⟩ (Nat.le_of_ble_eq_true rfl) (Nat.le_of_ble_eq_true rfl)
  · refine x_iconst (M := M_X12_m) dX12_m_9 ?_
    refine x_goto (M := M_X12_m) (tgt := 14) dX12_m_10 (by decide) ?_
    exact x_zret (M := M_X12_m) dX12_m_14 rfl (Or.inr rfl) ⟨by rw [f_X12_m, if_neg q0], rfl⟩ (Nat.le_of_ble_eq_true rfl) (Nat.le_of_ble_eq_true rfl)
def f_X12_turnOf (c117 : Nat → Int64) (c118 : Nat → Int64) (w0 : Int32) (w1 : Int32) (w2 : Int32) : Int32 := (f_X12_turn (c117 w0.toNatClampNeg) (c118 w0.toNatClampNeg) (c117 w1.toNatClampNeg) (c118 w1.toNatClampNeg) (c117 w2.toNatClampNeg) (c118 w2.toNatClampNeg))
theorem p_X12_turnOf {l : Launch} {E : EE} (hl : l.stackTraces = false) {h : HP} {c117 : Nat → Int64} {c118 : Nat → Int64} {w0 : Int32} {w1 : Int32} {w2 : Int32} {a : Nat} {fs : List Value} (ha : ob h a = some (.inr (15, fs))) {r117 n117 : Nat} (e117 : fs[117]? = some (.ref r117)) (o117 : ob h r117 = some (.inl (1, n117, .inr (.inl c117)))) {r118 n118 : Nat} (e118 : fs[118]? = some (.ref r118)) (o118 : ob h r118 = some (.inl (1, n118, .inr (.inl c118)))) (i0 : vp_in w0 n117) (i1 : vp_in w0 n118) (i2 : vp_in w1 n117) (i3 : vp_in w1 n118) (i4 : vp_in w2 n117) (i5 : vp_in w2 n118) : en_C l E M_X12_turnOf 2 0 0 [.ref a, .int w0, .int w1, .int w2] h (pR (some (.int (f_X12_turnOf c117 c118 w0 w1 w2))) h) := by
  refine en_mk m_X12_turnOf rfl hl (Nat.le_of_ble_eq_true rfl) ?_
  refine x_aload_n (M := M_X12_turnOf) dX12_turnOf_0 rfl ?_
  refine x_getf (M := M_X12_turnOf) (ci := 15) (C := RX12) (T := TX12) (N := 135) (ty := tyX12) cl15 dX12_turnOf_1 ha 117 (by decide) t_2508 e117 ?_
  refine x_iload_n (M := M_X12_turnOf) dX12_turnOf_4 rfl ?_
  refine x_lald (M := M_X12_turnOf) dX12_turnOf_5 o117 i0 ?_
  refine x_aload_n (M := M_X12_turnOf) dX12_turnOf_6 rfl ?_
  refine x_getf (M := M_X12_turnOf) (ci := 15) (C := RX12) (T := TX12) (N := 135) (ty := tyX12) cl15 dX12_turnOf_7 ha 118 (by decide) t_2509 e118 ?_
  refine x_iload_n (M := M_X12_turnOf) dX12_turnOf_10 rfl ?_
  refine x_lald (M := M_X12_turnOf) dX12_turnOf_11 o118 i1 ?_
  refine x_aload_n (M := M_X12_turnOf) dX12_turnOf_12 rfl ?_
  refine x_getf (M := M_X12_turnOf) (ci := 15) (C := RX12) (T := TX12) (N := 135) (ty := tyX12) cl15 dX12_turnOf_13 ha 117 (by decide) t_2508 e117 ?_
  refine x_iload_n (M := M_X12_turnOf) dX12_turnOf_16 rfl ?_
  refine x_lald (M := M_X12_turnOf) dX12_turnOf_17 o117 i2 ?_
  refine x_aload_n (M := M_X12_turnOf) dX12_turnOf_18 rfl ?_
  refine x_getf (M := M_X12_turnOf) (ci := 15) (C := RX12) (T := TX12) (N := 135) (ty := tyX12) cl15 dX12_turnOf_19 ha 118 (by decide) t_2509 e118 ?_
  refine x_iload_n (M := M_X12_turnOf) dX12_turnOf_22 rfl ?_
  refine x_lald (M := M_X12_turnOf) dX12_turnOf_23 o118 i3 ?_
  refine x_aload_n (M := M_X12_turnOf) dX12_turnOf_24 rfl ?_
  refine x_getf (M := M_X12_turnOf) (ci := 15) (C := RX12) (T := TX12) (N := 135) (ty := tyX12) cl15 dX12_turnOf_25 ha 117 (by decide) t_2508 e117 ?_
  refine x_iload_n (M := M_X12_turnOf) dX12_turnOf_28 rfl ?_
  refine x_lald (M := M_X12_turnOf) dX12_turnOf_29 o117 i4 ?_
  refine x_aload_n (M := M_X12_turnOf) dX12_turnOf_30 rfl ?_
  refine x_getf (M := M_X12_turnOf) (ci := 15) (C := RX12) (T := TX12) (N := 135) (ty := tyX12) cl15 dX12_turnOf_31 ha 118 (by decide) t_2509 e118 ?_
  refine x_iload_n (M := M_X12_turnOf) dX12_turnOf_34 rfl ?_
  refine x_lald (M := M_X12_turnOf) dX12_turnOf_35 o118 i5 ?_
  refine x_callSR (M := M_X12_turnOf) (M' := M_X12_turn) rfl rfl dX12_turnOf_36 m_X12_turn t_3262 t_3263 (p_X12_turn hl) rfl rfl (Nat.le_of_ble_eq_true rfl) (Nat.le_of_ble_eq_true rfl) (Nat.le_of_ble_eq_true rfl) (Nat.le_of_ble_eq_true rfl) ?_
  exact x_iret (M := M_X12_turnOf) dX12_turnOf_39 rfl ⟨rfl, rfl⟩ (Nat.le_of_ble_eq_true rfl) (Nat.le_of_ble_eq_true rfl)
def f_X12_isLess (c117 : Nat → Int64) (c118 : Nat → Int64) (w0 : Int32) (w1 : Int32) : Int32 := (f_X12_isBefore (c117 w0.toNatClampNeg) (c118 w0.toNatClampNeg) (c117 w1.toNatClampNeg) (c118 w1.toNatClampNeg))
theorem b_X12_isLess (c117 : Nat → Int64) (c118 : Nat → Int64) (w0 : Int32) (w1 : Int32) : f_X12_isLess c117 c118 w0 w1 = 0 ∨ f_X12_isLess c117 c118 w0 w1 = 1 := (b_X12_isBefore _ _ _ _)
theorem p_X12_isLess {l : Launch} {E : EE} (hl : l.stackTraces = false) {h : HP} {c117 : Nat → Int64} {c118 : Nat → Int64} {w0 : Int32} {w1 : Int32} {a : Nat} {fs : List Value} (ha : ob h a = some (.inr (15, fs))) {r117 n117 : Nat} (e117 : fs[117]? = some (.ref r117)) (o117 : ob h r117 = some (.inl (1, n117, .inr (.inl c117)))) {r118 n118 : Nat} (e118 : fs[118]? = some (.ref r118)) (o118 : ob h r118 = some (.inl (1, n118, .inr (.inl c118)))) (i0 : vp_in w0 n117) (i1 : vp_in w0 n118) (i2 : vp_in w1 n117) (i3 : vp_in w1 n118) : en_C l E M_X12_isLess 1 0 0 [.ref a, .int w0, .int w1] h (pR (some (.int (f_X12_isLess c117 c118 w0 w1))) h) := by
  refine en_mk m_X12_isLess rfl hl (Nat.le_of_ble_eq_true rfl) ?_
  refine x_aload_n (M := M_X12_isLess) dX12_isLess_0 rfl ?_
  refine x_getf (M := M_X12_isLess) (ci := 15) (C := RX12) (T := TX12) (N := 135) (ty := tyX12) cl15 dX12_isLess_1 ha 117 (by decide) t_2508 e117 ?_
  refine x_iload_n (M := M_X12_isLess) dX12_isLess_4 rfl ?_
  refine x_lald (M := M_X12_isLess) dX12_isLess_5 o117 i0 ?_
  refine x_aload_n (M := M_X12_isLess) dX12_isLess_6 rfl ?_
  refine x_getf (M := M_X12_isLess) (ci := 15) (C := RX12) (T := TX12) (N := 135) (ty := tyX12) cl15 dX12_isLess_7 ha 118 (by decide) t_2509 e118 ?_
  refine x_iload_n (M := M_X12_isLess) dX12_isLess_10 rfl ?_
  refine x_lald (M := M_X12_isLess) dX12_isLess_11 o118 i1 ?_
  refine x_aload_n (M := M_X12_isLess) dX12_isLess_12 rfl ?_
  refine x_getf (M := M_X12_isLess) (ci := 15) (C := RX12) (T := TX12) (N := 135) (ty := tyX12) cl15 dX12_isLess_13 ha 117 (by decide) t_2508 e117 ?_
  refine x_iload_n (M := M_X12_isLess) dX12_isLess_16 rfl ?_
  refine x_lald (M := M_X12_isLess) dX12_isLess_17 o117 i2 ?_
  refine x_aload_n (M := M_X12_isLess) dX12_isLess_18 rfl ?_
  refine x_getf (M := M_X12_isLess) (ci := 15) (C := RX12) (T := TX12) (N := 135) (ty := tyX12) cl15 dX12_isLess_19 ha 118 (by decide) t_2509 e118 ?_
  refine x_iload_n (M := M_X12_isLess) dX12_isLess_22 rfl ?_
  refine x_lald (M := M_X12_isLess) dX12_isLess_23 o118 i3 ?_
  refine x_callSR (M := M_X12_isLess) (M' := M_X12_isBefore) rfl rfl dX12_isLess_24 m_X12_isBefore t_3275 t_3276 (p_X12_isBefore hl) rfl rfl (Nat.le_of_ble_eq_true rfl) (Nat.le_of_ble_eq_true rfl) (Nat.le_of_ble_eq_true rfl) (Nat.le_of_ble_eq_true rfl) ?_
  exact x_zret (M := M_X12_isLess) dX12_isLess_27 rfl (b_X12_isBefore _ _ _ _) ⟨rfl, rfl⟩ (Nat.le_of_ble_eq_true rfl) (Nat.le_of_ble_eq_true rfl)
def f_X12_wayTo (c117 : Nat → Int64) (c118 : Nat → Int64) (w0 : Int32) (w1 : Int32) : Int64 := if 0 ≤ (lg_cmp ((c117 w1.toNatClampNeg) - (c117 w0.toNatClampNeg)) (Int64.ofNat ((0 : Fin 2) : Nat))) then if 0 ≤ (lg_cmp ((c118 w1.toNatClampNeg) - (c118 w0.toNatClampNeg)) (Int64.ofNat ((0 : Fin 2) : Nat))) then (((c117 w1.toNatClampNeg) - (c117 w0.toNatClampNeg)) + ((c118 w1.toNatClampNeg) - (c118 w0.toNatClampNeg))) else ((((c117 w1.toNatClampNeg) - (c117 w0.toNatClampNeg)) + (-((c118 w1.toNatClampNeg) - (c118 w0.toNatClampNeg))))) else (if 0 ≤ (lg_cmp ((c118 w1.toNatClampNeg) - (c118 w0.toNatClampNeg)) (Int64.ofNat ((0 : Fin 2) : Nat))) then ((-((c117 w1.toNatClampNeg) - (c117 w0.toNatClampNeg))) + ((c118 w1.toNatClampNeg) - (c118 w0.toNatClampNeg))) else (((-((c117 w1.toNatClampNeg) - (c117 w0.toNatClampNeg))) + (-((c118 w1.toNatClampNeg) - (c118 w0.toNatClampNeg))))))
theorem p_X12_wayTo {l : Launch} {E : EE} (hl : l.stackTraces = false) {h : HP} {c117 : Nat → Int64} {c118 : Nat → Int64} {w0 : Int32} {w1 : Int32} {a : Nat} {fs : List Value} (ha : ob h a = some (.inr (15, fs))) {r117 n117 : Nat} (e117 : fs[117]? = some (.ref r117)) (o117 : ob h r117 = some (.inl (1, n117, .inr (.inl c117)))) {r118 n118 : Nat} (e118 : fs[118]? = some (.ref r118)) (o118 : ob h r118 = some (.inl (1, n118, .inr (.inl c118)))) (i0 : vp_in w1 n117) (i1 : vp_in w0 n117) (i2 : vp_in w1 n118) (i3 : vp_in w0 n118) : en_C l E M_X12_wayTo 0 0 0 [.ref a, .int w0, .int w1] h (pR (some (.long (f_X12_wayTo c117 c118 w0 w1))) h) := by
  refine en_mk m_X12_wayTo rfl hl (Nat.le_of_ble_eq_true rfl) ?_
  refine x_aload_n (M := M_X12_wayTo) dX12_wayTo_0 rfl ?_
  refine x_getf (M := M_X12_wayTo) (ci := 15) (C := RX12) (T := TX12) (N := 135) (ty := tyX12) cl15 dX12_wayTo_1 ha 117 (by decide) t_2508 e117 ?_
  refine x_iload_n (M := M_X12_wayTo) dX12_wayTo_4 rfl ?_
  refine x_lald (M := M_X12_wayTo) dX12_wayTo_5 o117 i0 ?_
  refine x_aload_n (M := M_X12_wayTo) dX12_wayTo_6 rfl ?_
  refine x_getf (M := M_X12_wayTo) (ci := 15) (C := RX12) (T := TX12) (N := 135) (ty := tyX12) cl15 dX12_wayTo_7 ha 117 (by decide) t_2508 e117 ?_
  refine x_iload_n (M := M_X12_wayTo) dX12_wayTo_10 rfl ?_
  refine x_lald (M := M_X12_wayTo) dX12_wayTo_11 o117 i1 ?_
  refine x_lsub (M := M_X12_wayTo) dX12_wayTo_12 ?_
  refine x_lstore_n (M := M_X12_wayTo) dX12_wayTo_13 (by decide) rfl ?_
  refine x_norm (lv' := [some (.ref a), some (.int w0), some (.int w1), some (.long ((c117 w1.toNatClampNeg) - (c117 w0.toNatClampNeg))), none, none, none]) rfl rfl rfl rfl rfl ?_
  refine x_aload_n (M := M_X12_wayTo) dX12_wayTo_14 rfl ?_
  refine x_getf (M := M_X12_wayTo) (ci := 15) (C := RX12) (T := TX12) (N := 135) (ty := tyX12) cl15 dX12_wayTo_15 ha 118 (by decide) t_2509 e118 ?_
  refine x_iload_n (M := M_X12_wayTo) dX12_wayTo_18 rfl ?_
  refine x_lald (M := M_X12_wayTo) dX12_wayTo_19 o118 i2 ?_
  refine x_aload_n (M := M_X12_wayTo) dX12_wayTo_20 rfl ?_
  refine x_getf (M := M_X12_wayTo) (ci := 15) (C := RX12) (T := TX12) (N := 135) (ty := tyX12) cl15 dX12_wayTo_21 ha 118 (by decide) t_2509 e118 ?_
  refine x_iload_n (M := M_X12_wayTo) dX12_wayTo_24 rfl ?_
  refine x_lald (M := M_X12_wayTo) dX12_wayTo_25 o118 i3 ?_
  refine x_lsub (M := M_X12_wayTo) dX12_wayTo_26 ?_
  refine x_lstore (M := M_X12_wayTo) dX12_wayTo_27 (by decide) rfl ?_
  refine x_norm (lv' := [some (.ref a), some (.int w0), some (.int w1), some (.long ((c117 w1.toNatClampNeg) - (c117 w0.toNatClampNeg))), none, some (.long ((c118 w1.toNatClampNeg) - (c118 w0.toNatClampNeg))), none]) rfl rfl rfl rfl rfl ?_
  refine x_lload_n (M := M_X12_wayTo) dX12_wayTo_29 rfl ?_
  refine x_lconst (M := M_X12_wayTo) dX12_wayTo_30 ?_
  refine x_lcmp (M := M_X12_wayTo) dX12_wayTo_31 ?_
  refine x_if_ge (M := M_X12_wayTo) (tgt := 40) dX12_wayTo_32 (by decide) (fun q0 => ?_) (fun q0 => ?_)
  · refine x_lload_n (M := M_X12_wayTo) dX12_wayTo_40 rfl ?_
    refine x_lload (M := M_X12_wayTo) dX12_wayTo_41 rfl ?_
    refine x_lconst (M := M_X12_wayTo) dX12_wayTo_43 ?_
    refine x_lcmp (M := M_X12_wayTo) dX12_wayTo_44 ?_
    refine x_if_ge (M := M_X12_wayTo) (tgt := 54) dX12_wayTo_45 (by decide) (fun q1 => ?_) (fun q1 => ?_)
    · refine x_lload (M := M_X12_wayTo) dX12_wayTo_54 rfl ?_
      refine x_ladd (M := M_X12_wayTo) dX12_wayTo_56 ?_
      exact x_lret (M := M_X12_wayTo) dX12_wayTo_57 rfl ⟨by rw [f_X12_wayTo, if_pos q0, if_pos q1], rfl⟩ (Nat.le_of_ble_eq_true rfl) (Nat.le_of_ble_eq_true rfl)
    · refine x_lload (M := M_X12_wayTo) dX12_wayTo_48 rfl ?_
      refine x_lneg (M := M_X12_wayTo) dX12_wayTo_50 ?_
      refine x_goto (M := M_X12_wayTo) (tgt := 56) dX12_wayTo_51 (by decide) ?_
      refine x_ladd (M := M_X12_wayTo) dX12_wayTo_56 ?_
      exact x_lret (M := M_X12_wayTo) dX12_wayTo_57 rfl ⟨by rw [f_X12_wayTo, if_pos q0, if_neg q1], rfl⟩ (Nat.le_of_ble_eq_true rfl) (Nat.le_of_ble_eq_true rfl)
  · refine x_lload_n (M := M_X12_wayTo) dX12_wayTo_35 rfl ?_
    refine x_lneg (M := M_X12_wayTo) dX12_wayTo_36 ?_
    refine x_goto (M := M_X12_wayTo) (tgt := 41) dX12_wayTo_37 (by decide) ?_
    refine x_lload (M := M_X12_wayTo) dX12_wayTo_41 rfl ?_
    refine x_lconst (M := M_X12_wayTo) dX12_wayTo_43 ?_
    refine x_lcmp (M := M_X12_wayTo) dX12_wayTo_44 ?_
    refine x_if_ge (M := M_X12_wayTo) (tgt := 54) dX12_wayTo_45 (by decide) (fun q1 => ?_) (fun q1 => ?_)
    · refine x_lload (M := M_X12_wayTo) dX12_wayTo_54 rfl ?_
      refine x_ladd (M := M_X12_wayTo) dX12_wayTo_56 ?_
      exact x_lret (M := M_X12_wayTo) dX12_wayTo_57 rfl ⟨by rw [f_X12_wayTo, if_neg q0, if_pos q1], rfl⟩ (Nat.le_of_ble_eq_true rfl) (Nat.le_of_ble_eq_true rfl)
    · refine x_lload (M := M_X12_wayTo) dX12_wayTo_48 rfl ?_
      refine x_lneg (M := M_X12_wayTo) dX12_wayTo_50 ?_
      refine x_goto (M := M_X12_wayTo) (tgt := 56) dX12_wayTo_51 (by decide) ?_
      refine x_ladd (M := M_X12_wayTo) dX12_wayTo_56 ?_
      exact x_lret (M := M_X12_wayTo) dX12_wayTo_57 rfl ⟨by rw [f_X12_wayTo, if_neg q0, if_neg q1], rfl⟩ (Nat.le_of_ble_eq_true rfl) (Nat.le_of_ble_eq_true rfl)
end PUR
