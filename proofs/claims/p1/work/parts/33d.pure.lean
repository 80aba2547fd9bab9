section PUR
def f_X12_wrong (w0 : Int32) (w1 : Int32) : Int32 := (Int32.ofInt 0)
theorem b_X12_wrong (w0 : Int32) (w1 : Int32) : f_X12_wrong w0 w1 = 0 ∨ f_X12_wrong w0 w1 = 1 := (Or.inl rfl)
def F_X12_wrong (fs : List Value) (w0 : Int32) (w1 : Int32) : List Value := ((fs.set 7 (.int w0)).set 8 (.int w1))
theorem l_X12_wrong {fs : List Value} {w0 : Int32} {w1 : Int32} : (F_X12_wrong fs w0 w1).length = fs.length := by
  unfold F_X12_wrong
  first | rfl | simp only [List.length_set]
theorem k_X12_wrong {fs : List Value} {w0 : Int32} {w1 : Int32} {k : Nat} (hk : k ∉ ([7, 8] : List Nat)) : (F_X12_wrong fs w0 w1)[k]? = fs[k]? := by
  simp only [List.mem_cons, List.not_mem_nil, or_false, not_or] at hk
  unfold F_X12_wrong
  first | rfl | simp only [List.getElem?_set_ne (by omega : 7 ≠ k), List.getElem?_set_ne (by omega : 8 ≠ k)]
def V7_X12_wrong (w0 : Int32) (w1 : Int32) : Int32 := w0
theorem v7_X12_wrong {fs : List Value} {w0 : Int32} {w1 : Int32} (hn : fs.length = 135) : (F_X12_wrong fs w0 w1)[7]? = some (.int (V7_X12_wrong w0 w1)) := by
  unfold F_X12_wrong V7_X12_wrong
  exact (gs_ne (by decide) (gs_eq (by simp only [List.length_set, hn]; decide)))
def V8_X12_wrong (w0 : Int32) (w1 : Int32) : Int32 := w1
theorem v8_X12_wrong {fs : List Value} {w0 : Int32} {w1 : Int32} (hn : fs.length = 135) : (F_X12_wrong fs w0 w1)[8]? = some (.int (V8_X12_wrong w0 w1)) := by
  unfold F_X12_wrong V8_X12_wrong
  exact (gs_eq (by simp only [List.length_set, hn]; decide))
theorem p_X12_wrong {l : Launch} {E : EE} (hl : l.stackTraces = false) {h : HP} {w0 : Int32} {w1 : Int32} {a : Nat} {fs : List Value} (ha : ob h a = some (.inr (15, fs))) (hn : fs.length = 135) : en_C l E M_X12_wrong 0 0 0 [.ref a, .int w0, .int w1] h (pR (some (.int (f_X12_wrong w0 w1))) (stt h a (.inr (15, F_X12_wrong fs w0 w1)))) := by
  refine en_mk m_X12_wrong rfl hl (Nat.le_of_ble_eq_true rfl) ?_
  refine x_heap (h' := (stt h a (.inr (15, fs)))) (by rw [stt_id ha]) ?_
  refine x_aload_n (M := M_X12_wrong) dX12_wrong_0 rfl ?_
  refine x_iload_n (M := M_X12_wrong) dX12_wrong_1 rfl ?_
  refine x_put (M := M_X12_wrong) (ci := 15) (C := RX12) (T := TX12) (N := 135) (ty := tyX12) cl15 dX12_wrong_2 (ob_self ha) 7 (by decide) t_2398 (Or.inl rfl) (by simp only [List.length_set, hn]; decide) rfl ?_
  refine x_heap (h' := (stt h a (.inr (15, (fs.set 7 (.int w0)))))) (by rw [stt_stt (a := a)]) ?_
  refine x_aload_n (M := M_X12_wrong) dX12_wrong_5 rfl ?_
  refine x_iload_n (M := M_X12_wrong) dX12_wrong_6 rfl ?_
  refine x_put (M := M_X12_wrong) (ci := 15) (C := RX12) (T := TX12) (N := 135) (ty := tyX12) cl15 dX12_wrong_7 (ob_self ha) 8 (by decide) t_2399 (Or.inl rfl) (by simp only [List.length_set, hn]; decide) rfl ?_
  refine x_heap (h' := (stt h a (.inr (15, ((fs.set 7 (.int w0)).set 8 (.int w1)))))) (by rw [stt_stt (a := a)]) ?_
  refine x_iconst (M := M_X12_wrong) dX12_wrong_10 ?_
  exact x_zret (M := M_X12_wrong) dX12_wrong_11 rfl (Or.inl rfl) ⟨rfl, by rw [F_X12_wrong]⟩ (Nat.le_of_ble_eq_true rfl) (Nat.le_of_ble_eq_true rfl)
def f_X12_here (g17 : Int32) (g18 : Int32) (c3 : Nat → Int32) : Int32 := if g18 ≤ g17 then (Int32.ofInt (-1)) else (((c3 g17.toNatClampNeg) &&& (Int16.ofInt 255).toInt32))
theorem p_X12_here {l : Launch} {E : EE} (hl : l.stackTraces = false) {h : HP} {g17 : Int32} {g18 : Int32} {c3 : Nat → Int32} {a : Nat} {fs : List Value} (ha : ob h a = some (.inr (15, fs))) (e17 : fs[17]? = some (.int g17)) (e18 : fs[18]? = some (.int g18)) {r3 n3 : Nat} (e3 : fs[3]? = some (.ref r3)) (o3 : ob h r3 = some (.inl (2, n3, .inl c3))) (i0 : (¬ g18 ≤ g17) → vp_in g17 n3) : en_C l E M_X12_here 0 0 0 [.ref a] h (pR (some (.int (f_X12_here g17 g18 c3))) h) := by
  refine en_mk m_X12_here rfl hl (Nat.le_of_ble_eq_true rfl) ?_
  refine x_aload_n (M := M_X12_here) dX12_here_0 rfl ?_
  refine x_getf (M := M_X12_here) (ci := 15) (C := RX12) (T := TX12) (N := 135) (ty := tyX12) cl15 dX12_here_1 ha 17 (by decide) t_2408 e17 ?_
  refine x_aload_n (M := M_X12_here) dX12_here_4 rfl ?_
  refine x_getf (M := M_X12_here) (ci := 15) (C := RX12) (T := TX12) (N := 135) (ty := tyX12) cl15 dX12_here_5 ha 18 (by decide) t_2409 e18 ?_
  refine x_icmp_ge (M := M_X12_here) (tgt := 27) dX12_here_8 (by decide) (fun q0 => ?_) (fun q0 => ?_)
  · refine x_iconst (M := M_X12_here) dX12_here_27 ?_
    exact x_iret (M := M_X12_here) dX12_here_28 rfl ⟨by rw [f_X12_here, if_pos q0], rfl⟩ (Nat.le_of_ble_eq_true rfl) (Nat.le_of_ble_eq_true rfl)
  · refine x_aload_n (M := M_X12_here) dX12_here_11 rfl ?_
    refine x_getf (M := M_X12_here) (ci := 15) (C := RX12) (T := TX12) (N := 135) (ty := tyX12) cl15 dX12_here_12 ha 3 (by decide) t_2394 e3 ?_
    refine x_aload_n (M := M_X12_here) dX12_here_15 rfl ?_
    refine x_getf (M := M_X12_here) (ci := 15) (C := RX12) (T := TX12) (N := 135) (ty := tyX12) cl15 dX12_here_16 ha 17 (by decide) t_2408 e17 ?_
    refine x_bald (M := M_X12_here) dX12_here_19 o3 (i0 q0) ?_
    refine x_sipush (M := M_X12_here) dX12_here_20 ?_
    refine x_iand (M := M_X12_here) dX12_here_23 ?_
    refine x_goto (M := M_X12_here) (tgt := 28) dX12_here_24 (by decide) ?_
    exact x_iret (M := M_X12_here) dX12_here_28 rfl ⟨by rw [f_X12_here, if_neg q0], rfl⟩ (Nat.le_of_ble_eq_true rfl) (Nat.le_of_ble_eq_true rfl)
def f_X12_isBlank (w0 : Int32) : Int32 := if w0 = (Int8.ofInt 32).toInt32 then (Int32.ofInt 1) else (if w0 = (Int8.ofInt 9).toInt32 then (Int32.ofInt 1) else (if w0 = (Int8.ofInt 10).toInt32 then (Int32.ofInt 1) else (if w0 = (Int8.ofInt 13).toInt32 then (Int32.ofInt 1) else ((Int32.ofInt 0)))))
theorem b_X12_isBlank (w0 : Int32) : f_X12_isBlank w0 = 0 ∨ f_X12_isBlank w0 = 1 := (ite01 (Or.inr rfl) (ite01 (Or.inr rfl) (ite01 (Or.inr rfl) (ite01 (Or.inr rfl) (Or.inl rfl)))))
theorem p_X12_isBlank {l : Launch} {E : EE} (hl : l.stackTraces = false) {h : HP} {w0 : Int32} : en_C l E M_X12_isBlank 0 0 0 [.int w0] h (pR (some (.int (f_X12_isBlank w0))) h) := by
  refine en_mk m_X12_isBlank rfl hl (Nat.le_of_ble_eq_true rfl) ?_
  refine x_iload_n (M := M_X12_isBlank) dX12_isBlank_0 rfl ?_
  refine x_bipush (M := M_X12_isBlank) dX12_isBlank_1 ?_
  refine x_icmp_eq (M := M_X12_isBlank) (tgt := 24) dX12_isBlank_3 (by decide) (fun q0 => ?_) (fun q0 => ?_)
  · refine x_iconst (M := M_X12_isBlank) dX12_isBlank_24 ?_
    refine x_goto (M := M_X12_isBlank) (tgt := 29) dX12_isBlank_25 (by decide) ?_
    exact x_zret (M := M_X12_isBlank) dX12_isBlank_29 rfl (Or.inr rfl) ⟨by rw [f_X12_isBlank, if_pos q0], rfl⟩ (Nat.le_of_ble_eq_true rfl) (Nat.le_of_ble_eq_true rfl)
  · refine x_iload_n (M := M_X12_isBlank) dX12_isBlank_6 rfl ?_
    refine x_bipush (M := M_X12_isBlank) dX12_isBlank_7 ?_
    refine x_icmp_eq (M := M_X12_isBlank) (tgt := 24) dX12_isBlank_9 (by decide) (fun q1 => ?_) (fun q1 => ?_)
    · refine x_iconst (M := M_X12_isBlank) dX12_isBlank_24 ?_
      refine x_goto (M := M_X12_isBlank) (tgt := 29) dX12_isBlank_25 (by decide) ?_
      exact x_zret (M := M_X12_isBlank) dX12_isBlank_29 rfl (Or.inr rfl) ⟨by rw [f_X12_isBlank, if_neg q0, if_pos q1], rfl⟩ (Nat.le_of_ble_eq_true rfl) (Nat.le_of_ble_eq_true rfl)
    · refine x_iload_n (M := M_X12_isBlank) dX12_isBlank_12 rfl ?_
      refine x_bipush (M := M_X12_isBlank) dX12_isBlank_13 ?_
      refine x_icmp_eq (M := M_X12_isBlank) (tgt := 24) dX12_isBlank_15 (by decide) (fun q2 => ?_) (fun q2 => ?_)
      · refine x_iconst (M := M_X12_isBlank) dX12_isBlank_24 ?_
        refine x_goto (M := M_X12_isBlank) (tgt := 29) dX12_isBlank_25 (by decide) ?_
        exact x_zret (M := M_X12_isBlank) dX12_isBlank_29 rfl (Or.inr rfl) ⟨by rw [f_X12_isBlank, if_neg q0, if_neg q1, if_pos q2], rfl⟩ (Nat.le_of_ble_eq_true rfl) (Nat.le_of_ble_eq_true rfl)
      · refine x_iload_n (M := M_X12_isBlank) dX12_isBlank_18 rfl ?_
        refine x_bipush (M := M_X12_isBlank) dX12_isBlank_19 ?_
        refine x_icmp_ne (M := M_X12_isBlank) (tgt := 28) dX12_isBlank_21 (by decide) (fun q3 => ?_) (fun q3 => ?_)
        · refine x_iconst (M := M_X12_isBlank) dX12_isBlank_28 ?_
          exact x_zret (M := M_X12_isBlank) dX12_isBlank_29 rfl (Or.inl rfl) ⟨by rw [f_X12_isBlank, if_neg q0, if_neg q1, if_neg q2, if_neg q3], rfl⟩ (Nat.le_of_ble_eq_true rfl) (Nat.le_of_ble_eq_true rfl)
        · refine x_iconst (M := M_X12_isBlank) dX12_isBlank_24 ?_
          refine x_goto (M := M_X12_isBlank) (tgt := 29) dX12_isBlank_25 (by decide) ?_
          exact x_zret (M := M_X12_isBlank) dX12_isBlank_29 rfl (Or.inr rfl) ⟨by rw [f_X12_isBlank, if_neg q0, if_neg q1, if_neg q2, if_pos q3], rfl⟩ (Nat.le_of_ble_eq_true rfl) (Nat.le_of_ble_eq_true rfl)
def f_X12_isLetter (w0 : Int32) : Int32 := if w0 < (Int8.ofInt 97).toInt32 then if w0 < (Int8.ofInt 65).toInt32 then (Int32.ofInt 0) else (if (Int8.ofInt 90).toInt32 < w0 then (Int32.ofInt 0) else ((Int32.ofInt 1))) else (if w0 ≤ (Int8.ofInt 122).toInt32 then (Int32.ofInt 1) else (if w0 < (Int8.ofInt 65).toInt32 then (Int32.ofInt 0) else (if (Int8.ofInt 90).toInt32 < w0 then (Int32.ofInt 0) else ((Int32.ofInt 1)))))
theorem b_X12_isLetter (w0 : Int32) : f_X12_isLetter w0 = 0 ∨ f_X12_isLetter w0 = 1 := (ite01 (ite01 (Or.inl rfl) (ite01 (Or.inl rfl) (Or.inr rfl))) (ite01 (Or.inr rfl) (ite01 (Or.inl rfl) (ite01 (Or.inl rfl) (Or.inr rfl)))))
theorem p_X12_isLetter {l : Launch} {E : EE} (hl : l.stackTraces = false) {h : HP} {w0 : Int32} : en_C l E M_X12_isLetter 0 0 0 [.int w0] h (pR (some (.int (f_X12_isLetter w0))) h) := by
  refine en_mk m_X12_isLetter rfl hl (Nat.le_of_ble_eq_true rfl) ?_
  refine x_iload_n (M := M_X12_isLetter) dX12_isLetter_0 rfl ?_
  refine x_bipush (M := M_X12_isLetter) dX12_isLetter_1 ?_
  refine x_icmp_lt (M := M_X12_isLetter) (tgt := 12) dX12_isLetter_3 (by decide) (fun q0 => ?_) (fun q0 => ?_)
  · refine x_iload_n (M := M_X12_isLetter) dX12_isLetter_12 rfl ?_
    refine x_bipush (M := M_X12_isLetter) dX12_isLetter_13 ?_
    refine x_icmp_lt (M := M_X12_isLetter) (tgt := 28) dX12_isLetter_15 (by decide) (fun q1 => ?_) (fun q1 => ?_)
    · refine x_iconst (M := M_X12_isLetter) dX12_isLetter_28 ?_
      exact x_zret (M := M_X12_isLetter) dX12_isLetter_29 rfl (Or.inl rfl) ⟨by rw [f_X12_isLetter, if_pos q0, if_pos q1], rfl⟩ (Nat.le_of_ble_eq_true rfl) (Nat.le_of_ble_eq_true rfl)
    · refine x_iload_n (M := M_X12_isLetter) dX12_isLetter_18 rfl ?_
      refine x_bipush (M := M_X12_isLetter) dX12_isLetter_19 ?_
      refine x_icmp_gt (M := M_X12_isLetter) (tgt := 28) dX12_isLetter_21 (by decide) (fun q2 => ?_) (fun q2 => ?_)
      · refine x_iconst (M := M_X12_isLetter) dX12_isLetter_28 ?_
        exact x_zret (M := M_X12_isLetter) dX12_isLetter_29 rfl (Or.inl rfl) ⟨by rw [f_X12_isLetter, if_pos q0, if_neg q1, if_pos q2], rfl⟩ (Nat.le_of_ble_eq_true rfl) (Nat.le_of_ble_eq_true rfl)
      · refine x_iconst (M := M_X12_isLetter) dX12_isLetter_24 ?_
        refine x_goto (M := M_X12_isLetter) (tgt := 29) dX12_isLetter_25 (by decide) ?_
        exact x_zret (M := M_X12_isLetter) dX12_isLetter_29 rfl (Or.inr rfl) ⟨by rw [f_X12_isLetter, if_pos q0, if_neg q1, if_neg q2], rfl⟩ (Nat.le_of_ble_eq_true rfl) (Nat.le_of_ble_eq_true rfl)
  · refine x_iload_n (M := M_X12_isLetter) dX12_isLetter_6 rfl ?_
    refine x_bipush (M := M_X12_isLetter) dX12_isLetter_7 ?_
    refine x_icmp_le (M := M_X12_isLetter) (tgt := 24) dX12_isLetter_9 (by decide) (fun q1 => ?_) (fun q1 => ?_)
    · refine x_iconst (M := M_X12_isLetter) dX12_isLetter_24 ?_
      refine x_goto (M := M_X12_isLetter) (tgt := 29) dX12_isLetter_25 (by decide) ?_
      exact x_zret (M := M_X12_isLetter) dX12_isLetter_29 rfl (Or.inr rfl) ⟨by rw [f_X12_isLetter, if_neg q0, if_pos q1], rfl⟩ (Nat.le_of_ble_eq_true rfl) (Nat.le_of_ble_eq_true rfl)
    · refine x_iload_n (M := M_X12_isLetter) dX12_isLetter_12 rfl ?_
      refine x_bipush (M := M_X12_isLetter) dX12_isLetter_13 ?_
      refine x_icmp_lt (M := M_X12_isLetter) (tgt := 28) dX12_isLetter_15 (by decide) (fun q2 => ?_) (fun q2 => ?_)
      · refine x_iconst (M := M_X12_isLetter) dX12_isLetter_28 ?_
        exact x_zret (M := M_X12_isLetter) dX12_isLetter_29 rfl (Or.inl rfl) ⟨by rw [f_X12_isLetter, if_neg q0, if_neg q1, if_pos q2], rfl⟩ (Nat.le_of_ble_eq_true rfl) (Nat.le_of_ble_eq_true rfl)
      · refine x_iload_n (M := M_X12_isLetter) dX12_isLetter_18 rfl ?_
        refine x_bipush (M := M_X12_isLetter) dX12_isLetter_19 ?_
        refine x_icmp_gt (M := M_X12_isLetter) (tgt := 28) dX12_isLetter_21 (by decide) (fun q3 => ?_) (fun q3 => ?_)
        · refine x_iconst (M := M_X12_isLetter) dX12_isLetter_28 ?_
          exact x_zret (M := M_X12_isLetter) dX12_isLetter_29 rfl (Or.inl rfl) ⟨by rw [f_X12_isLetter, if_neg q0, if_neg q1, if_neg q2, if_pos q3], rfl⟩ (Nat.le_of_ble_eq_true rfl) (Nat.le_of_ble_eq_true rfl)
        · refine x_iconst (M := M_X12_isLetter) dX12_isLetter_24 ?_
          refine x_goto (M := M_X12_isLetter) (tgt := 29) dX12_isLetter_25 (by decide) ?_
          exact x_zret (M := M_X12_isLetter) dX12_isLetter_29 rfl (Or.inr rfl) ⟨by rw [f_X12_isLetter, if_neg q0, if_neg q1, if_neg q2, if_neg q3], rfl⟩ (Nat.le_of_ble_eq_true rfl) (Nat.le_of_ble_eq_true rfl)
def f_X12_isDigit (w0 : Int32) : Int32 := if w0 < (Int8.ofInt 48).toInt32 then (Int32.ofInt 0) else (if (Int8.ofInt 57).toInt32 < w0 then (Int32.ofInt 0) else ((Int32.ofInt 1)))
theorem b_X12_isDigit (w0 : Int32) : f_X12_isDigit w0 = 0 ∨ f_X12_isDigit w0 = 1 := (ite01 (Or.inl rfl) (ite01 (Or.inl rfl) (Or.inr rfl)))
theorem p_X12_isDigit {l : Launch} {E : EE} (hl : l.stackTraces = false) {h : HP} {w0 : Int32} : en_C l E M_X12_isDigit 0 0 0 [.int w0] h (pR (some (.int (f_X12_isDigit w0))) h) := by
  refine en_mk m_X12_isDigit rfl hl (Nat.le_of_ble_eq_true rfl) ?_
  refine x_iload_n (M := M_X12_isDigit) dX12_isDigit_0 rfl ?_
  refine x_bipush (M := M_X12_isDigit) dX12_isDigit_1 ?_
  refine x_icmp_lt (M := M_X12_isDigit) (tgt := 16) dX12_isDigit_3 (by decide) (fun q0 => ?_) (fun q0 => ?_)
  · refine x_iconst (M := M_X12_isDigit) dX12_isDigit_16 ?_
    exact x_zret (M := M_X12_isDigit) dX12_isDigit_17 rfl (Or.inl rfl) ⟨by rw [f_X12_isDigit, if_pos q0], rfl⟩ (Nat.le_of_ble_eq_true rfl) (Nat.le_of_ble_eq_true rfl)
  · refine x_iload_n (M := M_X12_isDigit) dX12_isDigit_6 rfl ?_
    refine x_bipush (M := M_X12_isDigit) dX12_isDigit_7 ?_
    refine x_icmp_gt (M := M_X12_isDigit) (tgt := 16) dX12_isDigit_9 (by decide) (fun q1 => ?_) (fun q1 => ?_)
    · refine x_iconst (M := M_X12_isDigit) dX12_isDigit_16 ?_
      exact x_zret (M := M_X12_isDigit) dX12_isDigit_17 rfl (Or.inl rfl) ⟨by rw [f_X12_isDigit, if_neg q0, if_pos q1], rfl⟩ (Nat.le_of_ble_eq_true rfl) (Nat.le_of_ble_eq_true rfl)
    · refine x_iconst (M := M_X12_isDigit) dX12_isDigit_12 ?_
      refine x_goto (M := M_X12_isDigit) (tgt := 17) dX12_isDigit_13 (by decide) ?_
      exact x_zret (M := M_X12_isDigit) dX12_isDigit_17 rfl (Or.inr rfl) ⟨by rw [f_X12_isDigit, if_neg q0, if_neg q1], rfl⟩ (Nat.le_of_ble_eq_true rfl) (Nat.le_of_ble_eq_true rfl)
def f_X12_isSign (w0 : Int32) : Int32 := if w0 = (Int8.ofInt 43).toInt32 then (Int32.ofInt 1) else (if w0 = (Int8.ofInt 45).toInt32 then (Int32.ofInt 1) else ((Int32.ofInt 0)))
theorem b_X12_isSign (w0 : Int32) : f_X12_isSign w0 = 0 ∨ f_X12_isSign w0 = 1 := (ite01 (Or.inr rfl) (ite01 (Or.inr rfl) (Or.inl rfl)))
theorem p_X12_isSign {l : Launch} {E : EE} (hl : l.stackTraces = false) {h : HP} {w0 : Int32} : en_C l E M_X12_isSign 0 0 0 [.int w0] h (pR (some (.int (f_X12_isSign w0))) h) := by
  refine en_mk m_X12_isSign rfl hl (Nat.le_of_ble_eq_true rfl) ?_
  refine x_iload_n (M := M_X12_isSign) dX12_isSign_0 rfl ?_
  refine x_bipush (M := M_X12_isSign) dX12_isSign_1 ?_
  refine x_icmp_eq (M := M_X12_isSign) (tgt := 12) dX12_isSign_3 (by decide) (fun q0 => ?_) (fun q0 => ?_)
  · refine x_iconst (M := M_X12_isSign) dX12_isSign_12 ?_
    refine x_goto (M := M_X12_isSign) (tgt := 17) dX12_isSign_13 (by decide) ?_
    exact x_zret (M := M_X12_isSign) dX12_isSign_17 rfl (Or.inr rfl) ⟨by rw [f_X12_isSign, if_pos q0], rfl⟩ (Nat.le_of_ble_eq_true rfl) (Nat.le_of_ble_eq_true rfl)
  · refine x_iload_n (M := M_X12_isSign) dX12_isSign_6 rfl ?_
    refine x_bipush (M := M_X12_isSign) dX12_isSign_7 ?_
    refine x_icmp_ne (M := M_X12_isSign) (tgt := 16) dX12_isSign_9 (by decide) (fun q1 => ?_) (fun q1 => ?_)
    · refine x_iconst (M := M_X12_isSign) dX12_isSign_16 ?_
      exact x_zret (M := M_X12_isSign) dX12_isSign_17 rfl (Or.inl rfl) ⟨by rw [f_X12_isSign, if_neg q0, if_neg q1], rfl⟩ (Nat.le_of_ble_eq_true rfl) (Nat.le_of_ble_eq_true rfl)
    · refine x_iconst (M := M_X12_isSign) dX12_isSign_12 ?_
      refine x_goto (M := M_X12_isSign) (tgt := 17) dX12_isSign_13 (by decide) ?_
      exact x_zret (M := M_X12_isSign) dX12_isSign_17 rfl (Or.inr rfl) ⟨by rw [f_X12_isSign, if_neg q0, if_pos q1], rfl⟩ (Nat.le_of_ble_eq_true rfl) (Nat.le_of_ble_eq_true rfl)
def f_X12_large (w0 : Int32) : Int32 := if w0 < (Int8.ofInt 97).toInt32 then w0 else (if (Int8.ofInt 122).toInt32 < w0 then w0 else ((w0 - (Int8.ofInt 32).toInt32)))
theorem p_X12_large {l : Launch} {E : EE} (hl : l.stackTraces = false) {h : HP} {w0 : Int32} : en_C l E M_X12_large 0 0 0 [.int w0] h (pR (some (.int (f_X12_large w0))) h) := by
  refine en_mk m_X12_large rfl hl (Nat.le_of_ble_eq_true rfl) ?_
  refine x_iload_n (M := M_X12_large) dX12_large_0 rfl ?_
  refine x_bipush (M := M_X12_large) dX12_large_1 ?_
  refine x_icmp_lt (M := M_X12_large) (tgt := 19) dX12_large_3 (by decide) (fun q0 => ?_) (fun q0 => ?_)
  · refine x_iload_n (M := M_X12_large) dX12_large_19 rfl ?_
    exact x_iret (M := M_X12_large) dX12_large_20 rfl ⟨by rw [f_X12_large, if_pos q0], rfl⟩ (Nat.le_of_ble_eq_true rfl) (Nat.le_of_ble_eq_true rfl)
  · refine x_iload_n (M := M_X12_large) dX12_large_6 rfl ?_
    refine x_bipush (M := M_X12_large) dX12_large_7 ?_
    refine x_icmp_gt (M := M_X12_large) (tgt := 19) dX12_large_9 (by decide) (fun q1 => ?_) (fun q1 => ?_)
    · refine x_iload_n (M := M_X12_large) dX12_large_19 rfl ?_
      exact x_iret (M := M_X12_large) dX12_large_20 rfl ⟨by rw [f_X12_large, if_neg q0, if_pos q1], rfl⟩ (Nat.le_of_ble_eq_true rfl) (Nat.le_of_ble_eq_true rfl)
    · refine x_iload_n (M := M_X12_large) dX12_large_12 rfl ?_
      refine x_bipush (M := M_X12_large) dX12_large_13 ?_
      refine x_isub (M := M_X12_large) dX12_large_15 ?_
      refine x_goto (M := M_X12_large) (tgt := 20) dX12_large_16 (by decide) ?_
      exact x_iret (M := M_X12_large) dX12_large_20 rfl ⟨by rw [f_X12_large, if_neg q0, if_neg q1], rfl⟩ (Nat.le_of_ble_eq_true rfl) (Nat.le_of_ble_eq_true rfl)
def F_X12_more (fs : List Value) (c10 : Nat → Int32) (w0 : Int32) : List Value := fs
def A10_X12_more (c10 : Nat → Int32) (w0 : Int32) : Nat → Int32 := (upd c10 ((65536 : Int32) + w0).toNatClampNeg ((c10 ((65536 : Int32) + w0).toNatClampNeg) + (Int32.ofInt 1)))
theorem l_X12_more {fs : List Value} {c10 : Nat → Int32} {w0 : Int32} : (F_X12_more fs c10 w0).length = fs.length := by
  unfold F_X12_more
  first | rfl | simp only [List.length_set]
theorem k_X12_more {fs : List Value} {c10 : Nat → Int32} {w0 : Int32} {k : Nat} (hk : k ∉ ([] : List Nat)) : (F_X12_more fs c10 w0)[k]? = fs[k]? := by
  clear hk
  unfold F_X12_more
  first | rfl | simp only []
theorem p_X12_more {l : Launch} {E : EE} (hl : l.stackTraces = false) {h : HP} {c10 : Nat → Int32} {w0 : Int32} {a : Nat} {fs : List Value} (ha : ob h a = some (.inr (15, fs))) {r10 n10 : Nat} (e10 : fs[10]? = some (.ref r10)) (o10 : ob h r10 = some (.inl (0, n10, .inl c10))) (i0 : vp_in ((65536 : Int32) + w0) n10) (i1 : vp_in ((65536 : Int32) + w0) n10) : en_C l E M_X12_more 0 0 0 [.ref a, .int w0] h (pR none (stt (stt h a (.inr (15, F_X12_more fs c10 w0))) r10 (.inl (0, n10, .inl (A10_X12_more c10 w0))))) := by
  refine en_mk m_X12_more rfl hl (Nat.le_of_ble_eq_true rfl) ?_
  refine x_heap (h' := (stt (stt h a (.inr (15, fs))) r10 (.inl (0, n10, .inl c10)))) (by rw [stt_id ha, stt_id o10]) ?_
  refine x_aload_n (M := M_X12_more) dX12_more_0 rfl ?_
  refine x_getf (M := M_X12_more) (ci := 15) (C := RX12) (T := TX12) (N := 135) (ty := tyX12) cl15 dX12_more_1 (ob_up (ob_df ha o10).symm (ob_at o10).1 (ob_self ha)) 10 (by decide) t_2401 e10 ?_
  refine x_ldc (M := M_X12_more) dX12_more_4 t_2385 ?_
  refine x_iload_n (M := M_X12_more) dX12_more_6 rfl ?_
  refine x_iadd (M := M_X12_more) dX12_more_7 ?_
  refine x_dup2 (M := M_X12_more) dX12_more_8 rfl rfl ?_
  refine x_iald (M := M_X12_more) dX12_more_9 (ob_self (ob_oth ha o10)) i0 ?_
  refine x_iconst (M := M_X12_more) dX12_more_10 ?_
  refine x_iadd (M := M_X12_more) dX12_more_11 ?_
  refine x_iast (M := M_X12_more) dX12_more_12 (ob_self (ob_oth ha o10)) i1 ?_
  refine x_heap (h' := (stt (stt h a (.inr (15, fs))) r10 (.inl (0, n10, .inl (upd c10 ((65536 : Int32) + w0).toNatClampNeg ((c10 ((65536 : Int32) + w0).toNatClampNeg) + (Int32.ofInt 1))))))) (by rw [stt_stt (a := r10)]) ?_
  exact x_vret (M := M_X12_more) dX12_more_13 rfl ⟨rfl, by rw [F_X12_more, A10_X12_more]⟩ (Nat.le_of_ble_eq_true rfl) (Nat.le_of_ble_eq_true rfl)
def f_X12_there (g17 : Int32) (g18 : Int32) (w0 : Int32) : Int32 := if g18 < (g17 + w0) then (Int32.ofInt 0) else ((Int32.ofInt 1))
theorem b_X12_there (g17 : Int32) (g18 : Int32) (w0 : Int32) : f_X12_there g17 g18 w0 = 0 ∨ f_X12_there g17 g18 w0 = 1 := (ite01 (Or.inl rfl) (Or.inr rfl))
theorem p_X12_there {l : Launch} {E : EE} (hl : l.stackTraces = false) {h : HP} {g17 : Int32} {g18 : Int32} {w0 : Int32} {a : Nat} {fs : List Value} (ha : ob h a = some (.inr (15, fs))) (e17 : fs[17]? = some (.int g17)) (e18 : fs[18]? = some (.int g18)) : en_C l E M_X12_there 0 0 0 [.ref a, .int w0] h (pR (some (.int (f_X12_there g17 g18 w0))) h) := by
  refine en_mk m_X12_there rfl hl (Nat.le_of_ble_eq_true rfl) ?_
  refine x_aload_n (M := M_X12_there) dX12_there_0 rfl ?_
  refine x_getf (M := M_X12_there) (ci := 15) (C := RX12) (T := TX12) (N := 135) (ty := tyX12) cl15 dX12_there_1 ha 17 (by decide) t_2408 e17 ?_
  refine x_iload_n (M := M_X12_there) dX12_there_4 rfl ?_
  refine x_iadd (M := M_X12_there) dX12_there_5 ?_
  refine x_aload_n (M := M_X12_there) dX12_there_6 rfl ?_
  refine x_getf (M := M_X12_there) (ci := 15) (C := RX12) (T := TX12) (N := 135) (ty := tyX12) cl15 dX12_there_7 ha 18 (by decide) t_2409 e18 ?_
  refine x_icmp_gt (M := M_X12_there) (tgt := 17) dX12_there_10 (by decide) (fun q0 => ?_) (fun q0 => ?_)
  · refine x_iconst (M := M_X12_there) dX12_there_17 ?_
    exact x_zret (M := M_X12_there) dX12_there_18 rfl (Or.inl rfl) ⟨by rw [f_X12_there, if_pos q0], rfl⟩ (Nat.le_of_ble_eq_true rfl) (Nat.le_of_ble_eq_true rfl)
  · refine x_iconst (M := M_X12_there) dX12_there_13 ?_
    refine x_goto (M := M_X12_there) (tgt := 18) dX12_there_14 (by decide) ?_
    exact x_zret (M := M_X12_there) dX12_there_18 rfl (Or.inr rfl) ⟨by rw [f_X12_there, if_neg q0], rfl⟩ (Nat.le_of_ble_eq_true rfl) (Nat.le_of_ble_eq_true rfl)
def f_X12_partsOfBytes (g20 : Int32) (g29 : Int32) (c27 : Nat → Int64) (c28 : Nat → Int32) (w0 : Int32) (w1 : Int64) : Int32 := (Int32.ofInt 1)
theorem b_X12_partsOfBytes (g20 : Int32) (g29 : Int32) (c27 : Nat → Int64) (c28 : Nat → Int32) (w0 : Int32) (w1 : Int64) : f_X12_partsOfBytes g20 g29 c27 c28 w0 w1 = 0 ∨ f_X12_partsOfBytes g20 g29 c27 c28 w0 w1 = 1 := (Or.inr rfl)
def F_X12_partsOfBytes (fs : List Value) (g20 : Int32) (g29 : Int32) (c27 : Nat → Int64) (c28 : Nat → Int32) (w0 : Int32) (w1 : Int64) : List Value := if w0 = (Int8.ofInt 7).toInt32 then if w0 = (Int8.ofInt 7).toInt32 then ((fs.set 29 (.int (g29 + (Int32.ofInt 1)))).set 20 (.int (g20 + (Int32.ofInt 1)))) else (((fs.set 29 (.int (g29 + (Int32.ofInt 1)))).set 20 (.int g20))) else (if w0 = (Int8.ofInt 7).toInt32 then ((fs.set 29 (.int (g29 + (Int32.ofInt 1)))).set 20 (.int (g20 + (Int32.ofInt 1)))) else (((fs.set 29 (.int (g29 + (Int32.ofInt 1)))).set 20 (.int g20))))
def A27_X12_partsOfBytes (g20 : Int32) (g29 : Int32) (c27 : Nat → Int64) (c28 : Nat → Int32) (w0 : Int32) (w1 : Int64) : Nat → Int64 := (vp_updL c27 g29.toNatClampNeg w1)
def A28_X12_partsOfBytes (g20 : Int32) (g29 : Int32) (c27 : Nat → Int64) (c28 : Nat → Int32) (w0 : Int32) (w1 : Int64) : Nat → Int32 := if w0 = (Int8.ofInt 7).toInt32 then if w0 = (Int8.ofInt 7).toInt32 then (upd c28 g29.toNatClampNeg (Int32.ofInt 0)) else ((upd c28 g29.toNatClampNeg (Int32.ofInt 0))) else (if w0 = (Int8.ofInt 7).toInt32 then (upd c28 g29.toNatClampNeg (w0 - (Int32.ofInt 3))) else ((upd c28 g29.toNatClampNeg (w0 - (Int32.ofInt 3)))))
theorem l_X12_partsOfBytes {fs : List Value} {g20 : Int32} {g29 : Int32} {c27 : Nat → Int64} {c28 : Nat → Int32} {w0 : Int32} {w1 : Int64} : (F_X12_partsOfBytes fs g20 g29 c27 c28 w0 w1).length = fs.length := by
  unfold F_X12_partsOfBytes
  repeat' split
  all_goals first | rfl | simp only [List.length_set]
theorem k_X12_partsOfBytes {fs : List Value} {g20 : Int32} {g29 : Int32} {c27 : Nat → Int64} {c28 : Nat → Int32} {w0 : Int32} {w1 : Int64} {k : Nat} (hk : k ∉ ([20, 29] : List Nat)) : (F_X12_partsOfBytes fs g20 g29 c27 c28 w0 w1)[k]? = fs[k]? := by
  simp only [List.mem_cons, List.not_mem_nil, or_false, not_or] at hk
  unfold F_X12_partsOfBytes
  repeat' split
  all_goals first | rfl | simp only [List.getElem?_set_ne (by omega : 20 ≠ k), List.getElem?_set_ne (by omega : 29 ≠ k)]
def V20_X12_partsOfBytes (g20 : Int32) (g29 : Int32) (c27 : Nat → Int64) (c28 : Nat → Int32) (w0 : Int32) (w1 : Int64) : Int32 := if w0 = (Int8.ofInt 7).toInt32 then if w0 = (Int8.ofInt 7).toInt32 then (g20 + (Int32.ofInt 1)) else (g20) else (if w0 = (Int8.ofInt 7).toInt32 then (g20 + (Int32.ofInt 1)) else (g20))
theorem v20_X12_partsOfBytes {fs : List Value} {g20 : Int32} {g29 : Int32} {c27 : Nat → Int64} {c28 : Nat → Int32} {w0 : Int32} {w1 : Int64} (hn : fs.length = 135) (e20 : fs[20]? = some (.int g20)) (e29 : fs[29]? = some (.int g29)) : (F_X12_partsOfBytes fs g20 g29 c27 c28 w0 w1)[20]? = some (.int (V20_X12_partsOfBytes g20 g29 c27 c28 w0 w1)) := by
  unfold F_X12_partsOfBytes V20_X12_partsOfBytes
  exact (gi (gi (gs_eq (by simp only [List.length_set, hn]; decide)) (gs_eq (by simp only [List.length_set, hn]; decide))) (gi (gs_eq (by simp only [List.length_set, hn]; decide)) (gs_eq (by simp only [List.length_set, hn]; decide))))
def V29_X12_partsOfBytes (g20 : Int32) (g29 : Int32) (c27 : Nat → Int64) (c28 : Nat → Int32) (w0 : Int32) (w1 : Int64) : Int32 := if w0 = (Int8.ofInt 7).toInt32 then if w0 = (Int8.ofInt 7).toInt32 then (g29 + (Int32.ofInt 1)) else ((g29 + (Int32.ofInt 1))) else (if w0 = (Int8.ofInt 7).toInt32 then (g29 + (Int32.ofInt 1)) else ((g29 + (Int32.ofInt 1))))
theorem v29_X12_partsOfBytes {fs : List Value} {g20 : Int32} {g29 : Int32} {c27 : Nat → Int64} {c28 : Nat → Int32} {w0 : Int32} {w1 : Int64} (hn : fs.length = 135) (e20 : fs[20]? = some (.int g20)) (e29 : fs[29]? = some (.int g29)) : (F_X12_partsOfBytes fs g20 g29 c27 c28 w0 w1)[29]? = some (.int (V29_X12_partsOfBytes g20 g29 c27 c28 w0 w1)) := by
  unfold F_X12_partsOfBytes V29_X12_partsOfBytes
  exact (gi (gi (gs_ne (by decide) (gs_eq (by simp only [List.length_set, hn]; decide))) (gs_ne (by decide) (gs_eq (by simp only [List.length_set, hn]; decide)))) (gi (gs_ne (by decide) (gs_eq (by simp only [List.length_set, hn]; decide))) (gs_ne (by decide) (gs_eq (by simp only [List.length_set, hn]; decide)))))
theorem p_X12_partsOfBytes {l : Launch} {E : EE} (hl : l.stackTraces = false) {h : HP} {g20 : Int32} {g29 : Int32} {c27 : Nat → Int64} {c28 : Nat → Int32} {w0 : Int32} {w1 : Int64} {a : Nat} {fs : List Value} (ha : ob h a = some (.inr (15, fs))) (hn : fs.length = 135) (e20 : fs[20]? = some (.int g20)) (e29 : fs[29]? = some (.int g29)) {r27 n27 : Nat} (e27 : fs[27]? = some (.ref r27)) (o27 : ob h r27 = some (.inl (1, n27, .inr (.inl c27)))) {r28 n28 : Nat} (e28 : fs[28]? = some (.ref r28)) (o28 : ob h r28 = some (.inl (0, n28, .inl c28))) (d27_28 : r27 ≠ r28) (i0 : vp_in g29 n27) (i1 : (¬ w0 = (Int8.ofInt 7).toInt32) → vp_in g29 n28) (i2 : (w0 = (Int8.ofInt 7).toInt32) → vp_in g29 n28) : en_C l E M_X12_partsOfBytes 0 0 0 [.ref a, .int w0, .long w1] h (pR (some (.int (f_X12_partsOfBytes g20 g29 c27 c28 w0 w1))) (stt (stt (stt h a (.inr (15, F_X12_partsOfBytes fs g20 g29 c27 c28 w0 w1))) r27 (.inl (1, n27, .inr (.inl (A27_X12_partsOfBytes g20 g29 c27 c28 w0 w1))))) r28 (.inl (0, n28, .inl (A28_X12_partsOfBytes g20 g29 c27 c28 w0 w1))))) := by
  refine en_mk m_X12_partsOfBytes rfl hl (Nat.le_of_ble_eq_true rfl) ?_
  refine x_heap (h' := (stt (stt (stt h a (.inr (15, fs))) r27 (.inl (1, n27, .inr (.inl c27)))) r28 (.inl (0, n28, .inl c28)))) (by rw [stt_id ha, stt_id o27, stt_id o28]) ?_
  refine x_aload_n (M := M_X12_partsOfBytes) dX12_partsOfBytes_0 rfl ?_
  refine x_getf (M := M_X12_partsOfBytes) (ci := 15) (C := RX12) (T := TX12) (N := 135) (ty := tyX12) cl15 dX12_partsOfBytes_1 (ob_up (ob_df ha o28).symm (ob_at o28).1 (ob_up (ob_df ha o27).symm (ob_at o27).1 (ob_self ha))) 27 (by decide) t_2418 e27 ?_
  refine x_aload_n (M := M_X12_partsOfBytes) dX12_partsOfBytes_4 rfl ?_
  refine x_getf (M := M_X12_partsOfBytes) (ci := 15) (C := RX12) (T := TX12) (N := 135) (ty := tyX12) cl15 dX12_partsOfBytes_5 (ob_up (ob_df ha o28).symm (ob_at o28).1 (ob_up (ob_df ha o27).symm (ob_at o27).1 (ob_self ha))) 29 (by decide) t_2420 e29 ?_
  refine x_lload_n (M := M_X12_partsOfBytes) dX12_partsOfBytes_8 rfl ?_
  refine x_last (M := M_X12_partsOfBytes) dX12_partsOfBytes_9 (ob_up d27_28.symm (ob_at o28).1 (ob_self (ob_oth ha o27))) i0 ?_
  refine x_heap (h' := (stt (stt (stt h a (.inr (15, fs))) r27 (.inl (1, n27, .inr (.inl (vp_updL c27 g29.toNatClampNeg w1))))) r28 (.inl (0, n28, .inl c28)))) (by rw [stt_sw (x := r28) (y := r27) d27_28.symm (ob_at o28).1 (ob_at o27).1, stt_stt (a := r27)]) ?_
  refine x_aload_n (M := M_X12_partsOfBytes) dX12_partsOfBytes_10 rfl ?_
  refine x_getf (M := M_X12_partsOfBytes) (ci := 15) (C := RX12) (T := TX12) (N := 135) (ty := tyX12) cl15 dX12_partsOfBytes_11 (ob_up (ob_df ha o28).symm (ob_at o28).1 (ob_up (ob_df ha o27).symm (ob_at o27).1 (ob_self ha))) 28 (by decide) t_2419 e28 ?_
  refine x_aload_n (M := M_X12_partsOfBytes) dX12_partsOfBytes_14 rfl ?_
  refine x_getf (M := M_X12_partsOfBytes) (ci := 15) (C := RX12) (T := TX12) (N := 135) (ty := tyX12) cl15 dX12_partsOfBytes_15 (ob_up (ob_df ha o28).symm (ob_at o28).1 (ob_up (ob_df ha o27).symm (ob_at o27).1 (ob_self ha))) 29 (by decide) t_2420 e29 ?_
  refine x_iload_n (M := M_X12_partsOfBytes) dX12_partsOfBytes_18 rfl ?_
  refine x_bipush (M := M_X12_partsOfBytes) dX12_partsOfBytes_19 ?_
  refine x_icmp_ne (M := M_X12_partsOfBytes) (tgt := 28) dX12_partsOfBytes_21 (by decide) (fun q0 => ?_) (fun q0 => ?_)
  · refine x_iload_n (M := M_X12_partsOfBytes) dX12_partsOfBytes_28 rfl ?_
    refine x_iconst (M := M_X12_partsOfBytes) dX12_partsOfBytes_29 ?_
    refine x_isub (M := M_X12_partsOfBytes) dX12_partsOfBytes_30 ?_
    refine x_iast (M := M_X12_partsOfBytes) dX12_partsOfBytes_31 (ob_self (ob_up d27_28 (ob_at o27).1 (ob_oth ha o28))) (i1 q0) ?_
    refine x_heap (h' := (stt (stt (stt h a (.inr (15, fs))) r27 (.inl (1, n27, .inr (.inl (vp_updL c27 g29.toNatClampNeg w1))))) r28 (.inl (0, n28, .inl (upd c28 g29.toNatClampNeg (w0 - (Int32.ofInt 3))))))) (by rw [stt_stt (a := r28)]) ?_
    refine x_aload_n (M := M_X12_partsOfBytes) dX12_partsOfBytes_32 rfl ?_
    refine x_dup (M := M_X12_partsOfBytes) dX12_partsOfBytes_33 rfl ?_
    refine x_getf (M := M_X12_partsOfBytes) (ci := 15) (C := RX12) (T := TX12) (N := 135) (ty := tyX12) cl15 dX12_partsOfBytes_34 (ob_up (ob_df ha o28).symm (ob_at o28).1 (ob_up (ob_df ha o27).symm (ob_at o27).1 (ob_self ha))) 29 (by decide) t_2420 e29 ?_
    refine x_iconst (M := M_X12_partsOfBytes) dX12_partsOfBytes_37 ?_
    refine x_iadd (M := M_X12_partsOfBytes) dX12_partsOfBytes_38 ?_
    refine x_put (M := M_X12_partsOfBytes) (ci := 15) (C := RX12) (T := TX12) (N := 135) (ty := tyX12) cl15 dX12_partsOfBytes_39 (ob_up (ob_df ha o28).symm (ob_at o28).1 (ob_up (ob_df ha o27).symm (ob_at o27).1 (ob_self ha))) 29 (by decide) t_2420 (Or.inl rfl) (by simp only [List.length_set, hn]; decide) rfl ?_
    refine x_heap (h' := (stt (stt (stt h a (.inr (15, (fs.set 29 (.int (g29 + (Int32.ofInt 1))))))) r27 (.inl (1, n27, .inr (.inl (vp_updL c27 g29.toNatClampNeg w1))))) r28 (.inl (0, n28, .inl (upd c28 g29.toNatClampNeg (w0 - (Int32.ofInt 3))))))) (by rw [stt_sw (x := r28) (y := a) (ob_df ha o28).symm (ob_at o28).1 (ob_at ha).1, stt_sw (x := r27) (y := a) (ob_df ha o27).symm (ob_at o27).1 (ob_at ha).1, stt_stt (a := a)]) ?_
    refine x_aload_n (M := M_X12_partsOfBytes) dX12_partsOfBytes_42 rfl ?_
    refine x_iload_n (M := M_X12_partsOfBytes) dX12_partsOfBytes_43 rfl ?_
    refine x_bipush (M := M_X12_partsOfBytes) dX12_partsOfBytes_44 ?_
    refine x_icmp_ne (M := M_X12_partsOfBytes) (tgt := 58) dX12_partsOfBytes_46 (by decide) (fun q1 => ?_) (fun q1 => ?_)
    · refine x_aload_n (M := M_X12_partsOfBytes) dX12_partsOfBytes_58 rfl ?_
      refine x_getf (M := M_X12_partsOfBytes) (ci := 15) (C := RX12) (T := TX12) (N := 135) (ty := tyX12) cl15 dX12_partsOfBytes_59 (ob_up (ob_df ha o28).symm (ob_at o28).1 (ob_up (ob_df ha o27).symm (ob_at o27).1 (ob_self ha))) 20 (by decide) t_2411 (gs_ne (by decide) e20) ?_
      refine x_put (M := M_X12_partsOfBytes) (ci := 15) (C := RX12) (T := TX12) (N := 135) (ty := tyX12) cl15 dX12_partsOfBytes_62 (ob_up (ob_df ha o28).symm (ob_at o28).1 (ob_up (ob_df ha o27).symm (ob_at o27).1 (ob_self ha))) 20 (by decide) t_2411 (Or.inl rfl) (by simp only [List.length_set, hn]; decide) rfl ?_
      refine x_heap (h' := (stt (stt (stt h a (.inr (15, ((fs.set 29 (.int (g29 + (Int32.ofInt 1)))).set 20 (.int g20))))) r27 (.inl (1, n27, .inr (.inl (vp_updL c27 g29.toNatClampNeg w1))))) r28 (.inl (0, n28, .inl (upd c28 g29.toNatClampNeg (w0 - (Int32.ofInt 3))))))) (by rw [stt_sw (x := r28) (y := a) (ob_df ha o28).symm (ob_at o28).1 (ob_at ha).1, stt_sw (x := r27) (y := a) (ob_df ha o27).symm (ob_at o27).1 (ob_at ha).1, stt_stt (a := a)]) ?_
      refine x_iconst (M := M_X12_partsOfBytes) dX12_partsOfBytes_65 ?_
      exact x_zret (M := M_X12_partsOfBytes) dX12_partsOfBytes_66 rfl (Or.inr rfl) ⟨by rw [f_X12_partsOfBytes], by rw [F_X12_partsOfBytes, if_neg q0, if_neg q1, A27_X12_partsOfBytes, A28_X12_partsOfBytes, if_neg q0, if_neg q1]⟩ (Nat.le_of_ble_eq_true rfl) (Nat.le_of_ble_eq_true rfl)
    · refine x_aload_n (M := M_X12_partsOfBytes) dX12_partsOfBytes_49 rfl ?_
      refine x_getf (M := M_X12_partsOfBytes) (ci := 15) (C := RX12) (T := TX12) (N := 135) (ty := tyX12) cl15 dX12_partsOfBytes_50 (ob_up (ob_df ha o28).symm (ob_at o28).1 (ob_up (ob_df ha o27).symm (ob_at o27).1 (ob_self ha))) 20 (by decide) t_2411 (gs_ne (by decide) e20) ?_
      refine x_iconst (M := M_X12_partsOfBytes) dX12_partsOfBytes_53 ?_
      refine x_iadd (M := M_X12_partsOfBytes) dX12_partsOfBytes_54 ?_
      refine x_goto (M := M_X12_partsOfBytes) (tgt := 62) dX12_partsOfBytes_55 (by decide) ?_
      refine x_put (M := M_X12_partsOfBytes) (ci := 15) (C := RX12) (T := TX12) (N := 135) (ty := tyX12) cl15 dX12_partsOfBytes_62 (ob_up (ob_df ha o28).symm (ob_at o28).1 (ob_up (ob_df ha o27).symm (ob_at o27).1 (ob_self ha))) 20 (by decide) t_2411 (Or.inl rfl) (by simp only [List.length_set, hn]; decide) rfl ?_
      refine x_heap (h' := (stt (stt (stt h a (.inr (15, ((fs.set 29 (.int (g29 + (Int32.ofInt 1)))).set 20 (.int (g20 + (Int32.ofInt 1))))))) r27 (.inl (1, n27, .inr (.inl (vp_updL c27 g29.toNatClampNeg w1))))) r28 (.inl (0, n28, .inl (upd c28 g29.toNatClampNeg (w0 - (Int32.ofInt 3))))))) (by rw [stt_sw (x := r28) (y := a) (ob_df ha o28).symm (ob_at o28).1 (ob_at ha).1, stt_sw (x := r27) (y := a) (ob_df ha o27).symm (ob_at o27).1 (ob_at ha).1, stt_stt (a := a)]) ?_
      refine x_iconst (M := M_X12_partsOfBytes) dX12_partsOfBytes_65 ?_
      exact x_zret (M := M_X12_partsOfBytes) dX12_partsOfBytes_66 rfl (Or.inr rfl) ⟨by rw [f_X12_partsOfBytes], by rw [F_X12_partsOfBytes, if_neg q0, if_pos q1, A27_X12_partsOfBytes, A28_X12_partsOfBytes, if_neg q0, if_pos q1]⟩ (Nat.le_of_ble_eq_true rfl) (Nat.le_of_ble_eq_true rfl)
  · refine x_iconst (M := M_X12_partsOfBytes) dX12_partsOfBytes_24 ?_
    refine x_goto (M := M_X12_partsOfBytes) (tgt := 31) dX12_partsOfBytes_25 (by decide) ?_
    refine x_iast (M := M_X12_partsOfBytes) dX12_partsOfBytes_31 (ob_self (ob_up d27_28 (ob_at o27).1 (ob_oth ha o28))) (i2 q0) ?_
    refine x_heap (h' := (stt (stt (stt h a (.inr (15, fs))) r27 (.inl (1, n27, .inr (.inl (vp_updL c27 g29.toNatClampNeg w1))))) r28 (.inl (0, n28, .inl (upd c28 g29.toNatClampNeg (Int32.ofInt 0)))))) (by rw [stt_stt (a := r28)]) ?_
    refine x_aload_n (M := M_X12_partsOfBytes) dX12_partsOfBytes_32 rfl ?_
    refine x_dup (M := M_X12_partsOfBytes) dX12_partsOfBytes_33 rfl ?_
    refine x_getf (M := M_X12_partsOfBytes) (ci := 15) (C := RX12) (T := TX12) (N := 135) (ty := tyX12) cl15 dX12_partsOfBytes_34 (ob_up (ob_df ha o28).symm (ob_at o28).1 (ob_up (ob_df ha o27).symm (ob_at o27).1 (ob_self ha))) 29 (by decide) t_2420 e29 ?_
    refine x_iconst (M := M_X12_partsOfBytes) dX12_partsOfBytes_37 ?_
    refine x_iadd (M := M_X12_partsOfBytes) dX12_partsOfBytes_38 ?_
    refine x_put (M := M_X12_partsOfBytes) (ci := 15) (C := RX12) (T := TX12) (N := 135) (ty := tyX12) cl15 dX12_partsOfBytes_39 (ob_up (ob_df ha o28).symm (ob_at o28).1 (ob_up (ob_df ha o27).symm (ob_at o27).1 (ob_self ha))) 29 (by decide) t_2420 (Or.inl rfl) (by simp only [List.length_set, hn]; decide) rfl ?_
    refine x_heap (h' := (stt (stt (stt h a (.inr (15, (fs.set 29 (.int (g29 + (Int32.ofInt 1))))))) r27 (.inl (1, n27, .inr (.inl (vp_updL c27 g29.toNatClampNeg w1))))) r28 (.inl (0, n28, .inl (upd c28 g29.toNatClampNeg (Int32.ofInt 0)))))) (by rw [stt_sw (x := r28) (y := a) (ob_df ha o28).symm (ob_at o28).1 (ob_at ha).1, stt_sw (x := r27) (y := a) (ob_df ha o27).symm (ob_at o27).1 (ob_at ha).1, stt_stt (a := a)]) ?_
    refine x_aload_n (M := M_X12_partsOfBytes) dX12_partsOfBytes_42 rfl ?_
    refine x_iload_n (M := M_X12_partsOfBytes) dX12_partsOfBytes_43 rfl ?_
    refine x_bipush (M := M_X12_partsOfBytes) dX12_partsOfBytes_44 ?_
    refine x_icmp_ne (M := M_X12_partsOfBytes) (tgt := 58) dX12_partsOfBytes_46 (by decide) (fun q1 => ?_) (fun q1 => ?_)
    · refine x_aload_n (M := M_X12_partsOfBytes) dX12_partsOfBytes_58 rfl ?_
      refine x_getf (M := M_X12_partsOfBytes) (ci := 15) (C := RX12) (T := TX12) (N := 135) (ty := tyX12) cl15 dX12_partsOfBytes_59 (ob_up (ob_df ha o28).symm (ob_at o28).1 (ob_up (ob_df ha o27).symm (ob_at o27).1 (ob_self ha))) 20 (by decide) t_2411 (gs_ne (by decide) e20) ?_
      refine x_put (M := M_X12_partsOfBytes) (ci := 15) (C := RX12) (T := TX12) (N := 135) (ty := tyX12) cl15 dX12_partsOfBytes_62 (ob_up (ob_df ha o28).symm (ob_at o28).1 (ob_up (ob_df ha o27).symm (ob_at o27).1 (ob_self ha))) 20 (by decide) t_2411 (Or.inl rfl) (by simp only [List.length_set, hn]; decide) rfl ?_
      refine x_heap (h' := (stt (stt (stt h a (.inr (15, ((fs.set 29 (.int (g29 + (Int32.ofInt 1)))).set 20 (.int g20))))) r27 (.inl (1, n27, .inr (.inl (vp_updL c27 g29.toNatClampNeg w1))))) r28 (.inl (0, n28, .inl (upd c28 g29.toNatClampNeg (Int32.ofInt 0)))))) (by rw [stt_sw (x := r28) (y := a) (ob_df ha o28).symm (ob_at o28).1 (ob_at ha).1, stt_sw (x := r27) (y := a) (ob_df ha o27).symm (ob_at o27).1 (ob_at ha).1, stt_stt (a := a)]) ?_
      refine x_iconst (M := M_X12_partsOfBytes) dX12_partsOfBytes_65 ?_
      exact x_zret (M := M_X12_partsOfBytes) dX12_partsOfBytes_66 rfl (Or.inr rfl) ⟨by rw [f_X12_partsOfBytes], by rw [F_X12_partsOfBytes, if_pos q0, if_neg q1, A27_X12_partsOfBytes, A28_X12_partsOfBytes, if_pos q0, if_neg q1]⟩ (Nat.le_of_ble_eq_true rfl) (Nat.le_of_ble_eq_true rfl)
    · refine x_aload_n (M := M_X12_partsOfBytes) dX12_partsOfBytes_49 rfl ?_
      refine x_getf (M := M_X12_partsOfBytes) (ci := 15) (C := RX12) (T := TX12) (N := 135) (ty := tyX12) cl15 dX12_partsOfBytes_50 (ob_up (ob_df ha o28).symm (ob_at o28).1 (ob_up (ob_df ha o27).symm (ob_at o27).1 (ob_self ha))) 20 (by decide) t_2411 (gs_ne (by decide) e20) ?_
      refine x_iconst (M := M_X12_partsOfBytes) dX12_partsOfBytes_53 ?_
      refine x_iadd (M := M_X12_partsOfBytes) dX12_partsOfBytes_54 ?_
      refine x_goto (M := M_X12_partsOfBytes) (tgt := 62) dX12_partsOfBytes_55 (by decide) ?_
      refine x_put (M := M_X12_partsOfBytes) (ci := 15) (C := RX12) (T := TX12) (N := 135) (ty := tyX12) cl15 dX12_partsOfBytes_62 (ob_up (ob_df ha o28).symm (ob_at o28).1 (ob_up (ob_df ha o27).symm (ob_at o27).1 (ob_self ha))) 20 (by decide) t_2411 (Or.inl rfl) (by simp only [List.length_set, hn]; decide) rfl ?_
      refine x_heap (h' := (stt (stt (stt h a (.inr (15, ((fs.set 29 (.int (g29 + (Int32.ofInt 1)))).set 20 (.int (g20 + (Int32.ofInt 1))))))) r27 (.inl (1, n27, .inr (.inl (vp_updL c27 g29.toNatClampNeg w1))))) r28 (.inl (0, n28, .inl (upd c28 g29.toNatClampNeg (Int32.ofInt 0)))))) (by rw [stt_sw (x := r28) (y := a) (ob_df ha o28).symm (ob_at o28).1 (ob_at ha).1, stt_sw (x := r27) (y := a) (ob_df ha o27).symm (ob_at o27).1 (ob_at ha).1, stt_stt (a := a)]) ?_
      refine x_iconst (M := M_X12_partsOfBytes) dX12_partsOfBytes_65 ?_
      exact x_zret (M := M_X12_partsOfBytes) dX12_partsOfBytes_66 rfl (Or.inr rfl) ⟨by rw [f_X12_partsOfBytes], by rw [F_X12_partsOfBytes, if_pos q0, if_pos q1, A27_X12_partsOfBytes, A28_X12_partsOfBytes, if_pos q0, if_pos q1]⟩ (Nat.le_of_ble_eq_true rfl) (Nat.le_of_ble_eq_true rfl)
def f_X12_isNoNumber (w0 : Int64) : Int32 := if (lg_cmp (((w0.toUInt64 >>> ((Int8.ofInt 52).toInt32.toInt64.toUInt64 &&& Int64.toUInt64 63)).toInt64) &&& (2047 : Int64)) (2047 : Int64)) = 0 then if (lg_cmp (w0 &&& (4503599627370495 : Int64)) (Int64.ofNat ((0 : Fin 2) : Nat))) = 0 then (Int32.ofInt 0) else ((Int32.ofInt 1)) else ((Int32.ofInt 0))
theorem b_X12_isNoNumber (w0 : Int64) : f_X12_isNoNumber w0 = 0 ∨ f_X12_isNoNumber w0 = 1 := (ite01 (ite01 (Or.inl rfl) (Or.inr rfl)) (Or.inl rfl))
theorem p_X12_isNoNumber {l : Launch} {E : EE} (hl : l.stackTraces = false) {h : HP} {w0 : Int64} : en_C l E M_X12_isNoNumber 0 0 0 [.long w0] h (pR (some (.int (f_X12_isNoNumber w0))) h) := by
  refine en_mk m_X12_isNoNumber rfl hl (Nat.le_of_ble_eq_true rfl) ?_
  refine x_lload_n (M := M_X12_isNoNumber) dX12_isNoNumber_0 rfl ?_
  refine x_bipush (M := M_X12_isNoNumber) dX12_isNoNumber_1 ?_
  refine x_lushr (M := M_X12_isNoNumber) dX12_isNoNumber_3 ?_
  refine x_ldc2 (M := M_X12_isNoNumber) dX12_isNoNumber_4 t_2994 ?_
  refine x_land (M := M_X12_isNoNumber) dX12_isNoNumber_7 ?_
  refine x_ldc2 (M := M_X12_isNoNumber) dX12_isNoNumber_8 t_2994 ?_
  refine x_lcmp (M := M_X12_isNoNumber) dX12_isNoNumber_11 ?_
  refine x_if_ne (M := M_X12_isNoNumber) (tgt := 29) dX12_isNoNumber_12 (by decide) (fun q0 => ?_) (fun q0 => ?_)
  · refine x_iconst (M := M_X12_isNoNumber) dX12_isNoNumber_29 ?_
    exact x_zret (M := M_X12_isNoNumber) dX12_isNoNumber_30 rfl (Or.inl rfl) ⟨by rw [f_X12_isNoNumber, if_neg q0], rfl⟩ (Nat.le_of_ble_eq_true rfl) (Nat.le_of_ble_eq_true rfl)
  · refine x_lload_n (M := M_X12_isNoNumber) dX12_isNoNumber_15 rfl ?_
    refine x_ldc2 (M := M_X12_isNoNumber) dX12_isNoNumber_16 t_2995 ?_
    refine x_land (M := M_X12_isNoNumber) dX12_isNoNumber_19 ?_
    refine x_lconst (M := M_X12_isNoNumber) dX12_isNoNumber_20 ?_
    refine x_lcmp (M := M_X12_isNoNumber) dX12_isNoNumber_21 ?_
    refine x_if_eq (M := M_X12_isNoNumber) (tgt := 29) dX12_isNoNumber_22 (by decide) (fun q1 => ?_) (fun q1 => ?_)
    · refine x_iconst (M := M_X12_isNoNumber) dX12_isNoNumber_29 ?_
      exact x_zret (M := M_X12_isNoNumber) dX12_isNoNumber_30 rfl (Or.inl rfl) ⟨by rw [f_X12_isNoNumber, if_pos q0, if_pos q1], rfl⟩ (Nat.le_of_ble_eq_true rfl) (Nat.le_of_ble_eq_true rfl)
    · refine x_iconst (M := M_X12_isNoNumber) dX12_isNoNumber_25 ?_
      refine x_goto (M := M_X12_isNoNumber) (tgt := 30) dX12_isNoNumber_26 (by decide) ?_
      exact x_zret (M := M_X12_isNoNumber) dX12_isNoNumber_30 rfl (Or.inr rfl) ⟨by rw [f_X12_isNoNumber, if_pos q0, if_neg q1], rfl⟩ (Nat.le_of_ble_eq_true rfl) (Nat.le_of_ble_eq_true rfl)
def F_X12_put (fs : List Value) (g6 : Int32) (c5 : Nat → Int32) (w0 : Int32) : List Value := (fs.set 6 (.int (g6 + (Int32.ofInt 1))))
def A5_X12_put (g6 : Int32) (c5 : Nat → Int32) (w0 : Int32) : Nat → Int32 := (upd c5 g6.toNatClampNeg (vp_nar .byte (w0.toInt8.toInt32)))
theorem l_X12_put {fs : List Value} {g6 : Int32} {c5 : Nat → Int32} {w0 : Int32} : (F_X12_put fs g6 c5 w0).length = fs.length := by
  unfold F_X12_put
  first | rfl | simp only [List.length_set]
theorem k_X12_put {fs : List Value} {g6 : Int32} {c5 : Nat → Int32} {w0 : Int32} {k : Nat} (hk : k ∉ ([6] : List Nat)) : (F_X12_put fs g6 c5 w0)[k]? = fs[k]? := by
  simp only [List.mem_cons, List.not_mem_nil, or_false, not_or] at hk
  unfold F_X12_put
  first | rfl | simp only [List.getElem?_set_ne (by omega : 6 ≠ k)]
def V6_X12_put (g6 : Int32) (c5 : Nat → Int32) (w0 : Int32) : Int32 := (g6 + (Int32.ofInt 1))
theorem v6_X12_put {fs : List Value} {g6 : Int32} {c5 : Nat → Int32} {w0 : Int32} (hn : fs.length = 135) (e6 : fs[6]? = some (.int g6)) : (F_X12_put fs g6 c5 w0)[6]? = some (.int (V6_X12_put g6 c5 w0)) := by
  unfold F_X12_put V6_X12_put
  exact (gs_eq (by simp only [List.length_set, hn]; decide))
theorem p_X12_put {l : Launch} {E : EE} (hl : l.stackTraces = false) {h : HP} {g6 : Int32} {c5 : Nat → Int32} {w0 : Int32} {a : Nat} {fs : List Value} (ha : ob h a = some (.inr (15, fs))) (hn : fs.length = 135) (e6 : fs[6]? = some (.int g6)) {r5 n5 : Nat} (e5 : fs[5]? = some (.ref r5)) (o5 : ob h r5 = some (.inl (2, n5, .inl c5))) (i0 : vp_in g6 n5) : en_C l E M_X12_put 0 0 0 [.ref a, .int w0] h (pR none (stt (stt h a (.inr (15, F_X12_put fs g6 c5 w0))) r5 (.inl (2, n5, .inl (A5_X12_put g6 c5 w0))))) := by
  refine en_mk m_X12_put rfl hl (Nat.le_of_ble_eq_true rfl) ?_
  refine x_heap (h' := (stt (stt h a (.inr (15, fs))) r5 (.inl (2, n5, .inl c5)))) (by rw [stt_id ha, stt_id o5]) ?_
  refine x_aload_n (M := M_X12_put) dX12_put_0 rfl ?_
  refine x_getf (M := M_X12_put) (ci := 15) (C := RX12) (T := TX12) (N := 135) (ty := tyX12) cl15 dX12_put_1 (ob_up (ob_df ha o5).symm (ob_at o5).1 (ob_self ha)) 5 (by decide) t_2396 e5 ?_
  refine x_aload_n (M := M_X12_put) dX12_put_4 rfl ?_
  refine x_getf (M := M_X12_put) (ci := 15) (C := RX12) (T := TX12) (N := 135) (ty := tyX12) cl15 dX12_put_5 (ob_up (ob_df ha o5).symm (ob_at o5).1 (ob_self ha)) 6 (by decide) t_2397 e6 ?_
  refine x_iload_n (M := M_X12_put) dX12_put_8 rfl ?_
  refine x_i2b (M := M_X12_put) dX12_put_9 ?_
  refine x_bast (M := M_X12_put) dX12_put_10 (ob_self (ob_oth ha o5)) i0 ?_
  refine x_heap (h' := (stt (stt h a (.inr (15, fs))) r5 (.inl (2, n5, .inl (upd c5 g6.toNatClampNeg (vp_nar .byte (w0.toInt8.toInt32))))))) (by rw [stt_stt (a := r5)]) ?_
  refine x_aload_n (M := M_X12_put) dX12_put_11 rfl ?_
  refine x_dup (M := M_X12_put) dX12_put_12 rfl ?_
  refine x_getf (M := M_X12_put) (ci := 15) (C := RX12) (T := TX12) (N := 135) (ty := tyX12) cl15 dX12_put_13 (ob_up (ob_df ha o5).symm (ob_at o5).1 (ob_self ha)) 6 (by decide) t_2397 e6 ?_
  refine x_iconst (M := M_X12_put) dX12_put_16 ?_
  refine x_iadd (M := M_X12_put) dX12_put_17 ?_
  refine x_put (M := M_X12_put) (ci := 15) (C := RX12) (T := TX12) (N := 135) (ty := tyX12) cl15 dX12_put_18 (ob_up (ob_df ha o5).symm (ob_at o5).1 (ob_self ha)) 6 (by decide) t_2397 (Or.inl rfl) (by simp only [List.length_set, hn]; decide) rfl ?_
  refine x_heap (h' := (stt (stt h a (.inr (15, (fs.set 6 (.int (g6 + (Int32.ofInt 1))))))) r5 (.inl (2, n5, .inl (upd c5 g6.toNatClampNeg (vp_nar .byte (w0.toInt8.toInt32))))))) (by rw [stt_sw (x := r5) (y := a) (ob_df ha o5).symm (ob_at o5).1 (ob_at ha).1, stt_stt (a := a)]) ?_
  exact x_vret (M := M_X12_put) dX12_put_21 rfl ⟨rfl, by rw [F_X12_put, A5_X12_put]⟩ (Nat.le_of_ble_eq_true rfl) (Nat.le_of_ble_eq_true rfl)
def f_X12_next (g30 : Int32) (c10 : Nat → Int32) : Int32 := (c10 ((g30 + (Int32.ofInt 1)) - (Int32.ofInt 1)).toNatClampNeg)
def F_X12_next (fs : List Value) (g30 : Int32) (c10 : Nat → Int32) : List Value := (fs.set 30 (.int (g30 + (Int32.ofInt 1))))
theorem l_X12_next {fs : List Value} {g30 : Int32} {c10 : Nat → Int32} : (F_X12_next fs g30 c10).length = fs.length := by
  unfold F_X12_next
  first | rfl | simp only [List.length_set]
theorem k_X12_next {fs : List Value} {g30 : Int32} {c10 : Nat → Int32} {k : Nat} (hk : k ∉ ([30] : List Nat)) : (F_X12_next fs g30 c10)[k]? = fs[k]? := by
  simp only [List.mem_cons, List.not_mem_nil, or_false, not_or] at hk
  unfold F_X12_next
  first | rfl | simp only [List.getElem?_set_ne (by omega : 30 ≠ k)]
def V30_X12_next (g30 : Int32) (c10 : Nat → Int32) : Int32 := (g30 + (Int32.ofInt 1))
theorem v30_X12_next {fs : List Value} {g30 : Int32} {c10 : Nat → Int32} (hn : fs.length = 135) (e30 : fs[30]? = some (.int g30)) : (F_X12_next fs g30 c10)[30]? = some (.int (V30_X12_next g30 c10)) := by
  unfold F_X12_next V30_X12_next
  exact (gs_eq (by simp only [List.length_set, hn]; decide))
theorem p_X12_next {l : Launch} {E : EE} (hl : l.stackTraces = false) {h : HP} {g30 : Int32} {c10 : Nat → Int32} {a : Nat} {fs : List Value} (ha : ob h a = some (.inr (15, fs))) (hn : fs.length = 135) (e30 : fs[30]? = some (.int g30)) {r10 n10 : Nat} (e10 : fs[10]? = some (.ref r10)) (o10 : ob h r10 = some (.inl (0, n10, .inl c10))) (i0 : vp_in ((g30 + (Int32.ofInt 1)) - (Int32.ofInt 1)) n10) : en_C l E M_X12_next 0 0 0 [.ref a] h (pR (some (.int (f_X12_next g30 c10))) (stt h a (.inr (15, F_X12_next fs g30 c10)))) := by
  refine en_mk m_X12_next rfl hl (Nat.le_of_ble_eq_true rfl) ?_
  refine x_heap (h' := (stt h a (.inr (15, fs)))) (by rw [stt_id ha]) ?_
  refine x_aload_n (M := M_X12_next) dX12_next_0 rfl ?_
  refine x_dup (M := M_X12_next) dX12_next_1 rfl ?_
  refine x_getf (M := M_X12_next) (ci := 15) (C := RX12) (T := TX12) (N := 135) (ty := tyX12) cl15 dX12_next_2 (ob_self ha) 30 (by decide) t_2421 e30 ?_
  refine x_iconst (M := M_X12_next) dX12_next_5 ?_
  refine x_iadd (M := M_X12_next) dX12_next_6 ?_
  refine x_put (M := M_X12_next) (ci := 15) (C := RX12) (T := TX12) (N := 135) (ty := tyX12) cl15 dX12_next_7 (ob_self ha) 30 (by decide) t_2421 (Or.inl rfl) (by simp only [List.length_set, hn]; decide) rfl ?_
  refine x_heap (h' := (stt h a (.inr (15, (fs.set 30 (.int (g30 + (Int32.ofInt 1)))))))) (by rw [stt_stt (a := a)]) ?_
  refine x_aload_n (M := M_X12_next) dX12_next_10 rfl ?_
  refine x_getf (M := M_X12_next) (ci := 15) (C := RX12) (T := TX12) (N := 135) (ty := tyX12) cl15 dX12_next_11 (ob_self ha) 10 (by decide) t_2401 (gs_ne (by decide) e10) ?_
  refine x_aload_n (M := M_X12_next) dX12_next_14 rfl ?_
  refine x_getf (M := M_X12_next) (ci := 15) (C := RX12) (T := TX12) (N := 135) (ty := tyX12) cl15 dX12_next_15 (ob_self ha) 30 (by decide) t_2421 (gs_eq (by simp only [List.length_set, hn]; decide)) ?_
  refine x_iconst (M := M_X12_next) dX12_next_18 ?_
  refine x_isub (M := M_X12_next) dX12_next_19 ?_
  refine x_iald (M := M_X12_next) dX12_next_20 (ob_oth ha o10) i0 ?_
  exact x_iret (M := M_X12_next) dX12_next_21 rfl ⟨rfl, by rw [F_X12_next]⟩ (Nat.le_of_ble_eq_true rfl) (Nat.le_of_ble_eq_true rfl)
def f_X12_drop (c9 : Nat → Int32) (c11 : Nat → Int32) (w0 : Int32) : Int32 := if (f_X12_isSlot w0) = 0 then if (f_X12_fails (Int32.ofInt 0) (Int32.ofInt 1) (Int32.ofInt 1)) = 0 then (f_X12_has c9 w0) else ((Int32.ofInt 0)) else (if (f_X12_fails (Int32.ofInt 0) (Int32.ofInt 0) (Int32.ofInt 1)) = 0 then (f_X12_has c9 w0) else ((Int32.ofInt 0)))
theorem b_X12_drop (c9 : Nat → Int32) (c11 : Nat → Int32) (w0 : Int32) : f_X12_drop c9 c11 w0 = 0 ∨ f_X12_drop c9 c11 w0 = 1 := (ite01 (ite01 (b_X12_has _ _) (Or.inl rfl)) (ite01 (b_X12_has _ _) (Or.inl rfl)))
def F_X12_drop (fs : List Value) (c9 : Nat → Int32) (c11 : Nat → Int32) (w0 : Int32) : List Value := if (f_X12_isSlot w0) = 0 then if (f_X12_fails (Int32.ofInt 0) (Int32.ofInt 1) (Int32.ofInt 1)) = 0 then (F_X12_clear (F_X12_fails (fs.set 0 (.int (Int32.ofInt 0))) (Int32.ofInt 0) (Int32.ofInt 1) (Int32.ofInt 1)) c9 c11 w0) else ((F_X12_fails (fs.set 0 (.int (Int32.ofInt 0))) (Int32.ofInt 0) (Int32.ofInt 1) (Int32.ofInt 1))) else (if (f_X12_fails (Int32.ofInt 0) (Int32.ofInt 0) (Int32.ofInt 1)) = 0 then (F_X12_clear (F_X12_fails (fs.set 0 (.int (Int32.ofInt 0))) (Int32.ofInt 0) (Int32.ofInt 0) (Int32.ofInt 1)) c9 c11 w0) else ((F_X12_fails (fs.set 0 (.int (Int32.ofInt 0))) (Int32.ofInt 0) (Int32.ofInt 0) (Int32.ofInt 1))))
def A9_X12_drop (c9 : Nat → Int32) (c11 : Nat → Int32) (w0 : Int32) : Nat → Int32 := if (f_X12_isSlot w0) = 0 then if (f_X12_fails (Int32.ofInt 0) (Int32.ofInt 1) (Int32.ofInt 1)) = 0 then (A9_X12_clear c9 c11 w0) else (c9) else (if (f_X12_fails (Int32.ofInt 0) (Int32.ofInt 0) (Int32.ofInt 1)) = 0 then (A9_X12_clear c9 c11 w0) else (c9))
def A11_X12_drop (c9 : Nat → Int32) (c11 : Nat → Int32) (w0 : Int32) : Nat → Int32 := if (f_X12_isSlot w0) = 0 then if (f_X12_fails (Int32.ofInt 0) (Int32.ofInt 1) (Int32.ofInt 1)) = 0 then (A11_X12_clear c9 c11 w0) else (c11) else (if (f_X12_fails (Int32.ofInt 0) (Int32.ofInt 0) (Int32.ofInt 1)) = 0 then (A11_X12_clear c9 c11 w0) else (c11))
theorem l_X12_drop {fs : List Value} {c9 : Nat → Int32} {c11 : Nat → Int32} {w0 : Int32} : (F_X12_drop fs c9 c11 w0).length = fs.length := by
  unfold F_X12_drop
  repeat' split
  all_goals first | rfl | simp only [List.length_set, l_X12_clear, l_X12_fails]
theorem k_X12_drop {fs : List Value} {c9 : Nat → Int32} {c11 : Nat → Int32} {w0 : Int32} {k : Nat} (hk : k ∉ ([0] : List Nat)) : (F_X12_drop fs c9 c11 w0)[k]? = fs[k]? := by
  simp only [List.mem_cons, List.not_mem_nil, or_false, not_or] at hk
  unfold F_X12_drop
  repeat' split
  all_goals first | rfl | simp only [List.getElem?_set_ne (by omega : 0 ≠ k), k_X12_clear (k := k) (by simp <;> omega), k_X12_fails (k := k) (by simp <;> omega)]
def V0_X12_drop (c9 : Nat → Int32) (c11 : Nat → Int32) (w0 : Int32) : Int32 := if (f_X12_isSlot w0) = 0 then if (f_X12_fails (Int32.ofInt 0) (Int32.ofInt 1) (Int32.ofInt 1)) = 0 then (V0_X12_fails (Int32.ofInt 0) (Int32.ofInt 1) (Int32.ofInt 1)) else ((V0_X12_fails (Int32.ofInt 0) (Int32.ofInt 1) (Int32.ofInt 1))) else (if (f_X12_fails (Int32.ofInt 0) (Int32.ofInt 0) (Int32.ofInt 1)) = 0 then (V0_X12_fails (Int32.ofInt 0) (Int32.ofInt 0) (Int32.ofInt 1)) else ((V0_X12_fails (Int32.ofInt 0) (Int32.ofInt 0) (Int32.ofInt 1))))
theorem v0_X12_drop {fs : List Value} {c9 : Nat → Int32} {c11 : Nat → Int32} {w0 : Int32} (hn : fs.length = 135) : (F_X12_drop fs c9 c11 w0)[0]? = some (.int (V0_X12_drop c9 c11 w0)) := by
  unfold F_X12_drop V0_X12_drop
  exact (gi (gi ((k_X12_clear (by decide)).trans (v0_X12_fails (by simp only [List.length_set, hn, l_X12_clear, l_X12_fails]) (gs_eq (by simp only [List.length_set, hn, l_X12_clear, l_X12_fails]; decide)))) (v0_X12_fails (by simp only [List.length_set, hn, l_X12_clear, l_X12_fails]) (gs_eq (by simp only [List.length_set, hn, l_X12_clear, l_X12_fails]; decide)))) (gi ((k_X12_clear (by decide)).trans (v0_X12_fails (by simp only [List.length_set, hn, l_X12_clear, l_X12_fails]) (gs_eq (by simp only [List.length_set, hn, l_X12_clear, l_X12_fails]; decide)))) (v0_X12_fails (by simp only [List.length_set, hn, l_X12_clear, l_X12_fails]) (gs_eq (by simp only [List.length_set, hn, l_X12_clear, l_X12_fails]; decide)))))
theorem p_X12_drop {l : Launch} {E : EE} (hl : l.stackTraces = false) {h : HP} {c9 : Nat → Int32} {c11 : Nat → Int32} {w0 : Int32} {a : Nat} {fs : List Value} (ha : ob h a = some (.inr (15, fs))) (hn : fs.length = 135) {r9 n9 : Nat} (e9 : fs[9]? = some (.ref r9)) (o9 : ob h r9 = some (.inl (0, n9, .inl c9))) {r11 n11 : Nat} (e11 : fs[11]? = some (.ref r11)) (o11 : ob h r11 = some (.inl (0, n11, .inl c11))) (d9_11 : r9 ≠ r11) (i0 : (¬ (f_X12_isSlot w0) = 0) → ((f_X12_fails (Int32.ofInt 0) (Int32.ofInt 0) (Int32.ofInt 1)) = 0) → (vp_in w0 n9)) (i1 : (¬ (f_X12_isSlot w0) = 0) → ((f_X12_fails (Int32.ofInt 0) (Int32.ofInt 0) (Int32.ofInt 1)) = 0) → (vp_in w0 n9)) (i2 : (¬ (f_X12_isSlot w0) = 0) → ((f_X12_fails (Int32.ofInt 0) (Int32.ofInt 0) (Int32.ofInt 1)) = 0) → (vp_in w0 n11)) (i3 : ((f_X12_isSlot w0) = 0) → ((f_X12_fails (Int32.ofInt 0) (Int32.ofInt 1) (Int32.ofInt 1)) = 0) → (vp_in w0 n9)) (i4 : ((f_X12_isSlot w0) = 0) → ((f_X12_fails (Int32.ofInt 0) (Int32.ofInt 1) (Int32.ofInt 1)) = 0) → (vp_in w0 n9)) (i5 : ((f_X12_isSlot w0) = 0) → ((f_X12_fails (Int32.ofInt 0) (Int32.ofInt 1) (Int32.ofInt 1)) = 0) → (vp_in w0 n11)) : en_C l E M_X12_drop 1 0 0 [.ref a, .int w0] h (pR (some (.int (f_X12_drop c9 c11 w0))) (stt (stt (stt h a (.inr (15, F_X12_drop fs c9 c11 w0))) r9 (.inl (0, n9, .inl (A9_X12_drop c9 c11 w0)))) r11 (.inl (0, n11, .inl (A11_X12_drop c9 c11 w0))))) := by
  refine en_mk m_X12_drop rfl hl (Nat.le_of_ble_eq_true rfl) ?_
  refine x_heap (h' := (stt (stt (stt h a (.inr (15, fs))) r9 (.inl (0, n9, .inl c9))) r11 (.inl (0, n11, .inl c11)))) (by rw [stt_id ha, stt_id o9, stt_id o11]) ?_
  refine x_aload_n (M := M_X12_drop) dX12_drop_0 rfl ?_
  refine x_iconst (M := M_X12_drop) dX12_drop_1 ?_
  refine x_put (M := M_X12_drop) (ci := 15) (C := RX12) (T := TX12) (N := 135) (ty := tyX12) cl15 dX12_drop_2 (ob_up (ob_df ha o11).symm (ob_at o11).1 (ob_up (ob_df ha o9).symm (ob_at o9).1 (ob_self ha))) 0 (by decide) t_2391 (Or.inl rfl) (by simp only [List.length_set, hn]; decide) rfl ?_
  refine x_heap (h' := (stt (stt (stt h a (.inr (15, (fs.set 0 (.int (Int32.ofInt 0)))))) r9 (.inl (0, n9, .inl c9))) r11 (.inl (0, n11, .inl c11)))) (by rw [stt_sw (x := r11) (y := a) (ob_df ha o11).symm (ob_at o11).1 (ob_at ha).1, stt_sw (x := r9) (y := a) (ob_df ha o9).symm (ob_at o9).1 (ob_at ha).1, stt_stt (a := a)]) ?_
  refine x_aload_n (M := M_X12_drop) dX12_drop_5 rfl ?_
  refine x_iload_n (M := M_X12_drop) dX12_drop_6 rfl ?_
  refine x_callSR (M := M_X12_drop) (M' := M_X12_isSlot) rfl rfl dX12_drop_7 m_X12_isSlot t_2841 t_2842 (p_X12_isSlot hl) rfl rfl (Nat.le_of_ble_eq_true rfl) (Nat.le_of_ble_eq_true rfl) (Nat.le_of_ble_eq_true rfl) (Nat.le_of_ble_eq_true rfl) ?_
  refine x_if_ne (M := M_X12_drop) (tgt := 17) dX12_drop_10 (by decide) (fun q0 => ?_) (fun q0 => ?_)
  · refine x_iconst (M := M_X12_drop) dX12_drop_17 ?_
    refine x_iconst (M := M_X12_drop) dX12_drop_18 ?_
    refine x_callVR (M := M_X12_drop) (M' := M_X12_fails) rfl rfl dX12_drop_19 m_X12_fails t_2805 t_2807 s_157 (p_X12_fails hl (ob_up (ob_df ha o11).symm (ob_at o11).1 (ob_up (ob_df ha o9).symm (ob_at o9).1 (ob_self ha))) (by simp only [List.length_set, hn]) (gs_eq (by simp only [List.length_set, hn]; decide))) rfl rfl (ob_up (ob_df ha o11).symm (ob_at o11).1 (ob_up (ob_df ha o9).symm (ob_at o9).1 (ob_self ha))) rfl (Nat.le_of_ble_eq_true rfl) (Nat.le_of_ble_eq_true rfl) (Nat.le_of_ble_eq_true rfl) (Nat.le_of_ble_eq_true rfl) ?_
    refine x_heap (h' := (stt (stt (stt h a (.inr (15, (F_X12_fails (fs.set 0 (.int (Int32.ofInt 0))) (Int32.ofInt 0) (Int32.ofInt 0) (Int32.ofInt 1))))) r9 (.inl (0, n9, .inl c9))) r11 (.inl (0, n11, .inl c11)))) (by rw [stt_sw (x := r11) (y := a) (ob_df ha o11).symm (ob_at o11).1 (ob_at ha).1, stt_sw (x := r9) (y := a) (ob_df ha o9).symm (ob_at o9).1 (ob_at ha).1, stt_stt (a := a)]) ?_
    refine x_if_eq (M := M_X12_drop) (tgt := 27) dX12_drop_22 (by decide) (fun q1 => ?_) (fun q1 => ?_)
    · refine x_aload_n (M := M_X12_drop) dX12_drop_27 rfl ?_
      refine x_iload_n (M := M_X12_drop) dX12_drop_28 rfl ?_
      refine x_callVR (M := M_X12_drop) (M' := M_X12_has) rfl rfl dX12_drop_29 m_X12_has t_3033 t_3035 s_197 (p_X12_has hl (ob_up (ob_df ha o11).symm (ob_at o11).1 (ob_up (ob_df ha o9).symm (ob_at o9).1 (ob_self ha))) ((k_X12_fails (by decide)).trans (gs_ne (by decide) e9)) (ob_up d9_11.symm (ob_at o11).1 (ob_self (ob_oth ha o9))) (i0 q0 q1)) rfl rfl (ob_up (ob_df ha o11).symm (ob_at o11).1 (ob_up (ob_df ha o9).symm (ob_at o9).1 (ob_self ha))) rfl (Nat.le_of_ble_eq_true rfl) (Nat.le_of_ble_eq_true rfl) (Nat.le_of_ble_eq_true rfl) (Nat.le_of_ble_eq_true rfl) ?_
      refine x_istore_n (M := M_X12_drop) dX12_drop_32 (by decide) rfl ?_
      refine x_norm (lv' := [some (.ref a), some (.int w0), some (.int (f_X12_has c9 w0))]) rfl rfl rfl rfl rfl ?_
      refine x_aload_n (M := M_X12_drop) dX12_drop_33 rfl ?_
      refine x_iload_n (M := M_X12_drop) dX12_drop_34 rfl ?_
      refine x_callVR (M := M_X12_drop) (M' := M_X12_clear) rfl rfl dX12_drop_35 m_X12_clear t_2848 t_2850 s_161 (p_X12_clear hl (ob_up (ob_df ha o11).symm (ob_at o11).1 (ob_up (ob_df ha o9).symm (ob_at o9).1 (ob_self ha))) ((k_X12_fails (by decide)).trans (gs_ne (by decide) e9)) (ob_up d9_11.symm (ob_at o11).1 (ob_self (ob_oth ha o9))) ((k_X12_fails (by decide)).trans (gs_ne (by decide) e11)) (ob_self (ob_up d9_11 (ob_at o9).1 (ob_oth ha o11))) d9_11 (i1 q0 q1) (i2 q0 q1)) rfl rfl (ob_up (ob_df ha o11).symm (ob_at o11).1 (ob_up (ob_df ha o9).symm (ob_at o9).1 (ob_self ha))) rfl (Nat.le_of_ble_eq_true rfl) (Nat.le_of_ble_eq_true rfl) (Nat.le_of_ble_eq_true rfl) (Nat.le_of_ble_eq_true rfl) ?_
      refine x_heap (h' := (stt (stt (stt h a (.inr (15, (F_X12_clear (F_X12_fails (fs.set 0 (.int (Int32.ofInt 0))) (Int32.ofInt 0) (Int32.ofInt 0) (Int32.ofInt 1)) c9 c11 w0)))) r9 (.inl (0, n9, .inl (A9_X12_clear c9 c11 w0)))) r11 (.inl (0, n11, .inl (A11_X12_clear c9 c11 w0))))) (by rw [stt_sw (x := r11) (y := a) (ob_df ha o11).symm (ob_at o11).1 (ob_at ha).1, stt_sw (x := r9) (y := a) (ob_df ha o9).symm (ob_at o9).1 (ob_at ha).1, stt_stt (a := a), stt_sw (x := r11) (y := r9) d9_11.symm (ob_at o11).1 (ob_at o9).1, stt_stt (a := r9), stt_stt (a := r11)]) ?_
      refine x_iload_n (M := M_X12_drop) dX12_drop_38 rfl ?_
      exact x_zret (M := M_X12_drop) dX12_drop_39 rfl (b_X12_has _ _) ⟨by rw [f_X12_drop, if_neg q0, if_pos q1], by rw [F_X12_drop, if_neg q0, if_pos q1, A9_X12_drop, if_neg q0, if_pos q1, A11_X12_drop, if_neg q0, if_pos q1]⟩ (Nat.le_of_ble_eq_true rfl) (Nat.le_of_ble_eq_true rfl)
    · refine x_iconst (M := M_X12_drop) dX12_drop_25 ?_
      exact x_zret (M := M_X12_drop) dX12_drop_26 rfl (Or.inl rfl) ⟨by rw [f_X12_drop, if_neg q0, if_neg q1], by rw [F_X12_drop, if_neg q0, if_neg q1, A9_X12_drop, if_neg q0, if_neg q1, A11_X12_drop, if_neg q0, if_neg q1]⟩ (Nat.le_of_ble_eq_true rfl) (Nat.le_of_ble_eq_true rfl)
  · refine x_iconst (M := M_X12_drop) dX12_drop_13 ?_
    refine x_goto (M := M_X12_drop) (tgt := 18) dX12_drop_14 (by decide) ?_
    refine x_iconst (M := M_X12_drop) dX12_drop_18 ?_
    refine x_callVR (M := M_X12_drop) (M' := M_X12_fails) rfl rfl dX12_drop_19 m_X12_fails t_2805 t_2807 s_157 (p_X12_fails hl (ob_up (ob_df ha o11).symm (ob_at o11).1 (ob_up (ob_df ha o9).symm (ob_at o9).1 (ob_self ha))) (by simp only [List.length_set, hn, l_X12_clear, l_X12_fails]) (gs_eq (by simp only [List.length_set, hn, l_X12_clear, l_X12_fails]; decide))) rfl rfl (ob_up (ob_df ha o11).symm (ob_at o11).1 (ob_up (ob_df ha o9).symm (ob_at o9).1 (ob_self ha))) rfl (Nat.le_of_ble_eq_true rfl) (Nat.le_of_ble_eq_true rfl) (Nat.le_of_ble_eq_true rfl) (Nat.le_of_ble_eq_true rfl) ?_
    refine x_heap (h' := (stt (stt (stt h a (.inr (15, (F_X12_fails (fs.set 0 (.int (Int32.ofInt 0))) (Int32.ofInt 0) (Int32.ofInt 1) (Int32.ofInt 1))))) r9 (.inl (0, n9, .inl c9))) r11 (.inl (0, n11, .inl c11)))) (by rw [stt_sw (x := r11) (y := a) (ob_df ha o11).symm (ob_at o11).1 (ob_at ha).1, stt_sw (x := r9) (y := a) (ob_df ha o9).symm (ob_at o9).1 (ob_at ha).1, stt_stt (a := a)]) ?_
    refine x_if_eq (M := M_X12_drop) (tgt := 27) dX12_drop_22 (by decide) (fun q1 => ?_) (fun q1 => ?_)
    · refine x_aload_n (M := M_X12_drop) dX12_drop_27 rfl ?_
      refine x_iload_n (M := M_X12_drop) dX12_drop_28 rfl ?_
      refine x_callVR (M := M_X12_drop) (M' := M_X12_has) rfl rfl dX12_drop_29 m_X12_has t_3033 t_3035 s_197 (p_X12_has hl (ob_up (ob_df ha o11).symm (ob_at o11).1 (ob_up (ob_df ha o9).symm (ob_at o9).1 (ob_self ha))) ((k_X12_fails (by decide)).trans (gs_ne (by decide) e9)) (ob_up d9_11.symm (ob_at o11).1 (ob_self (ob_oth ha o9))) (i3 q0 q1)) rfl rfl (ob_up (ob_df ha o11).symm (ob_at o11).1 (ob_up (ob_df ha o9).symm (ob_at o9).1 (ob_self ha))) rfl (Nat.le_of_ble_eq_true rfl) (Nat.le_of_ble_eq_true rfl) (Nat.le_of_ble_eq_true rfl) (Nat.le_of_ble_eq_true rfl) ?_
      refine x_istore_n (M := M_X12_drop) dX12_drop_32 (by decide) rfl ?_
      refine x_norm (lv' := [some (.ref a), some (.int w0), some (.int (f_X12_has c9 w0))]) rfl rfl rfl rfl rfl ?_
      refine x_aload_n (M := M_X12_drop) dX12_drop_33 rfl ?_
      refine x_iload_n (M := M_X12_drop) dX12_drop_34 rfl ?_
      refine x_callVR (M := M_X12_drop) (M' := M_X12_clear) rfl rfl dX12_drop_35 m_X12_clear t_2848 t_2850 s_161 (p_X12_clear hl (ob_up (ob_df ha o11).symm (ob_at o11).1 (ob_up (ob_df ha o9).symm (ob_at o9).1 (ob_self ha))) ((k_X12_fails (by decide)).trans (gs_ne (by decide) e9)) (ob_up d9_11.symm (ob_at o11).1 (ob_self (ob_oth ha o9))) ((k_X12_fails (by decide)).trans (gs_ne (by decide) e11)) (ob_self (ob_up d9_11 (ob_at o9).1 (ob_oth ha o11))) d9_11 (i4 q0 q1) (i5 q0 q1)) rfl rfl (ob_up (ob_df ha o11).symm (ob_at o11).1 (ob_up (ob_df ha o9).symm (ob_at o9).1 (ob_self ha))) rfl (Nat.le_of_ble_eq_true rfl) (Nat.le_of_ble_eq_true rfl) (Nat.le_of_ble_eq_true rfl) (Nat.le_of_ble_eq_true rfl) ?_
      refine x_heap (h' := (stt (stt (stt h a (.inr (15, (F_X12_clear (F_X12_fails (fs.set 0 (.int (Int32.ofInt 0))) (Int32.ofInt 0) (Int32.ofInt 1) (Int32.ofInt 1)) c9 c11 w0)))) r9 (.inl (0, n9, .inl (A9_X12_clear c9 c11 w0)))) r11 (.inl (0, n11, .inl (A11_X12_clear c9 c11 w0))))) (by rw [stt_sw (x := r11) (y := a) (ob_df ha o11).symm (ob_at o11).1 (ob_at ha).1, stt_sw (x := r9) (y := a) (ob_df ha o9).symm (ob_at o9).1 (ob_at ha).1, stt_stt (a := a), stt_sw (x := r11) (y := r9) d9_11.symm (ob_at o11).1 (ob_at o9).1, stt_stt (a := r9), stt_stt (a := r11)]) ?_
      refine x_iload_n (M := M_X12_drop) dX12_drop_38 rfl ?_
      exact x_zret (M := M_X12_drop) dX12_drop_39 rfl (b_X12_has _ _) ⟨by rw [f_X12_drop, if_pos q0, if_pos q1], by rw [F_X12_drop, if_pos q0, if_pos q1, A9_X12_drop, if_pos q0, if_pos q1, A11_X12_drop, if_pos q0, if_pos q1]⟩ (Nat.le_of_ble_eq_true rfl) (Nat.le_of_ble_eq_true rfl)
    · refine x_iconst (M := M_X12_drop) dX12_drop_25 ?_
      exact x_zret (M := M_X12_drop) dX12_drop_26 rfl (Or.inl rfl) ⟨by rw [f_X12_drop, if_pos q0, if_neg q1], by rw [F_X12_drop, if_pos q0, if_neg q1, A9_X12_drop, if_pos q0, if_neg q1, A11_X12_drop, if_pos q0, if_neg q1]⟩ (Nat.le_of_ble_eq_true rfl) (Nat.le_of_ble_eq_true rfl)
def f_X12_plan (c9 : Nat → Int32) (c10 : Nat → Int32) (w0 : Int32) (w1 : Int32) : Int32 := if (f_X12_isSlot w0) = 0 then if (f_X12_fails (Int32.ofInt 0) (Int32.ofInt 1) (Int32.ofInt 1)) = 0 then if (f_X12_in (w1.toInt64) (Int64.ofNat ((0 : Fin 2) : Nat)) (((c9 w0.toNatClampNeg) - (Int32.ofInt 1)).toInt64)) = 0 then if (f_X12_fails (V0_X12_fails (Int32.ofInt 0) (Int32.ofInt 1) (Int32.ofInt 1)) (Int32.ofInt 1) (Int32.ofInt 1)) = 0 then (c10 (((Int16.ofInt 2048).toInt32 * w0) + w1).toNatClampNeg) else ((Int32.ofInt 0)) else (if (f_X12_fails (V0_X12_fails (Int32.ofInt 0) (Int32.ofInt 1) (Int32.ofInt 1)) (Int32.ofInt 0) (Int32.ofInt 1)) = 0 then (c10 (((Int16.ofInt 2048).toInt32 * w0) + w1).toNatClampNeg) else ((Int32.ofInt 0))) else ((Int32.ofInt 0)) else (if (f_X12_fails (Int32.ofInt 0) (Int32.ofInt 0) (Int32.ofInt 1)) = 0 then if (f_X12_in (w1.toInt64) (Int64.ofNat ((0 : Fin 2) : Nat)) (((c9 w0.toNatClampNeg) - (Int32.ofInt 1)).toInt64)) = 0 then if (f_X12_fails (V0_X12_fails (Int32.ofInt 0) (Int32.ofInt 0) (Int32.ofInt 1)) (Int32.ofInt 1) (Int32.ofInt 1)) = 0 then (c10 (((Int16.ofInt 2048).toInt32 * w0) + w1).toNatClampNeg) else ((Int32.ofInt 0)) else (if (f_X12_fails (V0_X12_fails (Int32.ofInt 0) (Int32.ofInt 0) (Int32.ofInt 1)) (Int32.ofInt 0) (Int32.ofInt 1)) = 0 then (c10 (((Int16.ofInt 2048).toInt32 * w0) + w1).toNatClampNeg) else ((Int32.ofInt 0))) else ((Int32.ofInt 0)))
def F_X12_plan (fs : List Value) (c9 : Nat → Int32) (c10 : Nat → Int32) (w0 : Int32) (w1 : Int32) : List Value := if (f_X12_isSlot w0) = 0 then if (f_X12_fails (Int32.ofInt 0) (Int32.ofInt 1) (Int32.ofInt 1)) = 0 then if (f_X12_in (w1.toInt64) (Int64.ofNat ((0 : Fin 2) : Nat)) (((c9 w0.toNatClampNeg) - (Int32.ofInt 1)).toInt64)) = 0 then if (f_X12_fails (V0_X12_fails (Int32.ofInt 0) (Int32.ofInt 1) (Int32.ofInt 1)) (Int32.ofInt 1) (Int32.ofInt 1)) = 0 then (F_X12_fails (F_X12_fails (fs.set 0 (.int (Int32.ofInt 0))) (Int32.ofInt 0) (Int32.ofInt 1) (Int32.ofInt 1)) (V0_X12_fails (Int32.ofInt 0) (Int32.ofInt 1) (Int32.ofInt 1)) (Int32.ofInt 1) (Int32.ofInt 1)) else ((F_X12_fails (F_X12_fails (fs.set 0 (.int (Int32.ofInt 0))) (Int32.ofInt 0) (Int32.ofInt 1) (Int32.ofInt 1)) (V0_X12_fails (Int32.ofInt 0) (Int32.ofInt 1) (Int32.ofInt 1)) (Int32.ofInt 1) (Int32.ofInt 1))) else (if (f_X12_fails (V0_X12_fails (Int32.ofInt 0) (Int32.ofInt 1) (Int32.ofInt 1)) (Int32.ofInt 0) (Int32.ofInt 1)) = 0 then (F_X12_fails (F_X12_fails (fs.set 0 (.int (Int32.ofInt 0))) (Int32.ofInt 0) (Int32.ofInt 1) (Int32.ofInt 1)) (V0_X12_fails (Int32.ofInt 0) (Int32.ofInt 1) (Int32.ofInt 1)) (Int32.ofInt 0) (Int32.ofInt 1)) else ((F_X12_fails (F_X12_fails (fs.set 0 (.int (Int32.ofInt 0))) (Int32.ofInt 0) (Int32.ofInt 1) (Int32.ofInt 1)) (V0_X12_fails (Int32.ofInt 0) (Int32.ofInt 1) (Int32.ofInt 1)) (Int32.ofInt 0) (Int32.ofInt 1)))) else ((F_X12_fails (fs.set 0 (.int (Int32.ofInt 0))) (Int32.ofInt 0) (Int32.ofInt 1) (Int32.ofInt 1))) else (if (f_X12_fails (Int32.ofInt 0) (Int32.ofInt 0) (Int32.ofInt 1)) = 0 then if (f_X12_in (w1.toInt64) (Int64.ofNat ((0 : Fin 2) : Nat)) (((c9 w0.toNatClampNeg) - (Int32.ofInt 1)).toInt64)) = 0 then if (f_X12_fails (V0_X12_fails (Int32.ofInt 0) (Int32.ofInt 0) (Int32.ofInt 1)) (Int32.ofInt 1) (Int32.ofInt 1)) = 0 then (F_X12_fails (F_X12_fails (fs.set 0 (.int (Int32.ofInt 0))) (Int32.ofInt 0) (Int32.ofInt 0) (Int32.ofInt 1)) (V0_X12_fails (Int32.ofInt 0) (Int32.ofInt 0) (Int32.ofInt 1)) (Int32.ofInt 1) (Int32.ofInt 1)) else ((F_X12_fails (F_X12_fails (fs.set 0 (.int (Int32.ofInt 0))) (Int32.ofInt 0) (Int32.ofInt 0) (Int32.ofInt 1)) (V0_X12_fails (Int32.ofInt 0) (Int32.ofInt 0) (Int32.ofInt 1)) (Int32.ofInt 1) (Int32.ofInt 1))) else (if (f_X12_fails (V0_X12_fails (Int32.ofInt 0) (Int32.ofInt 0) (Int32.ofInt 1)) (Int32.ofInt 0) (Int32.ofInt 1)) = 0 then (F_X12_fails (F_X12_fails (fs.set 0 (.int (Int32.ofInt 0))) (Int32.ofInt 0) (Int32.ofInt 0) (Int32.ofInt 1)) (V0_X12_fails (Int32.ofInt 0) (Int32.ofInt 0) (Int32.ofInt 1)) (Int32.ofInt 0) (Int32.ofInt 1)) else ((F_X12_fails (F_X12_fails (fs.set 0 (.int (Int32.ofInt 0))) (Int32.ofInt 0) (Int32.ofInt 0) (Int32.ofInt 1)) (V0_X12_fails (Int32.ofInt 0) (Int32.ofInt 0) (Int32.ofInt 1)) (Int32.ofInt 0) (Int32.ofInt 1)))) else ((F_X12_fails (fs.set 0 (.int (Int32.ofInt 0))) (Int32.ofInt 0) (Int32.ofInt 0) (Int32.ofInt 1))))
theorem l_X12_plan {fs : List Value} {c9 : Nat → Int32} {c10 : Nat → Int32} {w0 : Int32} {w1 : Int32} : (F_X12_plan fs c9 c10 w0 w1).length = fs.length := by
  unfold F_X12_plan
  repeat' split
  all_goals first | rfl | simp only [List.length_set, l_X12_fails]
theorem k_X12_plan {fs : List Value} {c9 : Nat → Int32} {c10 : Nat → Int32} {w0 : Int32} {w1 : Int32} {k : Nat} (hk : k ∉ ([0] : List Nat)) : (F_X12_plan fs c9 c10 w0 w1)[k]? = fs[k]? := by
  simp only [List.mem_cons, List.not_mem_nil, or_false, not_or] at hk
  unfold F_X12_plan
  repeat' split
  all_goals first | rfl | simp only [List.getElem?_set_ne (by omega : 0 ≠ k), k_X12_fails (k := k) (by simp <;> omega)]
def V0_X12_plan (c9 : Nat → Int32) (c10 : Nat → Int32) (w0 : Int32) (w1 : Int32) : Int32 := if (f_X12_isSlot w0) = 0 then if (f_X12_fails (Int32.ofInt 0) (Int32.ofInt 1) (Int32.ofInt 1)) = 0 then if (f_X12_in (w1.toInt64) (Int64.ofNat ((0 : Fin 2) : Nat)) (((c9 w0.toNatClampNeg) - (Int32.ofInt 1)).toInt64)) = 0 then if (f_X12_fails (V0_X12_fails (Int32.ofInt 0) (Int32.ofInt 1) (Int32.ofInt 1)) (Int32.ofInt 1) (Int32.ofInt 1)) = 0 then (V0_X12_fails (V0_X12_fails (Int32.ofInt 0) (Int32.ofInt 1) (Int32.ofInt 1)) (Int32.ofInt 1) (Int32.ofInt 1)) else ((V0_X12_fails (V0_X12_fails (Int32.ofInt 0) (Int32.ofInt 1) (Int32.ofInt 1)) (Int32.ofInt 1) (Int32.ofInt 1))) else (if (f_X12_fails (V0_X12_fails (Int32.ofInt 0) (Int32.ofInt 1) (Int32.ofInt 1)) (Int32.ofInt 0) (Int32.ofInt 1)) = 0 then (V0_X12_fails (V0_X12_fails (Int32.ofInt 0) (Int32.ofInt 1) (Int32.ofInt 1)) (Int32.ofInt 0) (Int32.ofInt 1)) else ((V0_X12_fails (V0_X12_fails (Int32.ofInt 0) (Int32.ofInt 1) (Int32.ofInt 1)) (Int32.ofInt 0) (Int32.ofInt 1)))) else ((V0_X12_fails (Int32.ofInt 0) (Int32.ofInt 1) (Int32.ofInt 1))) else (if (f_X12_fails (Int32.ofInt 0) (Int32.ofInt 0) (Int32.ofInt 1)) = 0 then if (f_X12_in (w1.toInt64) (Int64.ofNat ((0 : Fin 2) : Nat)) (((c9 w0.toNatClampNeg) - (Int32.ofInt 1)).toInt64)) = 0 then if (f_X12_fails (V0_X12_fails (Int32.ofInt 0) (Int32.ofInt 0) (Int32.ofInt 1)) (Int32.ofInt 1) (Int32.ofInt 1)) = 0 then (V0_X12_fails (V0_X12_fails (Int32.ofInt 0) (Int32.ofInt 0) (Int32.ofInt 1)) (Int32.ofInt 1) (Int32.ofInt 1)) else ((V0_X12_fails (V0_X12_fails (Int32.ofInt 0) (Int32.ofInt 0) (Int32.ofInt 1)) (Int32.ofInt 1) (Int32.ofInt 1))) else (if (f_X12_fails (V0_X12_fails (Int32.ofInt 0) (Int32.ofInt 0) (Int32.ofInt 1)) (Int32.ofInt 0) (Int32.ofInt 1)) = 0 then (V0_X12_fails (V0_X12_fails (Int32.ofInt 0) (Int32.ofInt 0) (Int32.ofInt 1)) (Int32.ofInt 0) (Int32.ofInt 1)) else ((V0_X12_fails (V0_X12_fails (Int32.ofInt 0) (Int32.ofInt 0) (Int32.ofInt 1)) (Int32.ofInt 0) (Int32.ofInt 1)))) else ((V0_X12_fails (Int32.ofInt 0) (Int32.ofInt 0) (Int32.ofInt 1))))
theorem v0_X12_plan {fs : List Value} {c9 : Nat → Int32} {c10 : Nat → Int32} {w0 : Int32} {w1 : Int32} (hn : fs.length = 135) : (F_X12_plan fs c9 c10 w0 w1)[0]? = some (.int (V0_X12_plan c9 c10 w0 w1)) := by
  unfold F_X12_plan V0_X12_plan
  exact (gi (gi (gi (gi (v0_X12_fails (by simp only [List.length_set, hn, l_X12_fails]) (v0_X12_fails (by simp only [List.length_set, hn, l_X12_fails]) (gs_eq (by simp only [List.length_set, hn, l_X12_fails]; decide)))) (v0_X12_fails (by simp only [List.length_set, hn, l_X12_fails]) (v0_X12_fails (by simp only [List.length_set, hn, l_X12_fails]) (gs_eq (by simp only [List.length_set, hn, l_X12_fails]; decide))))) (gi (v0_X12_fails (by simp only [List.length_set, hn, l_X12_fails]) (v0_X12_fails (by simp only [List.length_set, hn, l_X12_fails]) (gs_eq (by simp only [List.length_set, hn, l_X12_fails]; decide)))) (v0_X12_fails (by simp only [List.length_set, hn, l_X12_fails]) (v0_X12_fails (by simp only [List.length_set, hn, l_X12_fails]) (gs_eq (by simp only [List.length_set, hn, l_X12_fails]; decide)))))) (v0_X12_fails (by simp only [List.length_set, hn, l_X12_fails]) (gs_eq (by simp only [List.length_set, hn, l_X12_fails]; decide)))) (gi (gi (gi (v0_X12_fails (by simp only [List.length_set, hn, l_X12_fails]) (v0_X12_fails (by simp only [List.length_set, hn, l_X12_fails]) (gs_eq (by simp only [List.length_set, hn, l_X12_fails]; decide)))) (v0_X12_fails (by simp only [List.length_set, hn, l_X12_fails]) (v0_X12_fails (by simp only [List.length_set, hn, l_X12_fails]) (gs_eq (by simp only [List.length_set, hn, l_X12_fails]; decide))))) (gi (v0_X12_fails (by simp only [List.length_set, hn, l_X12_fails]) (v0_X12_fails (by simp only [List.length_set, hn, l_X12_fails]) (gs_eq (by simp only [List.length_set, hn, l_X12_fails]; decide)))) (v0_X12_fails (by simp only [List.length_set, hn, l_X12_fails]) (v0_X12_fails (by simp only [List.length_set, hn, l_X12_fails]) (gs_eq (by simp only [List.length_set, hn, l_X12_fails]; decide)))))) (v0_X12_fails (by simp only [List.length_set, hn, l_X12_fails]) (gs_eq (by simp only [List.length_set, hn, l_X12_fails]; decide)))))
set_option maxHeartbeats 8000000 in
set_option maxRecDepth 20000 in
theorem p_X12_plan {l : Launch} {E : EE} (hl : l.stackTraces = false) {h : HP} {c9 : Nat → Int32} {c10 : Nat → Int32} {w0 : Int32} {w1 : Int32} {a : Nat} {fs : List Value} (ha : ob h a = some (.inr (15, fs))) (hn : fs.length = 135) {r9 n9 : Nat} (e9 : fs[9]? = some (.ref r9)) (o9 : ob h r9 = some (.inl (0, n9, .inl c9))) {r10 n10 : Nat} (e10 : fs[10]? = some (.ref r10)) (o10 : ob h r10 = some (.inl (0, n10, .inl c10))) (i0 : (¬ (f_X12_isSlot w0) = 0) → ((f_X12_fails (Int32.ofInt 0) (Int32.ofInt 0) (Int32.ofInt 1)) = 0) → vp_in w0 n9) (i1 : (¬ (f_X12_isSlot w0) = 0) → ((f_X12_fails (Int32.ofInt 0) (Int32.ofInt 0) (Int32.ofInt 1)) = 0) → (¬ (f_X12_in (w1.toInt64) (Int64.ofNat ((0 : Fin 2) : Nat)) (((c9 w0.toNatClampNeg) - (Int32.ofInt 1)).toInt64)) = 0) → ((f_X12_fails (V0_X12_fails (Int32.ofInt 0) (Int32.ofInt 0) (Int32.ofInt 1)) (Int32.ofInt 0) (Int32.ofInt 1)) = 0) → vp_in (((Int16.ofInt 2048).toInt32 * w0) + w1) n10) (i2 : (¬ (f_X12_isSlot w0) = 0) → ((f_X12_fails (Int32.ofInt 0) (Int32.ofInt 0) (Int32.ofInt 1)) = 0) → ((f_X12_in (w1.toInt64) (Int64.ofNat ((0 : Fin 2) : Nat)) (((c9 w0.toNatClampNeg) - (Int32.ofInt 1)).toInt64)) = 0) → ((f_X12_fails (V0_X12_fails (Int32.ofInt 0) (Int32.ofInt 0) (Int32.ofInt 1)) (Int32.ofInt 1) (Int32.ofInt 1)) = 0) → vp_in (((Int16.ofInt 2048).toInt32 * w0) + w1) n10) (i3 : ((f_X12_isSlot w0) = 0) → ((f_X12_fails (Int32.ofInt 0) (Int32.ofInt 1) (Int32.ofInt 1)) = 0) → vp_in w0 n9) (i4 : ((f_X12_isSlot w0) = 0) → ((f_X12_fails (Int32.ofInt 0) (Int32.ofInt 1) (Int32.ofInt 1)) = 0) → (¬ (f_X12_in (w1.toInt64) (Int64.ofNat ((0 : Fin 2) : Nat)) (((c9 w0.toNatClampNeg) - (Int32.ofInt 1)).toInt64)) = 0) → ((f_X12_fails (V0_X12_fails (Int32.ofInt 0) (Int32.ofInt 1) (Int32.ofInt 1)) (Int32.ofInt 0) (Int32.ofInt 1)) = 0) → vp_in (((Int16.ofInt 2048).toInt32 * w0) + w1) n10) (i5 : ((f_X12_isSlot w0) = 0) → ((f_X12_fails (Int32.ofInt 0) (Int32.ofInt 1) (Int32.ofInt 1)) = 0) → ((f_X12_in (w1.toInt64) (Int64.ofNat ((0 : Fin 2) : Nat)) (((c9 w0.toNatClampNeg) - (Int32.ofInt 1)).toInt64)) = 0) → ((f_X12_fails (V0_X12_fails (Int32.ofInt 0) (Int32.ofInt 1) (Int32.ofInt 1)) (Int32.ofInt 1) (Int32.ofInt 1)) = 0) → vp_in (((Int16.ofInt 2048).toInt32 * w0) + w1) n10) : en_C l E M_X12_plan 1 0 0 [.ref a, .int w0, .int w1] h (pR (some (.int (f_X12_plan c9 c10 w0 w1))) (stt h a (.inr (15, F_X12_plan fs c9 c10 w0 w1)))) := by
  refine en_mk m_X12_plan rfl hl (Nat.le_of_ble_eq_true rfl) ?_
  refine x_heap (h' := (stt h a (.inr (15, fs)))) (by rw [stt_id ha]) ?_
  refine x_aload_n (M := M_X12_plan) dX12_plan_0 rfl ?_
  refine x_iconst (M := M_X12_plan) dX12_plan_1 ?_
  refine x_put (M := M_X12_plan) (ci := 15) (C := RX12) (T := TX12) (N := 135) (ty := tyX12) cl15 dX12_plan_2 (ob_self ha) 0 (by decide) t_2391 (Or.inl rfl) (by simp only [List.length_set, hn]; decide) rfl ?_
  refine x_heap (h' := (stt h a (.inr (15, (fs.set 0 (.int (Int32.ofInt 0))))))) (by rw [stt_stt (a := a)]) ?_
  refine x_aload_n (M := M_X12_plan) dX12_plan_5 rfl ?_
  refine x_iload_n (M := M_X12_plan) dX12_plan_6 rfl ?_
  refine x_callSR (M := M_X12_plan) (M' := M_X12_isSlot) rfl rfl dX12_plan_7 m_X12_isSlot t_2841 t_2842 (p_X12_isSlot hl) rfl rfl (Nat.le_of_ble_eq_true rfl) (Nat.le_of_ble_eq_true rfl) (Nat.le_of_ble_eq_true rfl) (Nat.le_of_ble_eq_true rfl) ?_
  refine x_if_ne (M := M_X12_plan) (tgt := 17) dX12_plan_10 (by decide) (fun q0 => ?_) (fun q0 => ?_)
  · refine x_iconst (M := M_X12_plan) dX12_plan_17 ?_
    refine x_iconst (M := M_X12_plan) dX12_plan_18 ?_
    refine x_callVR (M := M_X12_plan) (M' := M_X12_fails) rfl rfl dX12_plan_19 m_X12_fails t_2805 t_2807 s_157 (p_X12_fails hl (ob_self ha) (by simp only [List.length_set, hn]) (gs_eq (by simp only [List.length_set, hn]; decide))) rfl rfl (ob_self ha) rfl (Nat.le_of_ble_eq_true rfl) (Nat.le_of_ble_eq_true rfl) (Nat.le_of_ble_eq_true rfl) (Nat.le_of_ble_eq_true rfl) ?_
    refine x_heap (h' := (stt h a (.inr (15, (F_X12_fails (fs.set 0 (.int (Int32.ofInt 0))) (Int32.ofInt 0) (Int32.ofInt 0) (Int32.ofInt 1)))))) (by rw [stt_stt (a := a)]) ?_
    refine x_if_ne (M := M_X12_plan) (tgt := 56) dX12_plan_22 (by decide) (fun q1 => ?_) (fun q1 => ?_)
    · refine x_iconst (M := M_X12_plan) dX12_plan_56 ?_
      exact x_iret (M := M_X12_plan) dX12_plan_57 rfl ⟨by rw [f_X12_plan, if_neg q0, if_neg q1], by rw [F_X12_plan, if_neg q0, if_neg q1]⟩ (Nat.le_of_ble_eq_true rfl) (Nat.le_of_ble_eq_true rfl)
    · refine x_aload_n (M := M_X12_plan) dX12_plan_25 rfl ?_
      refine x_iload_n (M := M_X12_plan) dX12_plan_26 rfl ?_
      refine x_i2l (M := M_X12_plan) dX12_plan_27 ?_
      refine x_lconst (M := M_X12_plan) dX12_plan_28 ?_
      refine x_aload_n (M := M_X12_plan) dX12_plan_29 rfl ?_
      refine x_getf (M := M_X12_plan) (ci := 15) (C := RX12) (T := TX12) (N := 135) (ty := tyX12) cl15 dX12_plan_30 (ob_self ha) 9 (by decide) t_2400 ((k_X12_fails (by decide)).trans (gs_ne (by decide) e9)) ?_
      refine x_iload_n (M := M_X12_plan) dX12_plan_33 rfl ?_
      refine x_iald (M := M_X12_plan) dX12_plan_34 (ob_oth ha o9) (i0 q0 q1) ?_
      refine x_iconst (M := M_X12_plan) dX12_plan_35 ?_
      refine x_isub (M := M_X12_plan) dX12_plan_36 ?_
      refine x_i2l (M := M_X12_plan) dX12_plan_37 ?_
      refine x_callSR (M := M_X12_plan) (M' := M_X12_in) rfl rfl dX12_plan_38 m_X12_in t_2818 t_2819 (p_X12_in hl) rfl rfl (Nat.le_of_ble_eq_true rfl) (Nat.le_of_ble_eq_true rfl) (Nat.le_of_ble_eq_true rfl) (Nat.le_of_ble_eq_true rfl) ?_
      refine x_if_ne (M := M_X12_plan) (tgt := 48) dX12_plan_41 (by decide) (fun q2 => ?_) (fun q2 => ?_)
      · refine x_iconst (M := M_X12_plan) dX12_plan_48 ?_
        refine x_iconst (M := M_X12_plan) dX12_plan_49 ?_
        refine x_callVR (M := M_X12_plan) (M' := M_X12_fails) rfl rfl dX12_plan_50 m_X12_fails t_2805 t_2807 s_157 (p_X12_fails hl (ob_self ha) (by simp only [List.length_set, hn, l_X12_fails]) (v0_X12_fails (by simp only [List.length_set, hn, l_X12_fails]) (gs_eq (by simp only [List.length_set, hn, l_X12_fails]; decide)))) rfl rfl (ob_self ha) rfl (Nat.le_of_ble_eq_true rfl) (Nat.le_of_ble_eq_true rfl) (Nat.le_of_ble_eq_true rfl) (Nat.le_of_ble_eq_true rfl) ?_
        refine x_heap (h' := (stt h a (.inr (15, (F_X12_fails (F_X12_fails (fs.set 0 (.int (Int32.ofInt 0))) (Int32.ofInt 0) (Int32.ofInt 0) (Int32.ofInt 1)) (V0_X12_fails (Int32.ofInt 0) (Int32.ofInt 0) (Int32.ofInt 1)) (Int32.ofInt 0) (Int32.ofInt 1)))))) (by rw [stt_stt (a := a)]) ?_
        refine x_if_eq (M := M_X12_plan) (tgt := 58) dX12_plan_53 (by decide) (fun q3 => ?_) (fun q3 => ?_)
        · refine x_aload_n (M := M_X12_plan) dX12_plan_58 rfl ?_
          refine x_getf (M := M_X12_plan) (ci := 15) (C := RX12) (T := TX12) (N := 135) (ty := tyX12) cl15 dX12_plan_59 (ob_self ha) 10 (by decide) t_2401 ((k_X12_fails (by decide)).trans ((k_X12_fails (by decide)).trans (gs_ne (by decide) e10))) ?_
          refine x_sipush (M := M_X12_plan) dX12_plan_62 ?_
          refine x_iload_n (M := M_X12_plan) dX12_plan_65 rfl ?_
          refine x_imul (M := M_X12_plan) dX12_plan_66 ?_
          refine x_iload_n (M := M_X12_plan) dX12_plan_67 rfl ?_
          refine x_iadd (M := M_X12_plan) dX12_plan_68 ?_
          refine x_iald (M := M_X12_plan) dX12_plan_69 (ob_oth ha o10) (i1 q0 q1 q2 q3) ?_
          exact x_iret (M := M_X12_plan) dX12_plan_70 rfl ⟨by rw [f_X12_plan, if_neg q0, if_pos q1, if_neg q2, if_pos q3], by rw [F_X12_plan, if_neg q0, if_pos q1, if_neg q2, if_pos q3]⟩ (Nat.le_of_ble_eq_true rfl) (Nat.le_of_ble_eq_true rfl)
        · refine x_iconst (M := M_X12_plan) dX12_plan_56 ?_
          exact x_iret (M := M_X12_plan) dX12_plan_57 rfl ⟨by rw [f_X12_plan, if_neg q0, if_pos q1, if_neg q2, if_neg q3], by rw [F_X12_plan, if_neg q0, if_pos q1, if_neg q2, if_neg q3]⟩ (Nat.le_of_ble_eq_true rfl) (Nat.le_of_ble_eq_true rfl)
      · refine x_iconst (M := M_X12_plan) dX12_plan_44 ?_
        refine x_goto (M := M_X12_plan) (tgt := 49) dX12_plan_45 (by decide) ?_
        refine x_iconst (M := M_X12_plan) dX12_plan_49 ?_
        refine x_callVR (M := M_X12_plan) (M' := M_X12_fails) rfl rfl dX12_plan_50 m_X12_fails t_2805 t_2807 s_157 (p_X12_fails hl (ob_self ha) (by simp only [List.length_set, hn, l_X12_fails]) (v0_X12_fails (by simp only [List.length_set, hn, l_X12_fails]) (gs_eq (by simp only [List.length_set, hn, l_X12_fails]; decide)))) rfl rfl (ob_self ha) rfl (Nat.le_of_ble_eq_true rfl) (Nat.le_of_ble_eq_true rfl) (Nat.le_of_ble_eq_true rfl) (Nat.le_of_ble_eq_true rfl) ?_
        refine x_heap (h' := (stt h a (.inr (15, (F_X12_fails (F_X12_fails (fs.set 0 (.int (Int32.ofInt 0))) (Int32.ofInt 0) (Int32.ofInt 0) (Int32.ofInt 1)) (V0_X12_fails (Int32.ofInt 0) (Int32.ofInt 0) (Int32.ofInt 1)) (Int32.ofInt 1) (Int32.ofInt 1)))))) (by rw [stt_stt (a := a)]) ?_
        refine x_if_eq (M := M_X12_plan) (tgt := 58) dX12_plan_53 (by decide) (fun q3 => ?_) (fun q3 => ?_)
        · refine x_aload_n (M := M_X12_plan) dX12_plan_58 rfl ?_
          refine x_getf (M := M_X12_plan) (ci := 15) (C := RX12) (T := TX12) (N := 135) (ty := tyX12) cl15 dX12_plan_59 (ob_self ha) 10 (by decide) t_2401 ((k_X12_fails (by decide)).trans ((k_X12_fails (by decide)).trans (gs_ne (by decide) e10))) ?_
          refine x_sipush (M := M_X12_plan) dX12_plan_62 ?_
          refine x_iload_n (M := M_X12_plan) dX12_plan_65 rfl ?_
          refine x_imul (M := M_X12_plan) dX12_plan_66 ?_
          refine x_iload_n (M := M_X12_plan) dX12_plan_67 rfl ?_
          refine x_iadd (M := M_X12_plan) dX12_plan_68 ?_
          refine x_iald (M := M_X12_plan) dX12_plan_69 (ob_oth ha o10) (i2 q0 q1 q2 q3) ?_
          exact x_iret (M := M_X12_plan) dX12_plan_70 rfl ⟨by rw [f_X12_plan, if_neg q0, if_pos q1, if_pos q2, if_pos q3], by rw [F_X12_plan, if_neg q0, if_pos q1, if_pos q2, if_pos q3]⟩ (Nat.le_of_ble_eq_true rfl) (Nat.le_of_ble_eq_true rfl)
        · refine x_iconst (M := M_X12_plan) dX12_plan_56 ?_
          exact x_iret (M := M_X12_plan) dX12_plan_57 rfl ⟨by rw [f_X12_plan, if_neg q0, if_pos q1, if_pos q2, if_neg q3], by rw [F_X12_plan, if_neg q0, if_pos q1, if_pos q2, if_neg q3]⟩ (Nat.le_of_ble_eq_true rfl) (Nat.le_of_ble_eq_true rfl)
  · refine x_iconst (M := M_X12_plan) dX12_plan_13 ?_
    refine x_goto (M := M_X12_plan) (tgt := 18) dX12_plan_14 (by decide) ?_
    refine x_iconst (M := M_X12_plan) dX12_plan_18 ?_
    refine x_callVR (M := M_X12_plan) (M' := M_X12_fails) rfl rfl dX12_plan_19 m_X12_fails t_2805 t_2807 s_157 (p_X12_fails hl (ob_self ha) (by simp only [List.length_set, hn, l_X12_fails]) (gs_eq (by simp only [List.length_set, hn, l_X12_fails]; decide))) rfl rfl (ob_self ha) rfl (Nat.le_of_ble_eq_true rfl) (Nat.le_of_ble_eq_true rfl) (Nat.le_of_ble_eq_true rfl) (Nat.le_of_ble_eq_true rfl) ?_
    refine x_heap (h' := (stt h a (.inr (15, (F_X12_fails (fs.set 0 (.int (Int32.ofInt 0))) (Int32.ofInt 0) (Int32.ofInt 1) (Int32.ofInt 1)))))) (by rw [stt_stt (a := a)]) ?_
    refine x_if_ne (M := M_X12_plan) (tgt := 56) dX12_plan_22 (by decide) (fun q1 => ?_) (fun q1 => ?_)
    · refine x_iconst (M := M_X12_plan) dX12_plan_56 ?_
      exact x_iret (M := M_X12_plan) dX12_plan_57 rfl ⟨by rw [f_X12_plan, if_pos q0, if_neg q1], by rw [F_X12_plan, if_pos q0, if_neg q1]⟩ (Nat.le_of_ble_eq_true rfl) (Nat.le_of_ble_eq_true rfl)
    · refine x_aload_n (M := M_X12_plan) dX12_plan_25 rfl ?_
      refine x_iload_n (M := M_X12_plan) dX12_plan_26 rfl ?_
      refine x_i2l (M := M_X12_plan) dX12_plan_27 ?_
      refine x_lconst (M := M_X12_plan) dX12_plan_28 ?_
      refine x_aload_n (M := M_X12_plan) dX12_plan_29 rfl ?_
      refine x_getf (M := M_X12_plan) (ci := 15) (C := RX12) (T := TX12) (N := 135) (ty := tyX12) cl15 dX12_plan_30 (ob_self ha) 9 (by decide) t_2400 ((k_X12_fails (by decide)).trans (gs_ne (by decide) e9)) ?_
      refine x_iload_n (M := M_X12_plan) dX12_plan_33 rfl ?_
      refine x_iald (M := M_X12_plan) dX12_plan_34 (ob_oth ha o9) (i3 q0 q1) ?_
      refine x_iconst (M := M_X12_plan) dX12_plan_35 ?_
      refine x_isub (M := M_X12_plan) dX12_plan_36 ?_
      refine x_i2l (M := M_X12_plan) dX12_plan_37 ?_
      refine x_callSR (M := M_X12_plan) (M' := M_X12_in) rfl rfl dX12_plan_38 m_X12_in t_2818 t_2819 (p_X12_in hl) rfl rfl (Nat.le_of_ble_eq_true rfl) (Nat.le_of_ble_eq_true rfl) (Nat.le_of_ble_eq_true rfl) (Nat.le_of_ble_eq_true rfl) ?_
      refine x_if_ne (M := M_X12_plan) (tgt := 48) dX12_plan_41 (by decide) (fun q2 => ?_) (fun q2 => ?_)
      · refine x_iconst (M := M_X12_plan) dX12_plan_48 ?_
        refine x_iconst (M := M_X12_plan) dX12_plan_49 ?_
        refine x_callVR (M := M_X12_plan) (M' := M_X12_fails) rfl rfl dX12_plan_50 m_X12_fails t_2805 t_2807 s_157 (p_X12_fails hl (ob_self ha) (by simp only [List.length_set, hn, l_X12_fails]) (v0_X12_fails (by simp only [List.length_set, hn, l_X12_fails]) (gs_eq (by simp only [List.length_set, hn, l_X12_fails]; decide)))) rfl rfl (ob_self ha) rfl (Nat.le_of_ble_eq_true rfl) (Nat.le_of_ble_eq_true rfl) (Nat.le_of_ble_eq_true rfl) (Nat.le_of_ble_eq_true rfl) ?_
        refine x_heap (h' := (stt h a (.inr (15, (F_X12_fails (F_X12_fails (fs.set 0 (.int (Int32.ofInt 0))) (Int32.ofInt 0) (Int32.ofInt 1) (Int32.ofInt 1)) (V0_X12_fails (Int32.ofInt 0) (Int32.ofInt 1) (Int32.ofInt 1)) (Int32.ofInt 0) (Int32.ofInt 1)))))) (by rw [stt_stt (a := a)]) ?_
        refine x_if_eq (M := M_X12_plan) (tgt := 58) dX12_plan_53 (by decide) (fun q3 => ?_) (fun q3 => ?_)
        · refine x_aload_n (M := M_X12_plan) dX12_plan_58 rfl ?_
          refine x_getf (M := M_X12_plan) (ci := 15) (C := RX12) (T := TX12) (N := 135) (ty := tyX12) cl15 dX12_plan_59 (ob_self ha) 10 (by decide) t_2401 ((k_X12_fails (by decide)).trans ((k_X12_fails (by decide)).trans (gs_ne (by decide) e10))) ?_
          refine x_sipush (M := M_X12_plan) dX12_plan_62 ?_
          refine x_iload_n (M := M_X12_plan) dX12_plan_65 rfl ?_
          refine x_imul (M := M_X12_plan) dX12_plan_66 ?_
          refine x_iload_n (M := M_X12_plan) dX12_plan_67 rfl ?_
          refine x_iadd (M := M_X12_plan) dX12_plan_68 ?_
          refine x_iald (M := M_X12_plan) dX12_plan_69 (ob_oth ha o10) (i4 q0 q1 q2 q3) ?_
          exact x_iret (M := M_X12_plan) dX12_plan_70 rfl ⟨by rw [f_X12_plan, if_pos q0, if_pos q1, if_neg q2, if_pos q3], by rw [F_X12_plan, if_pos q0, if_pos q1, if_neg q2, if_pos q3]⟩ (Nat.le_of_ble_eq_true rfl) (Nat.le_of_ble_eq_true rfl)
        · refine x_iconst (M := M_X12_plan) dX12_plan_56 ?_
          exact x_iret (M := M_X12_plan) dX12_plan_57 rfl ⟨by rw [f_X12_plan, if_pos q0, if_pos q1, if_neg q2, if_neg q3], by rw [F_X12_plan, if_pos q0, if_pos q1, if_neg q2, if_neg q3]⟩ (Nat.le_of_ble_eq_true rfl) (Nat.le_of_ble_eq_true rfl)
      · refine x_iconst (M := M_X12_plan) dX12_plan_44 ?_
        refine x_goto (M := M_X12_plan) (tgt := 49) dX12_plan_45 (by decide) ?_
        refine x_iconst (M := M_X12_plan) dX12_plan_49 ?_
        refine x_callVR (M := M_X12_plan) (M' := M_X12_fails) rfl rfl dX12_plan_50 m_X12_fails t_2805 t_2807 s_157 (p_X12_fails hl (ob_self ha) (by simp only [List.length_set, hn, l_X12_fails]) (v0_X12_fails (by simp only [List.length_set, hn, l_X12_fails]) (gs_eq (by simp only [List.length_set, hn, l_X12_fails]; decide)))) rfl rfl (ob_self ha) rfl (Nat.le_of_ble_eq_true rfl) (Nat.le_of_ble_eq_true rfl) (Nat.le_of_ble_eq_true rfl) (Nat.le_of_ble_eq_true rfl) ?_
        refine x_heap (h' := (stt h a (.inr (15, (F_X12_fails (F_X12_fails (fs.set 0 (.int (Int32.ofInt 0))) (Int32.ofInt 0) (Int32.ofInt 1) (Int32.ofInt 1)) (V0_X12_fails (Int32.ofInt 0) (Int32.ofInt 1) (Int32.ofInt 1)) (Int32.ofInt 1) (Int32.ofInt 1)))))) (by rw [stt_stt (a := a)]) ?_
        refine x_if_eq (M := M_X12_plan) (tgt := 58) dX12_plan_53 (by decide) (fun q3 => ?_) (fun q3 => ?_)
        · refine x_aload_n (M := M_X12_plan) dX12_plan_58 rfl ?_
          refine x_getf (M := M_X12_plan) (ci := 15) (C := RX12) (T := TX12) (N := 135) (ty := tyX12) cl15 dX12_plan_59 (ob_self ha) 10 (by decide) t_2401 ((k_X12_fails (by decide)).trans ((k_X12_fails (by decide)).trans (gs_ne (by decide) e10))) ?_
          refine x_sipush (M := M_X12_plan) dX12_plan_62 ?_
          refine x_iload_n (M := M_X12_plan) dX12_plan_65 rfl ?_
          refine x_imul (M := M_X12_plan) dX12_plan_66 ?_
          refine x_iload_n (M := M_X12_plan) dX12_plan_67 rfl ?_
          refine x_iadd (M := M_X12_plan) dX12_plan_68 ?_
          refine x_iald (M := M_X12_plan) dX12_plan_69 (ob_oth ha o10) (i5 q0 q1 q2 q3) ?_
          exact x_iret (M := M_X12_plan) dX12_plan_70 rfl ⟨by rw [f_X12_plan, if_pos q0, if_pos q1, if_pos q2, if_pos q3], by rw [F_X12_plan, if_pos q0, if_pos q1, if_pos q2, if_pos q3]⟩ (Nat.le_of_ble_eq_true rfl) (Nat.le_of_ble_eq_true rfl)
        · refine x_iconst (M := M_X12_plan) dX12_plan_56 ?_
          exact x_iret (M := M_X12_plan) dX12_plan_57 rfl ⟨by rw [f_X12_plan, if_pos q0, if_pos q1, if_pos q2, if_neg q3], by rw [F_X12_plan, if_pos q0, if_pos q1, if_pos q2, if_neg q3]⟩ (Nat.le_of_ble_eq_true rfl) (Nat.le_of_ble_eq_true rfl)
def f_X12_ordinate (c11 : Nat → Int32) (c12 : Nat → Int32) (c13 : Nat → Int32) (w0 : Int32) (w1 : Int32) (w2 : Int32) : Int32 := if (f_X12_isSlot w0) = 0 then if (f_X12_fails (Int32.ofInt 0) (Int32.ofInt 1) (Int32.ofInt 1)) = 0 then if (f_X12_in (w1.toInt64) (Int64.ofNat ((0 : Fin 2) : Nat)) (((c11 w0.toNatClampNeg) - (Int32.ofInt 1)).toInt64)) = 0 then if (f_X12_fails (V0_X12_fails (Int32.ofInt 0) (Int32.ofInt 1) (Int32.ofInt 1)) (Int32.ofInt 1) (Int32.ofInt 1)) = 0 then if w2 = 0 then (c12 (((Int16.ofInt 2048).toInt32 * w0) + w1).toNatClampNeg) else ((c13 (((Int16.ofInt 2048).toInt32 * w0) + w1).toNatClampNeg)) else ((Int32.ofInt 0)) else (if (f_X12_in (w2.toInt64) (Int64.ofNat ((0 : Fin 2) : Nat)) (Int64.ofNat ((1 : Fin 2) : Nat))) = 0 then if (f_X12_fails (V0_X12_fails (Int32.ofInt 0) (Int32.ofInt 1) (Int32.ofInt 1)) (Int32.ofInt 1) (Int32.ofInt 1)) = 0 then if w2 = 0 then (c12 (((Int16.ofInt 2048).toInt32 * w0) + w1).toNatClampNeg) else ((c13 (((Int16.ofInt 2048).toInt32 * w0) + w1).toNatClampNeg)) else ((Int32.ofInt 0)) else (if (f_X12_fails (V0_X12_fails (Int32.ofInt 0) (Int32.ofInt 1) (Int32.ofInt 1)) (Int32.ofInt 0) (Int32.ofInt 1)) = 0 then if w2 = 0 then (c12 (((Int16.ofInt 2048).toInt32 * w0) + w1).toNatClampNeg) else ((c13 (((Int16.ofInt 2048).toInt32 * w0) + w1).toNatClampNeg)) else ((Int32.ofInt 0)))) else ((Int32.ofInt 0)) else (if (f_X12_fails (Int32.ofInt 0) (Int32.ofInt 0) (Int32.ofInt 1)) = 0 then if (f_X12_in (w1.toInt64) (Int64.ofNat ((0 : Fin 2) : Nat)) (((c11 w0.toNatClampNeg) - (Int32.ofInt 1)).toInt64)) = 0 then if (f_X12_fails (V0_X12_fails (Int32.ofInt 0) (Int32.ofInt 0) (Int32.ofInt 1)) (Int32.ofInt 1) (Int32.ofInt 1)) = 0 then if w2 = 0 then (c12 (((Int16.ofInt 2048).toInt32 * w0) + w1).toNatClampNeg) else ((c13 (((Int16.ofInt 2048).toInt32 * w0) + w1).toNatClampNeg)) else ((Int32.ofInt 0)) else (if (f_X12_in (w2.toInt64) (Int64.ofNat ((0 : Fin 2) : Nat)) (Int64.ofNat ((1 : Fin 2) : Nat))) = 0 then if (f_X12_fails (V0_X12_fails (Int32.ofInt 0) (Int32.ofInt 0) (Int32.ofInt 1)) (Int32.ofInt 1) (Int32.ofInt 1)) = 0 then if w2 = 0 then (c12 (((Int16.ofInt 2048).toInt32 * w0) + w1).toNatClampNeg) else ((c13 (((Int16.ofInt 2048).toInt32 * w0) + w1).toNatClampNeg)) else ((Int32.ofInt 0)) else (if (f_X12_fails (V0_X12_fails (Int32.ofInt 0) (Int32.ofInt 0) (Int32.ofInt 1)) (Int32.ofInt 0) (Int32.ofInt 1)) = 0 then if w2 = 0 then (c12 (((Int16.ofInt 2048).toInt32 * w0) + w1).toNatClampNeg) else ((c13 (((Int16.ofInt 2048).toInt32 * w0) + w1).toNatClampNeg)) else ((Int32.ofInt 0)))) else ((Int32.ofInt 0)))
def F_X12_ordinate (fs : List Value) (c11 : Nat → Int32) (c12 : Nat → Int32) (c13 : Nat → Int32) (w0 : Int32) (w1 : Int32) (w2 : Int32) : List Value := if (f_X12_isSlot w0) = 0 then if (f_X12_fails (Int32.ofInt 0) (Int32.ofInt 1) (Int32.ofInt 1)) = 0 then if (f_X12_in (w1.toInt64) (Int64.ofNat ((0 : Fin 2) : Nat)) (((c11 w0.toNatClampNeg) - (Int32.ofInt 1)).toInt64)) = 0 then if (f_X12_fails (V0_X12_fails (Int32.ofInt 0) (Int32.ofInt 1) (Int32.ofInt 1)) (Int32.ofInt 1) (Int32.ofInt 1)) = 0 then if w2 = 0 then (F_X12_fails (F_X12_fails (fs.set 0 (.int (Int32.ofInt 0))) (Int32.ofInt 0) (Int32.ofInt 1) (Int32.ofInt 1)) (V0_X12_fails (Int32.ofInt 0) (Int32.ofInt 1) (Int32.ofInt 1)) (Int32.ofInt 1) (Int32.ofInt 1)) else ((F_X12_fails (F_X12_fails (fs.set 0 (.int (Int32.ofInt 0))) (Int32.ofInt 0) (Int32.ofInt 1) (Int32.ofInt 1)) (V0_X12_fails (Int32.ofInt 0) (Int32.ofInt 1) (Int32.ofInt 1)) (Int32.ofInt 1) (Int32.ofInt 1))) else ((F_X12_fails (F_X12_fails (fs.set 0 (.int (Int32.ofInt 0))) (Int32.ofInt 0) (Int32.ofInt 1) (Int32.ofInt 1)) (V0_X12_fails (Int32.ofInt 0) (Int32.ofInt 1) (Int32.ofInt 1)) (Int32.ofInt 1) (Int32.ofInt 1))) else (if (f_X12_in (w2.toInt64) (Int64.ofNat ((0 : Fin 2) : Nat)) (Int64.ofNat ((1 : Fin 2) : Nat))) = 0 then if (f_X12_fails (V0_X12_fails (Int32.ofInt 0) (Int32.ofInt 1) (Int32.ofInt 1)) (Int32.ofInt 1) (Int32.ofInt 1)) = 0 then if w2 = 0 then (F_X12_fails (F_X12_fails (fs.set 0 (.int (Int32.ofInt 0))) (Int32.ofInt 0) (Int32.ofInt 1) (Int32.ofInt 1)) (V0_X12_fails (Int32.ofInt 0) (Int32.ofInt 1) (Int32.ofInt 1)) (Int32.ofInt 1) (Int32.ofInt 1)) else ((F_X12_fails (F_X12_fails (fs.set 0 (.int (Int32.ofInt 0))) (Int32.ofInt 0) (Int32.ofInt 1) (Int32.ofInt 1)) (V0_X12_fails (Int32.ofInt 0) (Int32.ofInt 1) (Int32.ofInt 1)) (Int32.ofInt 1) (Int32.ofInt 1))) else ((F_X12_fails (F_X12_fails (fs.set 0 (.int (Int32.ofInt 0))) (Int32.ofInt 0) (Int32.ofInt 1) (Int32.ofInt 1)) (V0_X12_fails (Int32.ofInt 0) (Int32.ofInt 1) (Int32.ofInt 1)) (Int32.ofInt 1) (Int32.ofInt 1))) else (if (f_X12_fails (V0_X12_fails (Int32.ofInt 0) (Int32.ofInt 1) (Int32.ofInt 1)) (Int32.ofInt 0) (Int32.ofInt 1)) = 0 then if w2 = 0 then (F_X12_fails (F_X12_fails (fs.set 0 (.int (Int32.ofInt 0))) (Int32.ofInt 0) (Int32.ofInt 1) (Int32.ofInt 1)) (V0_X12_fails (Int32.ofInt 0) (Int32.ofInt 1) (Int32.ofInt 1)) (Int32.ofInt 0) (Int32.ofInt 1)) else ((F_X12_fails (F_X12_fails (fs.set 0 (.int (Int32.ofInt 0))) (Int32.ofInt 0) (Int32.ofInt 1) (Int32.ofInt 1)) (V0_X12_fails (Int32.ofInt 0) (Int32.ofInt 1) (Int32.ofInt 1)) (Int32.ofInt 0) (Int32.ofInt 1))) else ((F_X12_fails (F_X12_fails (fs.set 0 (.int (Int32.ofInt 0))) (Int32.ofInt 0) (Int32.ofInt 1) (Int32.ofInt 1)) (V0_X12_fails (Int32.ofInt 0) (Int32.ofInt 1) (Int32.ofInt 1)) (Int32.ofInt 0) (Int32.ofInt 1))))) else ((F_X12_fails (fs.set 0 (.int (Int32.ofInt 0))) (Int32.ofInt 0) (Int32.ofInt 1) (Int32.ofInt 1))) else (if (f_X12_fails (Int32.ofInt 0) (Int32.ofInt 0) (Int32.ofInt 1)) = 0 then if (f_X12_in (w1.toInt64) (Int64.ofNat ((0 : Fin 2) : Nat)) (((c11 w0.toNatClampNeg) - (Int32.ofInt 1)).toInt64)) = 0 then if (f_X12_fails (V0_X12_fails (Int32.ofInt 0) (Int32.ofInt 0) (Int32.ofInt 1)) (Int32.ofInt 1) (Int32.ofInt 1)) = 0 then if w2 = 0 then (F_X12_fails (F_X12_fails (fs.set 0 (.int (Int32.ofInt 0))) (Int32.ofInt 0) (Int32.ofInt 0) (Int32.ofInt 1)) (V0_X12_fails (Int32.ofInt 0) (Int32.ofInt 0) (Int32.ofInt 1)) (Int32.ofInt 1) (Int32.ofInt 1)) else ((F_X12_fails (F_X12_fails (fs.set 0 (.int (Int32.ofInt 0))) (Int32.ofInt 0) (Int32.ofInt 0) (Int32.ofInt 1)) (V0_X12_fails (Int32.ofInt 0) (Int32.ofInt 0) (Int32.ofInt 1)) (Int32.ofInt 1) (Int32.ofInt 1))) else ((F_X12_fails (F_X12_fails (fs.set 0 (.int (Int32.ofInt 0))) (Int32.ofInt 0) (Int32.ofInt 0) (Int32.ofInt 1)) (V0_X12_fails (Int32.ofInt 0) (Int32.ofInt 0) (Int32.ofInt 1)) (Int32.ofInt 1) (Int32.ofInt 1))) else (if (f_X12_in (w2.toInt64) (Int64.ofNat ((0 : Fin 2) : Nat)) (Int64.ofNat ((1 : Fin 2) : Nat))) = 0 then if (f_X12_fails (V0_X12_fails (Int32.ofInt 0) (Int32.ofInt 0) (Int32.ofInt 1)) (Int32.ofInt 1) (Int32.ofInt 1)) = 0 then if w2 = 0 then (F_X12_fails (F_X12_fails (fs.set 0 (.int (Int32.ofInt 0))) (Int32.ofInt 0) (Int32.ofInt 0) (Int32.ofInt 1)) (V0_X12_fails (Int32.ofInt 0) (Int32.ofInt 0) (Int32.ofInt 1)) (Int32.ofInt 1) (Int32.ofInt 1)) else ((F_X12_fails (F_X12_fails (fs.set 0 (.int (Int32.ofInt 0))) (Int32.ofInt 0) (Int32.ofInt 0) (Int32.ofInt 1)) (V0_X12_fails (Int32.ofInt 0) (Int32.ofInt 0) (Int32.ofInt 1)) (Int32.ofInt 1) (Int32.ofInt 1))) else ((F_X12_fails (F_X12_fails (fs.set 0 (.int (Int32.ofInt 0))) (Int32.ofInt 0) (Int32.ofInt 0) (Int32.ofInt 1)) (V0_X12_fails (Int32.ofInt 0) (Int32.ofInt 0) (Int32.ofInt 1)) (Int32.ofInt 1) (Int32.ofInt 1))) else (if (f_X12_fails (V0_X12_fails (Int32.ofInt 0) (Int32.ofInt 0) (Int32.ofInt 1)) (Int32.ofInt 0) (Int32.ofInt 1)) = 0 then if w2 = 0 then (F_X12_fails (F_X12_fails (fs.set 0 (.int (Int32.ofInt 0))) (Int32.ofInt 0) (Int32.ofInt 0) (Int32.ofInt 1)) (V0_X12_fails (Int32.ofInt 0) (Int32.ofInt 0) (Int32.ofInt 1)) (Int32.ofInt 0) (Int32.ofInt 1)) else ((F_X12_fails (F_X12_fails (fs.set 0 (.int (Int32.ofInt 0))) (Int32.ofInt 0) (Int32.ofInt 0) (Int32.ofInt 1)) (V0_X12_fails (Int32.ofInt 0) (Int32.ofInt 0) (Int32.ofInt 1)) (Int32.ofInt 0) (Int32.ofInt 1))) else ((F_X12_fails (F_X12_fails (fs.set 0 (.int (Int32.ofInt 0))) (Int32.ofInt 0) (Int32.ofInt 0) (Int32.ofInt 1)) (V0_X12_fails (Int32.ofInt 0) (Int32.ofInt 0) (Int32.ofInt 1)) (Int32.ofInt 0) (Int32.ofInt 1))))) else ((F_X12_fails (fs.set 0 (.int (Int32.ofInt 0))) (Int32.ofInt 0) (Int32.ofInt 0) (Int32.ofInt 1))))
theorem l_X12_ordinate {fs : List Value} {c11 : Nat → Int32} {c12 : Nat → Int32} {c13 : Nat → Int32} {w0 : Int32} {w1 : Int32} {w2 : Int32} : (F_X12_ordinate fs c11 c12 c13 w0 w1 w2).length = fs.length := by
  unfold F_X12_ordinate
  repeat' split
  all_goals first | rfl | simp only [List.length_set, l_X12_fails]
theorem k_X12_ordinate {fs : List Value} {c11 : Nat → Int32} {c12 : Nat → Int32} {c13 : Nat → Int32} {w0 : Int32} {w1 : Int32} {w2 : Int32} {k : Nat} (hk : k ∉ ([0] : List Nat)) : (F_X12_ordinate fs c11 c12 c13 w0 w1 w2)[k]? = fs[k]? := by
  simp only [List.mem_cons, List.not_mem_nil, or_false, not_or] at hk
  unfold F_X12_ordinate
  repeat' split
  all_goals first | rfl | simp only [List.getElem?_set_ne (by omega : 0 ≠ k), k_X12_fails (k := k) (by simp <;> omega)]
def V0_X12_ordinate (c11 : Nat → Int32) (c12 : Nat → Int32) (c13 : Nat → Int32) (w0 : Int32) (w1 : Int32) (w2 : Int32) : Int32 := if (f_X12_isSlot w0) = 0 then if (f_X12_fails (Int32.ofInt 0) (Int32.ofInt 1) (Int32.ofInt 1)) = 0 then if (f_X12_in (w1.toInt64) (Int64.ofNat ((0 : Fin 2) : Nat)) (((c11 w0.toNatClampNeg) - (Int32.ofInt 1)).toInt64)) = 0 then if (f_X12_fails (V0_X12_fails (Int32.ofInt 0) (Int32.ofInt 1) (Int32.ofInt 1)) (Int32.ofInt 1) (Int32.ofInt 1)) = 0 then if w2 = 0 then (V0_X12_fails (V0_X12_fails (Int32.ofInt 0) (Int32.ofInt 1) (Int32.ofInt 1)) (Int32.ofInt 1) (Int32.ofInt 1)) else ((V0_X12_fails (V0_X12_fails (Int32.ofInt 0) (Int32.ofInt 1) (Int32.ofInt 1)) (Int32.ofInt 1) (Int32.ofInt 1))) else ((V0_X12_fails (V0_X12_fails (Int32.ofInt 0) (Int32.ofInt 1) (Int32.ofInt 1)) (Int32.ofInt 1) (Int32.ofInt 1))) else (if (f_X12_in (w2.toInt64) (Int64.ofNat ((0 : Fin 2) : Nat)) (Int64.ofNat ((1 : Fin 2) : Nat))) = 0 then if (f_X12_fails (V0_X12_fails (Int32.ofInt 0) (Int32.ofInt 1) (Int32.ofInt 1)) (Int32.ofInt 1) (Int32.ofInt 1)) = 0 then if w2 = 0 then (V0_X12_fails (V0_X12_fails (Int32.ofInt 0) (Int32.ofInt 1) (Int32.ofInt 1)) (Int32.ofInt 1) (Int32.ofInt 1)) else ((V0_X12_fails (V0_X12_fails (Int32.ofInt 0) (Int32.ofInt 1) (Int32.ofInt 1)) (Int32.ofInt 1) (Int32.ofInt 1))) else ((V0_X12_fails (V0_X12_fails (Int32.ofInt 0) (Int32.ofInt 1) (Int32.ofInt 1)) (Int32.ofInt 1) (Int32.ofInt 1))) else (if (f_X12_fails (V0_X12_fails (Int32.ofInt 0) (Int32.ofInt 1) (Int32.ofInt 1)) (Int32.ofInt 0) (Int32.ofInt 1)) = 0 then if w2 = 0 then (V0_X12_fails (V0_X12_fails (Int32.ofInt 0) (Int32.ofInt 1) (Int32.ofInt 1)) (Int32.ofInt 0) (Int32.ofInt 1)) else ((V0_X12_fails (V0_X12_fails (Int32.ofInt 0) (Int32.ofInt 1) (Int32.ofInt 1)) (Int32.ofInt 0) (Int32.ofInt 1))) else ((V0_X12_fails (V0_X12_fails (Int32.ofInt 0) (Int32.ofInt 1) (Int32.ofInt 1)) (Int32.ofInt 0) (Int32.ofInt 1))))) else ((V0_X12_fails (Int32.ofInt 0) (Int32.ofInt 1) (Int32.ofInt 1))) else (if (f_X12_fails (Int32.ofInt 0) (Int32.ofInt 0) (Int32.ofInt 1)) = 0 then if (f_X12_in (w1.toInt64) (Int64.ofNat ((0 : Fin 2) : Nat)) (((c11 w0.toNatClampNeg) - (Int32.ofInt 1)).toInt64)) = 0 then if (f_X12_fails (V0_X12_fails (Int32.ofInt 0) (Int32.ofInt 0) (Int32.ofInt 1)) (Int32.ofInt 1) (Int32.ofInt 1)) = 0 then if w2 = 0 then (V0_X12_fails (V0_X12_fails (Int32.ofInt 0) (Int32.ofInt 0) (Int32.ofInt 1)) (Int32.ofInt 1) (Int32.ofInt 1)) else ((V0_X12_fails (V0_X12_fails (Int32.ofInt 0) (Int32.ofInt 0) (Int32.ofInt 1)) (Int32.ofInt 1) (Int32.ofInt 1))) else ((V0_X12_fails (V0_X12_fails (Int32.ofInt 0) (Int32.ofInt 0) (Int32.ofInt 1)) (Int32.ofInt 1) (Int32.ofInt 1))) else (if (f_X12_in (w2.toInt64) (Int64.ofNat ((0 : Fin 2) : Nat)) (Int64.ofNat ((1 : Fin 2) : Nat))) = 0 then if (f_X12_fails (V0_X12_fails (Int32.ofInt 0) (Int32.ofInt 0) (Int32.ofInt 1)) (Int32.ofInt 1) (Int32.ofInt 1)) = 0 then if w2 = 0 then (V0_X12_fails (V0_X12_fails (Int32.ofInt 0) (Int32.ofInt 0) (Int32.ofInt 1)) (Int32.ofInt 1) (Int32.ofInt 1)) else ((V0_X12_fails (V0_X12_fails (Int32.ofInt 0) (Int32.ofInt 0) (Int32.ofInt 1)) (Int32.ofInt 1) (Int32.ofInt 1))) else ((V0_X12_fails (V0_X12_fails (Int32.ofInt 0) (Int32.ofInt 0) (Int32.ofInt 1)) (Int32.ofInt 1) (Int32.ofInt 1))) else (if (f_X12_fails (V0_X12_fails (Int32.ofInt 0) (Int32.ofInt 0) (Int32.ofInt 1)) (Int32.ofInt 0) (Int32.ofInt 1)) = 0 then if w2 = 0 then (V0_X12_fails (V0_X12_fails (Int32.ofInt 0) (Int32.ofInt 0) (Int32.ofInt 1)) (Int32.ofInt 0) (Int32.ofInt 1)) else ((V0_X12_fails (V0_X12_fails (Int32.ofInt 0) (Int32.ofInt 0) (Int32.ofInt 1)) (Int32.ofInt 0) (Int32.ofInt 1))) else ((V0_X12_fails (V0_X12_fails (Int32.ofInt 0) (Int32.ofInt 0) (Int32.ofInt 1)) (Int32.ofInt 0) (Int32.ofInt 1))))) else ((V0_X12_fails (Int32.ofInt 0) (Int32.ofInt 0) (Int32.ofInt 1))))
theorem v0_X12_ordinate {fs : List Value} {c11 : Nat → Int32} {c12 : Nat → Int32} {c13 : Nat → Int32} {w0 : Int32} {w1 : Int32} {w2 : Int32} (hn : fs.length = 135) : (F_X12_ordinate fs c11 c12 c13 w0 w1 w2)[0]? = some (.int (V0_X12_ordinate c11 c12 c13 w0 w1 w2)) := by
  unfold F_X12_ordinate V0_X12_ordinate
  exact (gi (gi (gi (gi (gi (v0_X12_fails (by simp only [List.length_set, hn, l_X12_fails]) (v0_X12_fails (by simp only [List.length_set, hn, l_X12_fails]) (gs_eq (by simp only [List.length_set, hn, l_X12_fails]; decide)))) (v0_X12_fails (by simp only [List.length_set, hn, l_X12_fails]) (v0_X12_fails (by simp only [List.length_set, hn, l_X12_fails]) (gs_eq (by simp only [List.length_set, hn, l_X12_fails]; decide))))) (v0_X12_fails (by simp only [List.length_set, hn, l_X12_fails]) (v0_X12_fails (by simp only [List.length_set, hn, l_X12_fails]) (gs_eq (by simp only [List.length_set, hn, l_X12_fails]; decide))))) (gi (gi (gi (v0_X12_fails (by simp only [List.length_set, hn, l_X12_fails]) (v0_X12_fails (by simp only [List.length_set, hn, l_X12_fails]) (gs_eq (by simp only [List.length_set, hn, l_X12_fails]; decide)))) (v0_X12_fails (by simp only [List.length_set, hn, l_X12_fails]) (v0_X12_fails (by simp only [List.length_set, hn, l_X12_fails]) (gs_eq (by simp only [List.length_set, hn, l_X12_fails]; decide))))) (v0_X12_fails (by simp only [List.length_set, hn, l_X12_fails]) (v0_X12_fails (by simp only [List.length_set, hn, l_X12_fails]) (gs_eq (by simp only [List.length_set, hn, l_X12_fails]; decide))))) (gi (gi (v0_X12_fails (by simp only [List.length_set, hn, l_X12_fails]) (v0_X12_fails (by simp only [List.length_set, hn, l_X12_fails]) (gs_eq (by simp only [List.length_set, hn, l_X12_fails]; decide)))) (v0_X12_fails (by simp only [List.length_set, hn, l_X12_fails]) (v0_X12_fails (by simp only [List.length_set, hn, l_X12_fails]) (gs_eq (by simp only [List.length_set, hn, l_X12_fails]; decide))))) (v0_X12_fails (by simp only [List.length_set, hn, l_X12_fails]) (v0_X12_fails (by simp only [List.length_set, hn, l_X12_fails]) (gs_eq (by simp only [List.length_set, hn, l_X12_fails]; decide))))))) (v0_X12_fails (by simp only [List.length_set, hn, l_X12_fails]) (gs_eq (by simp only [List.length_set, hn, l_X12_fails]; decide)))) (gi (gi (gi (gi (v0_X12_fails (by simp only [List.length_set, hn, l_X12_fails]) (v0_X12_fails (by simp only [List.length_set, hn, l_X12_fails]) (gs_eq (by simp only [List.length_set, hn, l_X12_fails]; decide)))) (v0_X12_fails (by simp only [List.length_set, hn, l_X12_fails]) (v0_X12_fails (by simp only [List.length_set, hn, l_X12_fails]) (gs_eq (by simp only [List.length_set, hn, l_X12_fails]; decide))))) (v0_X12_fails (by simp only [List.length_set, hn, l_X12_fails]) (v0_X12_fails (by simp only [List.length_set, hn, l_X12_fails]) (gs_eq (by simp only [List.length_set, hn, l_X12_fails]; decide))))) (gi (gi (gi (v0_X12_fails (by simp only [List.length_set, hn, l_X12_fails]) (v0_X12_fails (by simp only [List.length_set, hn, l_X12_fails]) (gs_eq (by simp only [List.length_set, hn, l_X12_fails]; decide)))) (v0_X12_fails (by simp only [List.length_set, hn, l_X12_fails]) (v0_X12_fails (by simp only [List.length_set, hn, l_X12_fails]) (gs_eq (by simp only [List.length_set, hn, l_X12_fails]; decide))))) (v0_X12_fails (by simp only [List.length_set, hn, l_X12_fails]) (v0_X12_fails (by simp only [List.length_set, hn, l_X12_fails]) (gs_eq (by simp only [List.length_set, hn, l_X12_fails]; decide))))) (gi (gi (v0_X12_fails (by simp only [List.length_set, hn, l_X12_fails]) (v0_X12_fails (by simp only [List.length_set, hn, l_X12_fails]) (gs_eq (by simp only [List.length_set, hn, l_X12_fails]; decide)))) (v0_X12_fails (by simp only [List.length_set, hn, l_X12_fails]) (v0_X12_fails (by simp only [List.length_set, hn, l_X12_fails]) (gs_eq (by simp only [List.length_set, hn, l_X12_fails]; decide))))) (v0_X12_fails (by simp only [List.length_set, hn, l_X12_fails]) (v0_X12_fails (by simp only [List.length_set, hn, l_X12_fails]) (gs_eq (by simp only [List.length_set, hn, l_X12_fails]; decide))))))) (v0_X12_fails (by simp only [List.length_set, hn, l_X12_fails]) (gs_eq (by simp only [List.length_set, hn, l_X12_fails]; decide)))))
set_option maxHeartbeats 8000000 in
set_option maxRecDepth 20000 in
theorem p_X12_ordinate {l : Launch} {E : EE} (hl : l.stackTraces = false) {h : HP} {c11 : Nat → Int32} {c12 : Nat → Int32} {c13 : Nat → Int32} {w0 : Int32} {w1 : Int32} {w2 : Int32} {a : Nat} {fs : List Value} (ha : ob h a = some (.inr (15, fs))) (hn : fs.length = 135) {r11 n11 : Nat} (e11 : fs[11]? = some (.ref r11)) (o11 : ob h r11 = some (.inl (0, n11, .inl c11))) {r12 n12 : Nat} (e12 : fs[12]? = some (.ref r12)) (o12 : ob h r12 = some (.inl (0, n12, .inl c12))) {r13 n13 : Nat} (e13 : fs[13]? = some (.ref r13)) (o13 : ob h r13 = some (.inl (0, n13, .inl c13))) (i0 : (¬ (f_X12_isSlot w0) = 0) → ((f_X12_fails (Int32.ofInt 0) (Int32.ofInt 0) (Int32.ofInt 1)) = 0) → vp_in w0 n11) (i1 : (¬ (f_X12_isSlot w0) = 0) → ((f_X12_fails (Int32.ofInt 0) (Int32.ofInt 0) (Int32.ofInt 1)) = 0) → ((f_X12_in (w1.toInt64) (Int64.ofNat ((0 : Fin 2) : Nat)) (((c11 w0.toNatClampNeg) - (Int32.ofInt 1)).toInt64)) = 0) → ((f_X12_fails (V0_X12_fails (Int32.ofInt 0) (Int32.ofInt 0) (Int32.ofInt 1)) (Int32.ofInt 1) (Int32.ofInt 1)) = 0) → (¬ w2 = 0) → vp_in (((Int16.ofInt 2048).toInt32 * w0) + w1) n13) (i2 : (¬ (f_X12_isSlot w0) = 0) → ((f_X12_fails (Int32.ofInt 0) (Int32.ofInt 0) (Int32.ofInt 1)) = 0) → ((f_X12_in (w1.toInt64) (Int64.ofNat ((0 : Fin 2) : Nat)) (((c11 w0.toNatClampNeg) - (Int32.ofInt 1)).toInt64)) = 0) → ((f_X12_fails (V0_X12_fails (Int32.ofInt 0) (Int32.ofInt 0) (Int32.ofInt 1)) (Int32.ofInt 1) (Int32.ofInt 1)) = 0) → (w2 = 0) → vp_in (((Int16.ofInt 2048).toInt32 * w0) + w1) n12) (i3 : (¬ (f_X12_isSlot w0) = 0) → ((f_X12_fails (Int32.ofInt 0) (Int32.ofInt 0) (Int32.ofInt 1)) = 0) → (¬ (f_X12_in (w1.toInt64) (Int64.ofNat ((0 : Fin 2) : Nat)) (((c11 w0.toNatClampNeg) - (Int32.ofInt 1)).toInt64)) = 0) → (¬ (f_X12_in (w2.toInt64) (Int64.ofNat ((0 : Fin 2) : Nat)) (Int64.ofNat ((1 : Fin 2) : Nat))) = 0) → ((f_X12_fails (V0_X12_fails (Int32.ofInt 0) (Int32.ofInt 0) (Int32.ofInt 1)) (Int32.ofInt 0) (Int32.ofInt 1)) = 0) → (¬ w2 = 0) → vp_in (((Int16.ofInt 2048).toInt32 * w0) + w1) n13) (i4 : (¬ (f_X12_isSlot w0) = 0) → ((f_X12_fails (Int32.ofInt 0) (Int32.ofInt 0) (Int32.ofInt 1)) = 0) → (¬ (f_X12_in (w1.toInt64) (Int64.ofNat ((0 : Fin 2) : Nat)) (((c11 w0.toNatClampNeg) - (Int32.ofInt 1)).toInt64)) = 0) → (¬ (f_X12_in (w2.toInt64) (Int64.ofNat ((0 : Fin 2) : Nat)) (Int64.ofNat ((1 : Fin 2) : Nat))) = 0) → ((f_X12_fails (V0_X12_fails (Int32.ofInt 0) (Int32.ofInt 0) (Int32.ofInt 1)) (Int32.ofInt 0) (Int32.ofInt 1)) = 0) → (w2 = 0) → vp_in (((Int16.ofInt 2048).toInt32 * w0) + w1) n12) (i5 : (¬ (f_X12_isSlot w0) = 0) → ((f_X12_fails (Int32.ofInt 0) (Int32.ofInt 0) (Int32.ofInt 1)) = 0) → (¬ (f_X12_in (w1.toInt64) (Int64.ofNat ((0 : Fin 2) : Nat)) (((c11 w0.toNatClampNeg) - (Int32.ofInt 1)).toInt64)) = 0) → ((f_X12_in (w2.toInt64) (Int64.ofNat ((0 : Fin 2) : Nat)) (Int64.ofNat ((1 : Fin 2) : Nat))) = 0) → ((f_X12_fails (V0_X12_fails (Int32.ofInt 0) (Int32.ofInt 0) (Int32.ofInt 1)) (Int32.ofInt 1) (Int32.ofInt 1)) = 0) → (¬ w2 = 0) → vp_in (((Int16.ofInt 2048).toInt32 * w0) + w1) n13) (i6 : (¬ (f_X12_isSlot w0) = 0) → ((f_X12_fails (Int32.ofInt 0) (Int32.ofInt 0) (Int32.ofInt 1)) = 0) → (¬ (f_X12_in (w1.toInt64) (Int64.ofNat ((0 : Fin 2) : Nat)) (((c11 w0.toNatClampNeg) - (Int32.ofInt 1)).toInt64)) = 0) → ((f_X12_in (w2.toInt64) (Int64.ofNat ((0 : Fin 2) : Nat)) (Int64.ofNat ((1 : Fin 2) : Nat))) = 0) → ((f_X12_fails (V0_X12_fails (Int32.ofInt 0) (Int32.ofInt 0) (Int32.ofInt 1)) (Int32.ofInt 1) (Int32.ofInt 1)) = 0) → (w2 = 0) → vp_in (((Int16.ofInt 2048).toInt32 * w0) + w1) n12) (i7 : ((f_X12_isSlot w0) = 0) → ((f_X12_fails (Int32.ofInt 0) (Int32.ofInt 1) (Int32.ofInt 1)) = 0) → vp_in w0 n11) (i8 : ((f_X12_isSlot w0) = 0) → ((f_X12_fails (Int32.ofInt 0) (Int32.ofInt 1) (Int32.ofInt 1)) = 0) → ((f_X12_in (w1.toInt64) (Int64.ofNat ((0 : Fin 2) : Nat)) (((c11 w0.toNatClampNeg) - (Int32.ofInt 1)).toInt64)) = 0) → ((f_X12_fails (V0_X12_fails (Int32.ofInt 0) (Int32.ofInt 1) (Int32.ofInt 1)) (Int32.ofInt 1) (Int32.ofInt 1)) = 0) → (¬ w2 = 0) → vp_in (((Int16.ofInt 2048).toInt32 * w0) + w1) n13) (i9 : ((f_X12_isSlot w0) = 0) → ((f_X12_fails (Int32.ofInt 0) (Int32.ofInt 1) (Int32.ofInt 1)) = 0) → ((f_X12_in (w1.toInt64) (Int64.ofNat ((0 : Fin 2) : Nat)) (((c11 w0.toNatClampNeg) - (Int32.ofInt 1)).toInt64)) = 0) → ((f_X12_fails (V0_X12_fails (Int32.ofInt 0) (Int32.ofInt 1) (Int32.ofInt 1)) (Int32.ofInt 1) (Int32.ofInt 1)) = 0) → (w2 = 0) → vp_in (((Int16.ofInt 2048).toInt32 * w0) + w1) n12) (i10 : ((f_X12_isSlot w0) = 0) → ((f_X12_fails (Int32.ofInt 0) (Int32.ofInt 1) (Int32.ofInt 1)) = 0) → (¬ (f_X12_in (w1.toInt64) (Int64.ofNat ((0 : Fin 2) : Nat)) (((c11 w0.toNatClampNeg) - (Int32.ofInt 1)).toInt64)) = 0) → (¬ (f_X12_in (w2.toInt64) (Int64.ofNat ((0 : Fin 2) : Nat)) (Int64.ofNat ((1 : Fin 2) : Nat))) = 0) → ((f_X12_fails (V0_X12_fails (Int32.ofInt 0) (Int32.ofInt 1) (Int32.ofInt 1)) (Int32.ofInt 0) (Int32.ofInt 1)) = 0) → (¬ w2 = 0) → vp_in (((Int16.ofInt 2048).toInt32 * w0) + w1) n13) (i11 : ((f_X12_isSlot w0) = 0) → ((f_X12_fails (Int32.ofInt 0) (Int32.ofInt 1) (Int32.ofInt 1)) = 0) → (¬ (f_X12_in (w1.toInt64) (Int64.ofNat ((0 : Fin 2) : Nat)) (((c11 w0.toNatClampNeg) - (Int32.ofInt 1)).toInt64)) = 0) → (¬ (f_X12_in (w2.toInt64) (Int64.ofNat ((0 : Fin 2) : Nat)) (Int64.ofNat ((1 : Fin 2) : Nat))) = 0) → ((f_X12_fails (V0_X12_fails (Int32.ofInt 0) (Int32.ofInt 1) (Int32.ofInt 1)) (Int32.ofInt 0) (Int32.ofInt 1)) = 0) → (w2 = 0) → vp_in (((Int16.ofInt 2048).toInt32 * w0) + w1) n12) (i12 : ((f_X12_isSlot w0) = 0) → ((f_X12_fails (Int32.ofInt 0) (Int32.ofInt 1) (Int32.ofInt 1)) = 0) → (¬ (f_X12_in (w1.toInt64) (Int64.ofNat ((0 : Fin 2) : Nat)) (((c11 w0.toNatClampNeg) - (Int32.ofInt 1)).toInt64)) = 0) → ((f_X12_in (w2.toInt64) (Int64.ofNat ((0 : Fin 2) : Nat)) (Int64.ofNat ((1 : Fin 2) : Nat))) = 0) → ((f_X12_fails (V0_X12_fails (Int32.ofInt 0) (Int32.ofInt 1) (Int32.ofInt 1)) (Int32.ofInt 1) (Int32.ofInt 1)) = 0) → (¬ w2 = 0) → vp_in (((Int16.ofInt 2048).toInt32 * w0) + w1) n13) (i13 : ((f_X12_isSlot w0) = 0) → ((f_X12_fails (Int32.ofInt 0) (Int32.ofInt 1) (Int32.ofInt 1)) = 0) → (¬ (f_X12_in (w1.toInt64) (Int64.ofNat ((0 : Fin 2) : Nat)) (((c11 w0.toNatClampNeg) - (Int32.ofInt 1)).toInt64)) = 0) → ((f_X12_in (w2.toInt64) (Int64.ofNat ((0 : Fin 2) : Nat)) (Int64.ofNat ((1 : Fin 2) : Nat))) = 0) → ((f_X12_fails (V0_X12_fails (Int32.ofInt 0) (Int32.ofInt 1) (Int32.ofInt 1)) (Int32.ofInt 1) (Int32.ofInt 1)) = 0) → (w2 = 0) → vp_in (((Int16.ofInt 2048).toInt32 * w0) + w1) n12) : en_C l E M_X12_ordinate 1 0 0 [.ref a, .int w0, .int w1, .int w2] h (pR (some (.int (f_X12_ordinate c11 c12 c13 w0 w1 w2))) (stt h a (.inr (15, F_X12_ordinate fs c11 c12 c13 w0 w1 w2)))) := by
  refine en_mk m_X12_ordinate rfl hl (Nat.le_of_ble_eq_true rfl) ?_
  refine x_heap (h' := (stt h a (.inr (15, fs)))) (by rw [stt_id ha]) ?_
  refine x_aload_n (M := M_X12_ordinate) dX12_ordinate_0 rfl ?_
  refine x_iconst (M := M_X12_ordinate) dX12_ordinate_1 ?_
  refine x_put (M := M_X12_ordinate) (ci := 15) (C := RX12) (T := TX12) (N := 135) (ty := tyX12) cl15 dX12_ordinate_2 (ob_self ha) 0 (by decide) t_2391 (Or.inl rfl) (by simp only [List.length_set, hn]; decide) rfl ?_
  refine x_heap (h' := (stt h a (.inr (15, (fs.set 0 (.int (Int32.ofInt 0))))))) (by rw [stt_stt (a := a)]) ?_
  refine x_aload_n (M := M_X12_ordinate) dX12_ordinate_5 rfl ?_
  refine x_iload_n (M := M_X12_ordinate) dX12_ordinate_6 rfl ?_
  refine x_callSR (M := M_X12_ordinate) (M' := M_X12_isSlot) rfl rfl dX12_ordinate_7 m_X12_isSlot t_2841 t_2842 (p_X12_isSlot hl) rfl rfl (Nat.le_of_ble_eq_true rfl) (Nat.le_of_ble_eq_true rfl) (Nat.le_of_ble_eq_true rfl) (Nat.le_of_ble_eq_true rfl) ?_
  refine x_if_ne (M := M_X12_ordinate) (tgt := 17) dX12_ordinate_10 (by decide) (fun q0 => ?_) (fun q0 => ?_)
  · refine x_iconst (M := M_X12_ordinate) dX12_ordinate_17 ?_
    refine x_iconst (M := M_X12_ordinate) dX12_ordinate_18 ?_
    refine x_callVR (M := M_X12_ordinate) (M' := M_X12_fails) rfl rfl dX12_ordinate_19 m_X12_fails t_2805 t_2807 s_157 (p_X12_fails hl (ob_self ha) (by simp only [List.length_set, hn]) (gs_eq (by simp only [List.length_set, hn]; decide))) rfl rfl (ob_self ha) rfl (Nat.le_of_ble_eq_true rfl) (Nat.le_of_ble_eq_true rfl) (Nat.le_of_ble_eq_true rfl) (Nat.le_of_ble_eq_true rfl) ?_
    refine x_heap (h' := (stt h a (.inr (15, (F_X12_fails (fs.set 0 (.int (Int32.ofInt 0))) (Int32.ofInt 0) (Int32.ofInt 0) (Int32.ofInt 1)))))) (by rw [stt_stt (a := a)]) ?_
    refine x_if_ne (M := M_X12_ordinate) (tgt := 66) dX12_ordinate_22 (by decide) (fun q1 => ?_) (fun q1 => ?_)
    · refine x_iconst (M := M_X12_ordinate) dX12_ordinate_66 ?_
      exact x_iret (M := M_X12_ordinate) dX12_ordinate_67 rfl ⟨by rw [f_X12_ordinate, if_neg q0, if_neg q1], by rw [F_X12_ordinate, if_neg q0, if_neg q1]⟩ (Nat.le_of_ble_eq_true rfl) (Nat.le_of_ble_eq_true rfl)
    · refine x_aload_n (M := M_X12_ordinate) dX12_ordinate_25 rfl ?_
      refine x_iload_n (M := M_X12_ordinate) dX12_ordinate_26 rfl ?_
      refine x_i2l (M := M_X12_ordinate) dX12_ordinate_27 ?_
      refine x_lconst (M := M_X12_ordinate) dX12_ordinate_28 ?_
      refine x_aload_n (M := M_X12_ordinate) dX12_ordinate_29 rfl ?_
      refine x_getf (M := M_X12_ordinate) (ci := 15) (C := RX12) (T := TX12) (N := 135) (ty := tyX12) cl15 dX12_ordinate_30 (ob_self ha) 11 (by decide) t_2402 ((k_X12_fails (by decide)).trans (gs_ne (by decide) e11)) ?_
      refine x_iload_n (M := M_X12_ordinate) dX12_ordinate_33 rfl ?_
      refine x_iald (M := M_X12_ordinate) dX12_ordinate_34 (ob_oth ha o11) (i0 q0 q1) ?_
      refine x_iconst (M := M_X12_ordinate) dX12_ordinate_35 ?_
      refine x_isub (M := M_X12_ordinate) dX12_ordinate_36 ?_
      refine x_i2l (M := M_X12_ordinate) dX12_ordinate_37 ?_
      refine x_callSR (M := M_X12_ordinate) (M' := M_X12_in) rfl rfl dX12_ordinate_38 m_X12_in t_2818 t_2819 (p_X12_in hl) rfl rfl (Nat.le_of_ble_eq_true rfl) (Nat.le_of_ble_eq_true rfl) (Nat.le_of_ble_eq_true rfl) (Nat.le_of_ble_eq_true rfl) ?_
      refine x_if_eq (M := M_X12_ordinate) (tgt := 54) dX12_ordinate_41 (by decide) (fun q2 => ?_) (fun q2 => ?_)
      · refine x_iconst (M := M_X12_ordinate) dX12_ordinate_54 ?_
        refine x_goto (M := M_X12_ordinate) (tgt := 59) dX12_ordinate_55 (by decide) ?_
        refine x_iconst (M := M_X12_ordinate) dX12_ordinate_59 ?_
        refine x_callVR (M := M_X12_ordinate) (M' := M_X12_fails) rfl rfl dX12_ordinate_60 m_X12_fails t_2805 t_2807 s_157 (p_X12_fails hl (ob_self ha) (by simp only [List.length_set, hn, l_X12_fails]) (v0_X12_fails (by simp only [List.length_set, hn, l_X12_fails]) (gs_eq (by simp only [List.length_set, hn, l_X12_fails]; decide)))) rfl rfl (ob_self ha) rfl (Nat.le_of_ble_eq_true rfl) (Nat.le_of_ble_eq_true rfl) (Nat.le_of_ble_eq_true rfl) (Nat.le_of_ble_eq_true rfl) ?_
        refine x_heap (h' := (stt h a (.inr (15, (F_X12_fails (F_X12_fails (fs.set 0 (.int (Int32.ofInt 0))) (Int32.ofInt 0) (Int32.ofInt 0) (Int32.ofInt 1)) (V0_X12_fails (Int32.ofInt 0) (Int32.ofInt 0) (Int32.ofInt 1)) (Int32.ofInt 1) (Int32.ofInt 1)))))) (by rw [stt_stt (a := a)]) ?_
        refine x_if_eq (M := M_X12_ordinate) (tgt := 68) dX12_ordinate_63 (by decide) (fun q3 => ?_) (fun q3 => ?_)
        · refine x_iload_n (M := M_X12_ordinate) dX12_ordinate_68 rfl ?_
          refine x_if_ne (M := M_X12_ordinate) (tgt := 87) dX12_ordinate_69 (by decide) (fun q4 => ?_) (fun q4 => ?_)
          · refine x_aload_n (M := M_X12_ordinate) dX12_ordinate_87 rfl ?_
            refine x_getf (M := M_X12_ordinate) (ci := 15) (C := RX12) (T := TX12) (N := 135) (ty := tyX12) cl15 dX12_ordinate_88 (ob_self ha) 13 (by decide) t_2404 ((k_X12_fails (by decide)).trans ((k_X12_fails (by decide)).trans (gs_ne (by decide) e13))) ?_
            refine x_sipush (M := M_X12_ordinate) dX12_ordinate_91 ?_
            refine x_iload_n (M := M_X12_ordinate) dX12_ordinate_94 rfl ?_
            refine x_imul (M := M_X12_ordinate) dX12_ordinate_95 ?_
            refine x_iload_n (M := M_X12_ordinate) dX12_ordinate_96 rfl ?_
            refine x_iadd (M := M_X12_ordinate) dX12_ordinate_97 ?_
            refine x_iald (M := M_X12_ordinate) dX12_ordinate_98 (ob_oth ha o13) (i1 q0 q1 q2 q3 q4) ?_
            exact x_iret (M := M_X12_ordinate) dX12_ordinate_99 rfl ⟨by rw [f_X12_ordinate, if_neg q0, if_pos q1, if_pos q2, if_pos q3, if_neg q4], by rw [F_X12_ordinate, if_neg q0, if_pos q1, if_pos q2, if_pos q3, if_neg q4]⟩ (Nat.le_of_ble_eq_true rfl) (Nat.le_of_ble_eq_true rfl)
          · refine x_aload_n (M := M_X12_ordinate) dX12_ordinate_72 rfl ?_
            refine x_getf (M := M_X12_ordinate) (ci := 15) (C := RX12) (T := TX12) (N := 135) (ty := tyX12) cl15 dX12_ordinate_73 (ob_self ha) 12 (by decide) t_2403 ((k_X12_fails (by decide)).trans ((k_X12_fails (by decide)).trans (gs_ne (by decide) e12))) ?_
            refine x_sipush (M := M_X12_ordinate) dX12_ordinate_76 ?_
            refine x_iload_n (M := M_X12_ordinate) dX12_ordinate_79 rfl ?_
            refine x_imul (M := M_X12_ordinate) dX12_ordinate_80 ?_
            refine x_iload_n (M := M_X12_ordinate) dX12_ordinate_81 rfl ?_
            refine x_iadd (M := M_X12_ordinate) dX12_ordinate_82 ?_
            refine x_iald (M := M_X12_ordinate) dX12_ordinate_83 (ob_oth ha o12) (i2 q0 q1 q2 q3 q4) ?_
            refine x_goto (M := M_X12_ordinate) (tgt := 99) dX12_ordinate_84 (by decide) ?_
            exact x_iret (M := M_X12_ordinate) dX12_ordinate_99 rfl ⟨by rw [f_X12_ordinate, if_neg q0, if_pos q1, if_pos q2, if_pos q3, if_pos q4], by rw [F_X12_ordinate, if_neg q0, if_pos q1, if_pos q2, if_pos q3, if_pos q4]⟩ (Nat.le_of_ble_eq_true rfl) (Nat.le_of_ble_eq_true rfl)
        · refine x_iconst (M := M_X12_ordinate) dX12_ordinate_66 ?_
          exact x_iret (M := M_X12_ordinate) dX12_ordinate_67 rfl ⟨by rw [f_X12_ordinate, if_neg q0, if_pos q1, if_pos q2, if_neg q3], by rw [F_X12_ordinate, if_neg q0, if_pos q1, if_pos q2, if_neg q3]⟩ (Nat.le_of_ble_eq_true rfl) (Nat.le_of_ble_eq_true rfl)
      · refine x_iload_n (M := M_X12_ordinate) dX12_ordinate_44 rfl ?_
        refine x_i2l (M := M_X12_ordinate) dX12_ordinate_45 ?_
        refine x_lconst (M := M_X12_ordinate) dX12_ordinate_46 ?_
        refine x_lconst (M := M_X12_ordinate) dX12_ordinate_47 ?_
        refine x_callSR (M := M_X12_ordinate) (M' := M_X12_in) rfl rfl dX12_ordinate_48 m_X12_in t_2818 t_2819 (p_X12_in hl) rfl rfl (Nat.le_of_ble_eq_true rfl) (Nat.le_of_ble_eq_true rfl) (Nat.le_of_ble_eq_true rfl) (Nat.le_of_ble_eq_true rfl) ?_
        refine x_if_ne (M := M_X12_ordinate) (tgt := 58) dX12_ordinate_51 (by decide) (fun q3 => ?_) (fun q3 => ?_)
        · refine x_iconst (M := M_X12_ordinate) dX12_ordinate_58 ?_
          refine x_iconst (M := M_X12_ordinate) dX12_ordinate_59 ?_
          refine x_callVR (M := M_X12_ordinate) (M' := M_X12_fails) rfl rfl dX12_ordinate_60 m_X12_fails t_2805 t_2807 s_157 (p_X12_fails hl (ob_self ha) (by simp only [List.length_set, hn, l_X12_fails]) (v0_X12_fails (by simp only [List.length_set, hn, l_X12_fails]) (gs_eq (by simp only [List.length_set, hn, l_X12_fails]; decide)))) rfl rfl (ob_self ha) rfl (Nat.le_of_ble_eq_true rfl) (Nat.le_of_ble_eq_true rfl) (Nat.le_of_ble_eq_true rfl) (Nat.le_of_ble_eq_true rfl) ?_
          refine x_heap (h' := (stt h a (.inr (15, (F_X12_fails (F_X12_fails (fs.set 0 (.int (Int32.ofInt 0))) (Int32.ofInt 0) (Int32.ofInt 0) (Int32.ofInt 1)) (V0_X12_fails (Int32.ofInt 0) (Int32.ofInt 0) (Int32.ofInt 1)) (Int32.ofInt 0) (Int32.ofInt 1)))))) (by rw [stt_stt (a := a)]) ?_
          refine x_if_eq (M := M_X12_ordinate) (tgt := 68) dX12_ordinate_63 (by decide) (fun q4 => ?_) (fun q4 => ?_)
          · refine x_iload_n (M := M_X12_ordinate) dX12_ordinate_68 rfl ?_
            refine x_if_ne (M := M_X12_ordinate) (tgt := 87) dX12_ordinate_69 (by decide) (fun q5 => ?_) (fun q5 => ?_)
            · refine x_aload_n (M := M_X12_ordinate) dX12_ordinate_87 rfl ?_
              refine x_getf (M := M_X12_ordinate) (ci := 15) (C := RX12) (T := TX12) (N := 135) (ty := tyX12) cl15 dX12_ordinate_88 (ob_self ha) 13 (by decide) t_2404 ((k_X12_fails (by decide)).trans ((k_X12_fails (by decide)).trans (gs_ne (by decide) e13))) ?_
              refine x_sipush (M := M_X12_ordinate) dX12_ordinate_91 ?_
              refine x_iload_n (M := M_X12_ordinate) dX12_ordinate_94 rfl ?_
              refine x_imul (M := M_X12_ordinate) dX12_ordinate_95 ?_
              refine x_iload_n (M := M_X12_ordinate) dX12_ordinate_96 rfl ?_
              refine x_iadd (M := M_X12_ordinate) dX12_ordinate_97 ?_
              refine x_iald (M := M_X12_ordinate) dX12_ordinate_98 (ob_oth ha o13) (i3 q0 q1 q2 q3 q4 q5) ?_
              exact x_iret (M := M_X12_ordinate) dX12_ordinate_99 rfl ⟨by rw [f_X12_ordinate, if_neg q0, if_pos q1, if_neg q2, if_neg q3, if_pos q4, if_neg q5], by rw [F_X12_ordinate, if_neg q0, if_pos q1, if_neg q2, if_neg q3, if_pos q4, if_neg q5]⟩ (Nat.le_of_ble_eq_true rfl) (Nat.le_of_ble_eq_true rfl)
            · refine x_aload_n (M := M_X12_ordinate) dX12_ordinate_72 rfl ?_
              refine x_getf (M := M_X12_ordinate) (ci := 15) (C := RX12) (T := TX12) (N := 135) (ty := tyX12) cl15 dX12_ordinate_73 (ob_self ha) 12 (by decide) t_2403 ((k_X12_fails (by decide)).trans ((k_X12_fails (by decide)).trans (gs_ne (by decide) e12))) ?_
              refine x_sipush (M := M_X12_ordinate) dX12_ordinate_76 ?_
              refine x_iload_n (M := M_X12_ordinate) dX12_ordinate_79 rfl ?_
              refine x_imul (M := M_X12_ordinate) dX12_ordinate_80 ?_
              refine x_iload_n (M := M_X12_ordinate) dX12_ordinate_81 rfl ?_
              refine x_iadd (M := M_X12_ordinate) dX12_ordinate_82 ?_
              refine x_iald (M := M_X12_ordinate) dX12_ordinate_83 (ob_oth ha o12) (i4 q0 q1 q2 q3 q4 q5) ?_
              refine x_goto (M := M_X12_ordinate) (tgt := 99) dX12_ordinate_84 (by decide) ?_
              exact x_iret (M := M_X12_ordinate) dX12_ordinate_99 rfl ⟨by rw [f_X12_ordinate, if_neg q0, if_pos q1, if_neg q2, if_neg q3, if_pos q4, if_pos q5], by rw [F_X12_ordinate, if_neg q0, if_pos q1, if_neg q2, if_neg q3, if_pos q4, if_pos q5]⟩ (Nat.le_of_ble_eq_true rfl) (Nat.le_of_ble_eq_true rfl)
          · refine x_iconst (M := M_X12_ordinate) dX12_ordinate_66 ?_
            exact x_iret (M := M_X12_ordinate) dX12_ordinate_67 rfl ⟨by rw [f_X12_ordinate, if_neg q0, if_pos q1, if_neg q2, if_neg q3, if_neg q4], by rw [F_X12_ordinate, if_neg q0, if_pos q1, if_neg q2, if_neg q3, if_neg q4]⟩ (Nat.le_of_ble_eq_true rfl) (Nat.le_of_ble_eq_true rfl)
        · refine x_iconst (M := M_X12_ordinate) dX12_ordinate_54 ?_
          refine x_goto (M := M_X12_ordinate) (tgt := 59) dX12_ordinate_55 (by decide) ?_
          refine x_iconst (M := M_X12_ordinate) dX12_ordinate_59 ?_
          refine x_callVR (M := M_X12_ordinate) (M' := M_X12_fails) rfl rfl dX12_ordinate_60 m_X12_fails t_2805 t_2807 s_157 (p_X12_fails hl (ob_self ha) (by simp only [List.length_set, hn, l_X12_fails]) (v0_X12_fails (by simp only [List.length_set, hn, l_X12_fails]) (gs_eq (by simp only [List.length_set, hn, l_X12_fails]; decide)))) rfl rfl (ob_self ha) rfl (Nat.le_of_ble_eq_true rfl) (Nat.le_of_ble_eq_true rfl) (Nat.le_of_ble_eq_true rfl) (Nat.le_of_ble_eq_true rfl) ?_
          refine x_heap (h' := (stt h a (.inr (15, (F_X12_fails (F_X12_fails (fs.set 0 (.int (Int32.ofInt 0))) (Int32.ofInt 0) (Int32.ofInt 0) (Int32.ofInt 1)) (V0_X12_fails (Int32.ofInt 0) (Int32.ofInt 0) (Int32.ofInt 1)) (Int32.ofInt 1) (Int32.ofInt 1)))))) (by rw [stt_stt (a := a)]) ?_
          refine x_if_eq (M := M_X12_ordinate) (tgt := 68) dX12_ordinate_63 (by decide) (fun q4 => ?_) (fun q4 => ?_)
          · refine x_iload_n (M := M_X12_ordinate) dX12_ordinate_68 rfl ?_
            refine x_if_ne (M := M_X12_ordinate) (tgt := 87) dX12_ordinate_69 (by decide) (fun q5 => ?_) (fun q5 => ?_)
            · refine x_aload_n (M := M_X12_ordinate) dX12_ordinate_87 rfl ?_
              refine x_getf (M := M_X12_ordinate) (ci := 15) (C := RX12) (T := TX12) (N := 135) (ty := tyX12) cl15 dX12_ordinate_88 (ob_self ha) 13 (by decide) t_2404 ((k_X12_fails (by decide)).trans ((k_X12_fails (by decide)).trans (gs_ne (by decide) e13))) ?_
              refine x_sipush (M := M_X12_ordinate) dX12_ordinate_91 ?_
              refine x_iload_n (M := M_X12_ordinate) dX12_ordinate_94 rfl ?_
              refine x_imul (M := M_X12_ordinate) dX12_ordinate_95 ?_
              refine x_iload_n (M := M_X12_ordinate) dX12_ordinate_96 rfl ?_
              refine x_iadd (M := M_X12_ordinate) dX12_ordinate_97 ?_
              refine x_iald (M := M_X12_ordinate) dX12_ordinate_98 (ob_oth ha o13) (i5 q0 q1 q2 q3 q4 q5) ?_
              exact x_iret (M := M_X12_ordinate) dX12_ordinate_99 rfl ⟨by rw [f_X12_ordinate, if_neg q0, if_pos q1, if_neg q2, if_pos q3, if_pos q4, if_neg q5], by rw [F_X12_ordinate, if_neg q0, if_pos q1, if_neg q2, if_pos q3, if_pos q4, if_neg q5]⟩ (Nat.le_of_ble_eq_true rfl) (Nat.le_of_ble_eq_true rfl)
            · refine x_aload_n (M := M_X12_ordinate) dX12_ordinate_72 rfl ?_
              refine x_getf (M := M_X12_ordinate) (ci := 15) (C := RX12) (T := TX12) (N := 135) (ty := tyX12) cl15 dX12_ordinate_73 (ob_self ha) 12 (by decide) t_2403 ((k_X12_fails (by decide)).trans ((k_X12_fails (by decide)).trans (gs_ne (by decide) e12))) ?_
              refine x_sipush (M := M_X12_ordinate) dX12_ordinate_76 ?_
              refine x_iload_n (M := M_X12_ordinate) dX12_ordinate_79 rfl ?_
              refine x_imul (M := M_X12_ordinate) dX12_ordinate_80 ?_
              refine x_iload_n (M := M_X12_ordinate) dX12_ordinate_81 rfl ?_
              refine x_iadd (M := M_X12_ordinate) dX12_ordinate_82 ?_
              refine x_iald (M := M_X12_ordinate) dX12_ordinate_83 (ob_oth ha o12) (i6 q0 q1 q2 q3 q4 q5) ?_
              refine x_goto (M := M_X12_ordinate) (tgt := 99) dX12_ordinate_84 (by decide) ?_
              exact x_iret (M := M_X12_ordinate) dX12_ordinate_99 rfl ⟨by rw [f_X12_ordinate, if_neg q0, if_pos q1, if_neg q2, if_pos q3, if_pos q4, if_pos q5], by rw [F_X12_ordinate, if_neg q0, if_pos q1, if_neg q2, if_pos q3, if_pos q4, if_pos q5]⟩ (Nat.le_of_ble_eq_true rfl) (Nat.le_of_ble_eq_true rfl)
          · refine x_iconst (M := M_X12_ordinate) dX12_ordinate_66 ?_
            exact x_iret (M := M_X12_ordinate) dX12_ordinate_67 rfl ⟨by rw [f_X12_ordinate, if_neg q0, if_pos q1, if_neg q2, if_pos q3, if_neg q4], by rw [F_X12_ordinate, if_neg q0, if_pos q1, if_neg q2, if_pos q3, if_neg q4]⟩ (Nat.le_of_ble_eq_true rfl) (Nat.le_of_ble_eq_true rfl)
  · refine x_iconst (M := M_X12_ordinate) dX12_ordinate_13 ?_
    refine x_goto (M := M_X12_ordinate) (tgt := 18) dX12_ordinate_14 (by decide) ?_
    refine x_iconst (M := M_X12_ordinate) dX12_ordinate_18 ?_
    refine x_callVR (M := M_X12_ordinate) (M' := M_X12_fails) rfl rfl dX12_ordinate_19 m_X12_fails t_2805 t_2807 s_157 (p_X12_fails hl (ob_self ha) (by simp only [List.length_set, hn, l_X12_fails]) (gs_eq (by simp only [List.length_set, hn, l_X12_fails]; decide))) rfl rfl (ob_self ha) rfl (Nat.le_of_ble_eq_true rfl) (Nat.le_of_ble_eq_true rfl) (Nat.le_of_ble_eq_true rfl) (Nat.le_of_ble_eq_true rfl) ?_
    refine x_heap (h' := (stt h a (.inr (15, (F_X12_fails (fs.set 0 (.int (Int32.ofInt 0))) (Int32.ofInt 0) (Int32.ofInt 1) (Int32.ofInt 1)))))) (by rw [stt_stt (a := a)]) ?_
    refine x_if_ne (M := M_X12_ordinate) (tgt := 66) dX12_ordinate_22 (by decide) (fun q1 => ?_) (fun q1 => ?_)
    · refine x_iconst (M := M_X12_ordinate) dX12_ordinate_66 ?_
      exact x_iret (M := M_X12_ordinate) dX12_ordinate_67 rfl ⟨by rw [f_X12_ordinate, if_pos q0, if_neg q1], by rw [F_X12_ordinate, if_pos q0, if_neg q1]⟩ (Nat.le_of_ble_eq_true rfl) (Nat.le_of_ble_eq_true rfl)
    · refine x_aload_n (M := M_X12_ordinate) dX12_ordinate_25 rfl ?_
      refine x_iload_n (M := M_X12_ordinate) dX12_ordinate_26 rfl ?_
      refine x_i2l (M := M_X12_ordinate) dX12_ordinate_27 ?_
      refine x_lconst (M := M_X12_ordinate) dX12_ordinate_28 ?_
      refine x_aload_n (M := M_X12_ordinate) dX12_ordinate_29 rfl ?_
      refine x_getf (M := M_X12_ordinate) (ci := 15) (C := RX12) (T := TX12) (N := 135) (ty := tyX12) cl15 dX12_ordinate_30 (ob_self ha) 11 (by decide) t_2402 ((k_X12_fails (by decide)).trans (gs_ne (by decide) e11)) ?_
      refine x_iload_n (M := M_X12_ordinate) dX12_ordinate_33 rfl ?_
      refine x_iald (M := M_X12_ordinate) dX12_ordinate_34 (ob_oth ha o11) (i7 q0 q1) ?_
      refine x_iconst (M := M_X12_ordinate) dX12_ordinate_35 ?_
      refine x_isub (M := M_X12_ordinate) dX12_ordinate_36 ?_
      refine x_i2l (M := M_X12_ordinate) dX12_ordinate_37 ?_
      refine x_callSR (M := M_X12_ordinate) (M' := M_X12_in) rfl rfl dX12_ordinate_38 m_X12_in t_2818 t_2819 (p_X12_in hl) rfl rfl (Nat.le_of_ble_eq_true rfl) (Nat.le_of_ble_eq_true rfl) (Nat.le_of_ble_eq_true rfl) (Nat.le_of_ble_eq_true rfl) ?_
      refine x_if_eq (M := M_X12_ordinate) (tgt := 54) dX12_ordinate_41 (by decide) (fun q2 => ?_) (fun q2 => ?_)
      · refine x_iconst (M := M_X12_ordinate) dX12_ordinate_54 ?_
        refine x_goto (M := M_X12_ordinate) (tgt := 59) dX12_ordinate_55 (by decide) ?_
        refine x_iconst (M := M_X12_ordinate) dX12_ordinate_59 ?_
        refine x_callVR (M := M_X12_ordinate) (M' := M_X12_fails) rfl rfl dX12_ordinate_60 m_X12_fails t_2805 t_2807 s_157 (p_X12_fails hl (ob_self ha) (by simp only [List.length_set, hn, l_X12_fails]) (v0_X12_fails (by simp only [List.length_set, hn, l_X12_fails]) (gs_eq (by simp only [List.length_set, hn, l_X12_fails]; decide)))) rfl rfl (ob_self ha) rfl (Nat.le_of_ble_eq_true rfl) (Nat.le_of_ble_eq_true rfl) (Nat.le_of_ble_eq_true rfl) (Nat.le_of_ble_eq_true rfl) ?_
        refine x_heap (h' := (stt h a (.inr (15, (F_X12_fails (F_X12_fails (fs.set 0 (.int (Int32.ofInt 0))) (Int32.ofInt 0) (Int32.ofInt 1) (Int32.ofInt 1)) (V0_X12_fails (Int32.ofInt 0) (Int32.ofInt 1) (Int32.ofInt 1)) (Int32.ofInt 1) (Int32.ofInt 1)))))) (by rw [stt_stt (a := a)]) ?_
        refine x_if_eq (M := M_X12_ordinate) (tgt := 68) dX12_ordinate_63 (by decide) (fun q3 => ?_) (fun q3 => ?_)
        · refine x_iload_n (M := M_X12_ordinate) dX12_ordinate_68 rfl ?_
          refine x_if_ne (M := M_X12_ordinate) (tgt := 87) dX12_ordinate_69 (by decide) (fun q4 => ?_) (fun q4 => ?_)
          · refine x_aload_n (M := M_X12_ordinate) dX12_ordinate_87 rfl ?_
            refine x_getf (M := M_X12_ordinate) (ci := 15) (C := RX12) (T := TX12) (N := 135) (ty := tyX12) cl15 dX12_ordinate_88 (ob_self ha) 13 (by decide) t_2404 ((k_X12_fails (by decide)).trans ((k_X12_fails (by decide)).trans (gs_ne (by decide) e13))) ?_
            refine x_sipush (M := M_X12_ordinate) dX12_ordinate_91 ?_
            refine x_iload_n (M := M_X12_ordinate) dX12_ordinate_94 rfl ?_
            refine x_imul (M := M_X12_ordinate) dX12_ordinate_95 ?_
            refine x_iload_n (M := M_X12_ordinate) dX12_ordinate_96 rfl ?_
            refine x_iadd (M := M_X12_ordinate) dX12_ordinate_97 ?_
            refine x_iald (M := M_X12_ordinate) dX12_ordinate_98 (ob_oth ha o13) (i8 q0 q1 q2 q3 q4) ?_
            exact x_iret (M := M_X12_ordinate) dX12_ordinate_99 rfl ⟨by rw [f_X12_ordinate, if_pos q0, if_pos q1, if_pos q2, if_pos q3, if_neg q4], by rw [F_X12_ordinate, if_pos q0, if_pos q1, if_pos q2, if_pos q3, if_neg q4]⟩ (Nat.le_of_ble_eq_true rfl) (Nat.le_of_ble_eq_true rfl)
          · refine x_aload_n (M := M_X12_ordinate) dX12_ordinate_72 rfl ?_
            refine x_getf (M := M_X12_ordinate) (ci := 15) (C := RX12) (T := TX12) (N := 135) (ty := tyX12) cl15 dX12_ordinate_73 (ob_self ha) 12 (by decide) t_2403 ((k_X12_fails (by decide)).trans ((k_X12_fails (by decide)).trans (gs_ne (by decide) e12))) ?_
            refine x_sipush (M := M_X12_ordinate) dX12_ordinate_76 ?_
            refine x_iload_n (M := M_X12_ordinate) dX12_ordinate_79 rfl ?_
            refine x_imul (M := M_X12_ordinate) dX12_ordinate_80 ?_
            refine x_iload_n (M := M_X12_ordinate) dX12_ordinate_81 rfl ?_
            refine x_iadd (M := M_X12_ordinate) dX12_ordinate_82 ?_
            refine x_iald (M := M_X12_ordinate) dX12_ordinate_83 (ob_oth ha o12) (i9 q0 q1 q2 q3 q4) ?_
            refine x_goto (M := M_X12_ordinate) (tgt := 99) dX12_ordinate_84 (by decide) ?_
            exact x_iret (M := M_X12_ordinate) dX12_ordinate_99 rfl ⟨by rw [f_X12_ordinate, if_pos q0, if_pos q1, if_pos q2, if_pos q3, if_pos q4], by rw [F_X12_ordinate, if_pos q0, if_pos q1, if_pos q2, if_pos q3, if_pos q4]⟩ (Nat.le_of_ble_eq_true rfl) (Nat.le_of_ble_eq_true rfl)
        · refine x_iconst (M := M_X12_ordinate) dX12_ordinate_66 ?_
          exact x_iret (M := M_X12_ordinate) dX12_ordinate_67 rfl ⟨by rw [f_X12_ordinate, if_pos q0, if_pos q1, if_pos q2, if_neg q3], by rw [F_X12_ordinate, if_pos q0, if_pos q1, if_pos q2, if_neg q3]⟩ (Nat.le_of_ble_eq_true rfl) (Nat.le_of_ble_eq_true rfl)
      · refine x_iload_n (M := M_X12_ordinate) dX12_ordinate_44 rfl ?_
        refine x_i2l (M := M_X12_ordinate) dX12_ordinate_45 ?_
        refine x_lconst (M := M_X12_ordinate) dX12_ordinate_46 ?_
        refine x_lconst (M := M_X12_ordinate) dX12_ordinate_47 ?_
        refine x_callSR (M := M_X12_ordinate) (M' := M_X12_in) rfl rfl dX12_ordinate_48 m_X12_in t_2818 t_2819 (p_X12_in hl) rfl rfl (Nat.le_of_ble_eq_true rfl) (Nat.le_of_ble_eq_true rfl) (Nat.le_of_ble_eq_true rfl) (Nat.le_of_ble_eq_true rfl) ?_
        refine x_if_ne (M := M_X12_ordinate) (tgt := 58) dX12_ordinate_51 (by decide) (fun q3 => ?_) (fun q3 => ?_)
        · refine x_iconst (M := M_X12_ordinate) dX12_ordinate_58 ?_
          refine x_iconst (M := M_X12_ordinate) dX12_ordinate_59 ?_
          refine x_callVR (M := M_X12_ordinate) (M' := M_X12_fails) rfl rfl dX12_ordinate_60 m_X12_fails t_2805 t_2807 s_157 (p_X12_fails hl (ob_self ha) (by simp only [List.length_set, hn, l_X12_fails]) (v0_X12_fails (by simp only [List.length_set, hn, l_X12_fails]) (gs_eq (by simp only [List.length_set, hn, l_X12_fails]; decide)))) rfl rfl (ob_self ha) rfl (Nat.le_of_ble_eq_true rfl) (Nat.le_of_ble_eq_true rfl) (Nat.le_of_ble_eq_true rfl) (Nat.le_of_ble_eq_true rfl) ?_
          refine x_heap (h' := (stt h a (.inr (15, (F_X12_fails (F_X12_fails (fs.set 0 (.int (Int32.ofInt 0))) (Int32.ofInt 0) (Int32.ofInt 1) (Int32.ofInt 1)) (V0_X12_fails (Int32.ofInt 0) (Int32.ofInt 1) (Int32.ofInt 1)) (Int32.ofInt 0) (Int32.ofInt 1)))))) (by rw [stt_stt (a := a)]) ?_
          refine x_if_eq (M := M_X12_ordinate) (tgt := 68) dX12_ordinate_63 (by decide) (fun q4 => ?_) (fun q4 => ?_)
          · refine x_iload_n (M := M_X12_ordinate) dX12_ordinate_68 rfl ?_
            refine x_if_ne (M := M_X12_ordinate) (tgt := 87) dX12_ordinate_69 (by decide) (fun q5 => ?_) (fun q5 => ?_)
            · refine x_aload_n (M := M_X12_ordinate) dX12_ordinate_87 rfl ?_
              refine x_getf (M := M_X12_ordinate) (ci := 15) (C := RX12) (T := TX12) (N := 135) (ty := tyX12) cl15 dX12_ordinate_88 (ob_self ha) 13 (by decide) t_2404 ((k_X12_fails (by decide)).trans ((k_X12_fails (by decide)).trans (gs_ne (by decide) e13))) ?_
              refine x_sipush (M := M_X12_ordinate) dX12_ordinate_91 ?_
              refine x_iload_n (M := M_X12_ordinate) dX12_ordinate_94 rfl ?_
              refine x_imul (M := M_X12_ordinate) dX12_ordinate_95 ?_
              refine x_iload_n (M := M_X12_ordinate) dX12_ordinate_96 rfl ?_
              refine x_iadd (M := M_X12_ordinate) dX12_ordinate_97 ?_
              refine x_iald (M := M_X12_ordinate) dX12_ordinate_98 (ob_oth ha o13) (i10 q0 q1 q2 q3 q4 q5) ?_
              exact x_iret (M := M_X12_ordinate) dX12_ordinate_99 rfl ⟨by rw [f_X12_ordinate, if_pos q0, if_pos q1, if_neg q2, if_neg q3, if_pos q4, if_neg q5], by rw [F_X12_ordinate, if_pos q0, if_pos q1, if_neg q2, if_neg q3, if_pos q4, if_neg q5]⟩ (Nat.le_of_ble_eq_true rfl) (Nat.le_of_ble_eq_true rfl)
            · refine x_aload_n (M := M_X12_ordinate) dX12_ordinate_72 rfl ?_
              refine x_getf (M := M_X12_ordinate) (ci := 15) (C := RX12) (T := TX12) (N := 135) (ty := tyX12) cl15 dX12_ordinate_73 (ob_self ha) 12 (by decide) t_2403 ((k_X12_fails (by decide)).trans ((k_X12_fails (by decide)).trans (gs_ne (by decide) e12))) ?_
              refine x_sipush (M := M_X12_ordinate) dX12_ordinate_76 ?_
              refine x_iload_n (M := M_X12_ordinate) dX12_ordinate_79 rfl ?_
              refine x_imul (M := M_X12_ordinate) dX12_ordinate_80 ?_
              refine x_iload_n (M := M_X12_ordinate) dX12_ordinate_81 rfl ?_
              refine x_iadd (M := M_X12_ordinate) dX12_ordinate_82 ?_
              refine x_iald (M := M_X12_ordinate) dX12_ordinate_83 (ob_oth ha o12) (i11 q0 q1 q2 q3 q4 q5) ?_
              refine x_goto (M := M_X12_ordinate) (tgt := 99) dX12_ordinate_84 (by decide) ?_
              exact x_iret (M := M_X12_ordinate) dX12_ordinate_99 rfl ⟨by rw [f_X12_ordinate, if_pos q0, if_pos q1, if_neg q2, if_neg q3, if_pos q4, if_pos q5], by rw [F_X12_ordinate, if_pos q0, if_pos q1, if_neg q2, if_neg q3, if_pos q4, if_pos q5]⟩ (Nat.le_of_ble_eq_true rfl) (Nat.le_of_ble_eq_true rfl)
          · refine x_iconst (M := M_X12_ordinate) dX12_ordinate_66 ?_
            exact x_iret (M := M_X12_ordinate) dX12_ordinate_67 rfl ⟨by rw [f_X12_ordinate, if_pos q0, if_pos q1, if_neg q2, if_neg q3, if_neg q4], by rw [F_X12_ordinate, if_pos q0, if_pos q1, if_neg q2, if_neg q3, if_neg q4]⟩ (Nat.le_of_ble_eq_true rfl) (Nat.le_of_ble_eq_true rfl)
        · refine x_iconst (M := M_X12_ordinate) dX12_ordinate_54 ?_
          refine x_goto (M := M_X12_ordinate) (tgt := 59) dX12_ordinate_55 (by decide) ?_
          refine x_iconst (M := M_X12_ordinate) dX12_ordinate_59 ?_
          refine x_callVR (M := M_X12_ordinate) (M' := M_X12_fails) rfl rfl dX12_ordinate_60 m_X12_fails t_2805 t_2807 s_157 (p_X12_fails hl (ob_self ha) (by simp only [List.length_set, hn, l_X12_fails]) (v0_X12_fails (by simp only [List.length_set, hn, l_X12_fails]) (gs_eq (by simp only [List.length_set, hn, l_X12_fails]; decide)))) rfl rfl (ob_self ha) rfl (Nat.le_of_ble_eq_true rfl) (Nat.le_of_ble_eq_true rfl) (Nat.le_of_ble_eq_true rfl) (Nat.le_of_ble_eq_true rfl) ?_
          refine x_heap (h' := (stt h a (.inr (15, (F_X12_fails (F_X12_fails (fs.set 0 (.int (Int32.ofInt 0))) (Int32.ofInt 0) (Int32.ofInt 1) (Int32.ofInt 1)) (V0_X12_fails (Int32.ofInt 0) (Int32.ofInt 1) (Int32.ofInt 1)) (Int32.ofInt 1) (Int32.ofInt 1)))))) (by rw [stt_stt (a := a)]) ?_
          refine x_if_eq (M := M_X12_ordinate) (tgt := 68) dX12_ordinate_63 (by decide) (fun q4 => ?_) (fun q4 => ?_)
          · refine x_iload_n (M := M_X12_ordinate) dX12_ordinate_68 rfl ?_
            refine x_if_ne (M := M_X12_ordinate) (tgt := 87) dX12_ordinate_69 (by decide) (fun q5 => ?_) (fun q5 => ?_)
            · refine x_aload_n (M := M_X12_ordinate) dX12_ordinate_87 rfl ?_
              refine x_getf (M := M_X12_ordinate) (ci := 15) (C := RX12) (T := TX12) (N := 135) (ty := tyX12) cl15 dX12_ordinate_88 (ob_self ha) 13 (by decide) t_2404 ((k_X12_fails (by decide)).trans ((k_X12_fails (by decide)).trans (gs_ne (by decide) e13))) ?_
              refine x_sipush (M := M_X12_ordinate) dX12_ordinate_91 ?_
              refine x_iload_n (M := M_X12_ordinate) dX12_ordinate_94 rfl ?_
              refine x_imul (M := M_X12_ordinate) dX12_ordinate_95 ?_
              refine x_iload_n (M := M_X12_ordinate) dX12_ordinate_96 rfl ?_
              refine x_iadd (M := M_X12_ordinate) dX12_ordinate_97 ?_
              refine x_iald (M := M_X12_ordinate) dX12_ordinate_98 (ob_oth ha o13) (i12 q0 q1 q2 q3 q4 q5) ?_
              exact x_iret (M := M_X12_ordinate) dX12_ordinate_99 rfl ⟨by rw [f_X12_ordinate, if_pos q0, if_pos q1, if_neg q2, if_pos q3, if_pos q4, if_neg q5], by rw [F_X12_ordinate, if_pos q0, if_pos q1, if_neg q2, if_pos q3, if_pos q4, if_neg q5]⟩ (Nat.le_of_ble_eq_true rfl) (Nat.le_of_ble_eq_true rfl)
            · refine x_aload_n (M := M_X12_ordinate) dX12_ordinate_72 rfl ?_
              refine x_getf (M := M_X12_ordinate) (ci := 15) (C := RX12) (T := TX12) (N := 135) (ty := tyX12) cl15 dX12_ordinate_73 (ob_self ha) 12 (by decide) t_2403 ((k_X12_fails (by decide)).trans ((k_X12_fails (by decide)).trans (gs_ne (by decide) e12))) ?_
              refine x_sipush (M := M_X12_ordinate) dX12_ordinate_76 ?_
              refine x_iload_n (M := M_X12_ordinate) dX12_ordinate_79 rfl ?_
              refine x_imul (M := M_X12_ordinate) dX12_ordinate_80 ?_
              refine x_iload_n (M := M_X12_ordinate) dX12_ordinate_81 rfl ?_
              refine x_iadd (M := M_X12_ordinate) dX12_ordinate_82 ?_
              refine x_iald (M := M_X12_ordinate) dX12_ordinate_83 (ob_oth ha o12) (i13 q0 q1 q2 q3 q4 q5) ?_
              refine x_goto (M := M_X12_ordinate) (tgt := 99) dX12_ordinate_84 (by decide) ?_
              exact x_iret (M := M_X12_ordinate) dX12_ordinate_99 rfl ⟨by rw [f_X12_ordinate, if_pos q0, if_pos q1, if_neg q2, if_pos q3, if_pos q4, if_pos q5], by rw [F_X12_ordinate, if_pos q0, if_pos q1, if_neg q2, if_pos q3, if_pos q4, if_pos q5]⟩ (Nat.le_of_ble_eq_true rfl) (Nat.le_of_ble_eq_true rfl)
          · refine x_iconst (M := M_X12_ordinate) dX12_ordinate_66 ?_
            exact x_iret (M := M_X12_ordinate) dX12_ordinate_67 rfl ⟨by rw [f_X12_ordinate, if_pos q0, if_pos q1, if_neg q2, if_pos q3, if_neg q4], by rw [F_X12_ordinate, if_pos q0, if_pos q1, if_neg q2, if_pos q3, if_neg q4]⟩ (Nat.le_of_ble_eq_true rfl) (Nat.le_of_ble_eq_true rfl)
def f_X12_isFar (w0 : Int64) : Int32 := (f_X12_in w0 (-1000000000 : Int64) (1000000000 : Int64))
theorem b_X12_isFar (w0 : Int64) : f_X12_isFar w0 = 0 ∨ f_X12_isFar w0 = 1 := (b_X12_in _ _ _)
theorem p_X12_isFar {l : Launch} {E : EE} (hl : l.stackTraces = false) {h : HP} {w0 : Int64} : en_C l E M_X12_isFar 1 0 0 [.long w0] h (pR (some (.int (f_X12_isFar w0))) h) := by
  refine en_mk m_X12_isFar rfl hl (Nat.le_of_ble_eq_true rfl) ?_
  refine x_lload_n (M := M_X12_isFar) dX12_isFar_0 rfl ?_
  refine x_ldc2 (M := M_X12_isFar) dX12_isFar_1 t_3136 ?_
  refine x_ldc2 (M := M_X12_isFar) dX12_isFar_4 t_2937 ?_
  refine x_callSR (M := M_X12_isFar) (M' := M_X12_in) rfl rfl dX12_isFar_7 m_X12_in t_2818 t_2819 (p_X12_in hl) rfl rfl (Nat.le_of_ble_eq_true rfl) (Nat.le_of_ble_eq_true rfl) (Nat.le_of_ble_eq_true rfl) (Nat.le_of_ble_eq_true rfl) ?_
  exact x_zret (M := M_X12_isFar) dX12_isFar_10 rfl (b_X12_in _ _ _) ⟨rfl, rfl⟩ (Nat.le_of_ble_eq_true rfl) (Nat.le_of_ble_eq_true rfl)
def f_X12_gap (w0 : Int64) (w1 : Int64) (w2 : Int64) : Int64 := if 0 ≤ (lg_cmp w0 w1) then if (lg_cmp w0 w2) ≤ 0 then (Int64.ofNat ((0 : Fin 2) : Nat)) else ((w0 - w2)) else ((w1 - w0))
theorem p_X12_gap {l : Launch} {E : EE} (hl : l.stackTraces = false) {h : HP} {w0 : Int64} {w1 : Int64} {w2 : Int64} : en_C l E M_X12_gap 0 0 0 [.long w0, .long w1, .long w2] h (pR (some (.long (f_X12_gap w0 w1 w2))) h) := by
  refine en_mk m_X12_gap rfl hl (Nat.le_of_ble_eq_true rfl) ?_
  refine x_lload_n (M := M_X12_gap) dX12_gap_0 rfl ?_
  refine x_lload_n (M := M_X12_gap) dX12_gap_1 rfl ?_
  refine x_lcmp (M := M_X12_gap) dX12_gap_2 ?_
  refine x_if_ge (M := M_X12_gap) (tgt := 12) dX12_gap_3 (by decide) (fun q0 => ?_) (fun q0 => ?_)
  · refine x_lload_n (M := M_X12_gap) dX12_gap_12 rfl ?_
    refine x_lload (M := M_X12_gap) dX12_gap_13 rfl ?_
    refine x_lcmp (M := M_X12_gap) dX12_gap_15 ?_
    refine x_if_le (M := M_X12_gap) (tgt := 26) dX12_gap_16 (by decide) (fun q1 => ?_) (fun q1 => ?_)
    · refine x_lconst (M := M_X12_gap) dX12_gap_26 ?_
      exact x_lret (M := M_X12_gap) dX12_gap_27 rfl ⟨by rw [f_X12_gap, if_pos q0, if_pos q1], rfl⟩ (Nat.le_of_ble_eq_true rfl) (Nat.le_of_ble_eq_true rfl)
    · refine x_lload_n (M := M_X12_gap) dX12_gap_19 rfl ?_
      refine x_lload (M := M_X12_gap) dX12_gap_20 rfl ?_
      refine x_lsub (M := M_X12_gap) dX12_gap_22 ?_
      refine x_goto (M := M_X12_gap) (tgt := 27) dX12_gap_23 (by decide) ?_
      exact x_lret (M := M_X12_gap) dX12_gap_27 rfl ⟨by rw [f_X12_gap, if_pos q0, if_neg q1], rfl⟩ (Nat.le_of_ble_eq_true rfl) (Nat.le_of_ble_eq_true rfl)
  · refine x_lload_n (M := M_X12_gap) dX12_gap_6 rfl ?_
    refine x_lload_n (M := M_X12_gap) dX12_gap_7 rfl ?_
    refine x_lsub (M := M_X12_gap) dX12_gap_8 ?_
    refine x_goto (M := M_X12_gap) (tgt := 27) dX12_gap_9 (by decide) ?_
    exact x_lret (M := M_X12_gap) dX12_gap_27 rfl ⟨by rw [f_X12_gap, if_neg q0], rfl⟩ (Nat.le_of_ble_eq_true rfl) (Nat.le_of_ble_eq_true rfl)
def f_X12_found (g16 : Int32) (c15 : Nat → Int32) (w0 : Int32) : Int32 := if (f_X12_in (w0.toInt64) (Int64.ofNat ((0 : Fin 2) : Nat)) ((g16 - (Int32.ofInt 1)).toInt64)) = 0 then if (f_X12_fails (Int32.ofInt 0) (Int32.ofInt 1) (Int32.ofInt 1)) = 0 then (c15 w0.toNatClampNeg) else ((Int32.ofInt 0)) else (if (f_X12_fails (Int32.ofInt 0) (Int32.ofInt 0) (Int32.ofInt 1)) = 0 then (c15 w0.toNatClampNeg) else ((Int32.ofInt 0)))
def F_X12_found (fs : List Value) (g16 : Int32) (c15 : Nat → Int32) (w0 : Int32) : List Value := if (f_X12_in (w0.toInt64) (Int64.ofNat ((0 : Fin 2) : Nat)) ((g16 - (Int32.ofInt 1)).toInt64)) = 0 then if (f_X12_fails (Int32.ofInt 0) (Int32.ofInt 1) (Int32.ofInt 1)) = 0 then (F_X12_fails (fs.set 0 (.int (Int32.ofInt 0))) (Int32.ofInt 0) (Int32.ofInt 1) (Int32.ofInt 1)) else ((F_X12_fails (fs.set 0 (.int (Int32.ofInt 0))) (Int32.ofInt 0) (Int32.ofInt 1) (Int32.ofInt 1))) else (if (f_X12_fails (Int32.ofInt 0) (Int32.ofInt 0) (Int32.ofInt 1)) = 0 then (F_X12_fails (fs.set 0 (.int (Int32.ofInt 0))) (Int32.ofInt 0) (Int32.ofInt 0) (Int32.ofInt 1)) else ((F_X12_fails (fs.set 0 (.int (Int32.ofInt 0))) (Int32.ofInt 0) (Int32.ofInt 0) (Int32.ofInt 1))))
theorem l_X12_found {fs : List Value} {g16 : Int32} {c15 : Nat → Int32} {w0 : Int32} : (F_X12_found fs g16 c15 w0).length = fs.length := by
  unfold F_X12_found
  repeat' split
  all_goals first | rfl | simp only [List.length_set, l_X12_fails]
theorem k_X12_found {fs : List Value} {g16 : Int32} {c15 : Nat → Int32} {w0 : Int32} {k : Nat} (hk : k ∉ ([0] : List Nat)) : (F_X12_found fs g16 c15 w0)[k]? = fs[k]? := by
  simp only [List.mem_cons, List.not_mem_nil, or_false, not_or] at hk
  unfold F_X12_found
  repeat' split
  all_goals first | rfl | simp only [List.getElem?_set_ne (by omega : 0 ≠ k), k_X12_fails (k := k) (by simp <;> omega)]
def V0_X12_found (g16 : Int32) (c15 : Nat → Int32) (w0 : Int32) : Int32 := if (f_X12_in (w0.toInt64) (Int64.ofNat ((0 : Fin 2) : Nat)) ((g16 - (Int32.ofInt 1)).toInt64)) = 0 then if (f_X12_fails (Int32.ofInt 0) (Int32.ofInt 1) (Int32.ofInt 1)) = 0 then (V0_X12_fails (Int32.ofInt 0) (Int32.ofInt 1) (Int32.ofInt 1)) else ((V0_X12_fails (Int32.ofInt 0) (Int32.ofInt 1) (Int32.ofInt 1))) else (if (f_X12_fails (Int32.ofInt 0) (Int32.ofInt 0) (Int32.ofInt 1)) = 0 then (V0_X12_fails (Int32.ofInt 0) (Int32.ofInt 0) (Int32.ofInt 1)) else ((V0_X12_fails (Int32.ofInt 0) (Int32.ofInt 0) (Int32.ofInt 1))))
theorem v0_X12_found {fs : List Value} {g16 : Int32} {c15 : Nat → Int32} {w0 : Int32} (hn : fs.length = 135) (e16 : fs[16]? = some (.int g16)) : (F_X12_found fs g16 c15 w0)[0]? = some (.int (V0_X12_found g16 c15 w0)) := by
  unfold F_X12_found V0_X12_found
  exact (gi (gi (v0_X12_fails (by simp only [List.length_set, hn, l_X12_fails]) (gs_eq (by simp only [List.length_set, hn, l_X12_fails]; decide))) (v0_X12_fails (by simp only [List.length_set, hn, l_X12_fails]) (gs_eq (by simp only [List.length_set, hn, l_X12_fails]; decide)))) (gi (v0_X12_fails (by simp only [List.length_set, hn, l_X12_fails]) (gs_eq (by simp only [List.length_set, hn, l_X12_fails]; decide))) (v0_X12_fails (by simp only [List.length_set, hn, l_X12_fails]) (gs_eq (by simp only [List.length_set, hn, l_X12_fails]; decide)))))
theorem p_X12_found {l : Launch} {E : EE} (hl : l.stackTraces = false) {h : HP} {g16 : Int32} {c15 : Nat → Int32} {w0 : Int32} {a : Nat} {fs : List Value} (ha : ob h a = some (.inr (15, fs))) (hn : fs.length = 135) (e16 : fs[16]? = some (.int g16)) {r15 n15 : Nat} (e15 : fs[15]? = some (.ref r15)) (o15 : ob h r15 = some (.inl (0, n15, .inl c15))) (i0 : (¬ (f_X12_in (w0.toInt64) (Int64.ofNat ((0 : Fin 2) : Nat)) ((g16 - (Int32.ofInt 1)).toInt64)) = 0) → ((f_X12_fails (Int32.ofInt 0) (Int32.ofInt 0) (Int32.ofInt 1)) = 0) → vp_in w0 n15) (i1 : ((f_X12_in (w0.toInt64) (Int64.ofNat ((0 : Fin 2) : Nat)) ((g16 - (Int32.ofInt 1)).toInt64)) = 0) → ((f_X12_fails (Int32.ofInt 0) (Int32.ofInt 1) (Int32.ofInt 1)) = 0) → vp_in w0 n15) : en_C l E M_X12_found 1 0 0 [.ref a, .int w0] h (pR (some (.int (f_X12_found g16 c15 w0))) (stt h a (.inr (15, F_X12_found fs g16 c15 w0)))) := by
  refine en_mk m_X12_found rfl hl (Nat.le_of_ble_eq_true rfl) ?_
  refine x_heap (h' := (stt h a (.inr (15, fs)))) (by rw [stt_id ha]) ?_
  refine x_aload_n (M := M_X12_found) dX12_found_0 rfl ?_
  refine x_iconst (M := M_X12_found) dX12_found_1 ?_
  refine x_put (M := M_X12_found) (ci := 15) (C := RX12) (T := TX12) (N := 135) (ty := tyX12) cl15 dX12_found_2 (ob_self ha) 0 (by decide) t_2391 (Or.inl rfl) (by simp only [List.length_set, hn]; decide) rfl ?_
  refine x_heap (h' := (stt h a (.inr (15, (fs.set 0 (.int (Int32.ofInt 0))))))) (by rw [stt_stt (a := a)]) ?_
  refine x_aload_n (M := M_X12_found) dX12_found_5 rfl ?_
  refine x_iload_n (M := M_X12_found) dX12_found_6 rfl ?_
  refine x_i2l (M := M_X12_found) dX12_found_7 ?_
  refine x_lconst (M := M_X12_found) dX12_found_8 ?_
  refine x_aload_n (M := M_X12_found) dX12_found_9 rfl ?_
  refine x_getf (M := M_X12_found) (ci := 15) (C := RX12) (T := TX12) (N := 135) (ty := tyX12) cl15 dX12_found_10 (ob_self ha) 16 (by decide) t_2407 (gs_ne (by decide) e16) ?_
  refine x_iconst (M := M_X12_found) dX12_found_13 ?_
  refine x_isub (M := M_X12_found) dX12_found_14 ?_
  refine x_i2l (M := M_X12_found) dX12_found_15 ?_
  refine x_callSR (M := M_X12_found) (M' := M_X12_in) rfl rfl dX12_found_16 m_X12_in t_2818 t_2819 (p_X12_in hl) rfl rfl (Nat.le_of_ble_eq_true rfl) (Nat.le_of_ble_eq_true rfl) (Nat.le_of_ble_eq_true rfl) (Nat.le_of_ble_eq_true rfl) ?_
  refine x_if_ne (M := M_X12_found) (tgt := 26) dX12_found_19 (by decide) (fun q0 => ?_) (fun q0 => ?_)
  · refine x_iconst (M := M_X12_found) dX12_found_26 ?_
    refine x_iconst (M := M_X12_found) dX12_found_27 ?_
    refine x_callVR (M := M_X12_found) (M' := M_X12_fails) rfl rfl dX12_found_28 m_X12_fails t_2805 t_2807 s_157 (p_X12_fails hl (ob_self ha) (by simp only [List.length_set, hn]) (gs_eq (by simp only [List.length_set, hn]; decide))) rfl rfl (ob_self ha) rfl (Nat.le_of_ble_eq_true rfl) (Nat.le_of_ble_eq_true rfl) (Nat.le_of_ble_eq_true rfl) (Nat.le_of_ble_eq_true rfl) ?_
    refine x_heap (h' := (stt h a (.inr (15, (F_X12_fails (fs.set 0 (.int (Int32.ofInt 0))) (Int32.ofInt 0) (Int32.ofInt 0) (Int32.ofInt 1)))))) (by rw [stt_stt (a := a)]) ?_
    refine x_if_eq (M := M_X12_found) (tgt := 36) dX12_found_31 (by decide) (fun q1 => ?_) (fun q1 => ?_)
    · refine x_aload_n (M := M_X12_found) dX12_found_36 rfl ?_
      refine x_getf (M := M_X12_found) (ci := 15) (C := RX12) (T := TX12) (N := 135) (ty := tyX12) cl15 dX12_found_37 (ob_self ha) 15 (by decide) t_2406 ((k_X12_fails (by decide)).trans (gs_ne (by decide) e15)) ?_
      refine x_iload_n (M := M_X12_found) dX12_found_40 rfl ?_
      refine x_iald (M := M_X12_found) dX12_found_41 (ob_oth ha o15) (i0 q0 q1) ?_
      exact x_iret (M := M_X12_found) dX12_found_42 rfl ⟨by rw [f_X12_found, if_neg q0, if_pos q1], by rw [F_X12_found, if_neg q0, if_pos q1]⟩ (Nat.le_of_ble_eq_true rfl) (Nat.le_of_ble_eq_true rfl)
    · refine x_iconst (M := M_X12_found) dX12_found_34 ?_
      exact x_iret (M := M_X12_found) dX12_found_35 rfl ⟨by rw [f_X12_found, if_neg q0, if_neg q1], by rw [F_X12_found, if_neg q0, if_neg q1]⟩ (Nat.le_of_ble_eq_true rfl) (Nat.le_of_ble_eq_true rfl)
  · refine x_iconst (M := M_X12_found) dX12_found_22 ?_
    refine x_goto (M := M_X12_found) (tgt := 27) dX12_found_23 (by decide) ?_
    refine x_iconst (M := M_X12_found) dX12_found_27 ?_
    refine x_callVR (M := M_X12_found) (M' := M_X12_fails) rfl rfl dX12_found_28 m_X12_fails t_2805 t_2807 s_157 (p_X12_fails hl (ob_self ha) (by simp only [List.length_set, hn, l_X12_fails]) (gs_eq (by simp only [List.length_set, hn, l_X12_fails]; decide))) rfl rfl (ob_self ha) rfl (Nat.le_of_ble_eq_true rfl) (Nat.le_of_ble_eq_true rfl) (Nat.le_of_ble_eq_true rfl) (Nat.le_of_ble_eq_true rfl) ?_
    refine x_heap (h' := (stt h a (.inr (15, (F_X12_fails (fs.set 0 (.int (Int32.ofInt 0))) (Int32.ofInt 0) (Int32.ofInt 1) (Int32.ofInt 1)))))) (by rw [stt_stt (a := a)]) ?_
    refine x_if_eq (M := M_X12_found) (tgt := 36) dX12_found_31 (by decide) (fun q1 => ?_) (fun q1 => ?_)
    · refine x_aload_n (M := M_X12_found) dX12_found_36 rfl ?_
      refine x_getf (M := M_X12_found) (ci := 15) (C := RX12) (T := TX12) (N := 135) (ty := tyX12) cl15 dX12_found_37 (ob_self ha) 15 (by decide) t_2406 ((k_X12_fails (by decide)).trans (gs_ne (by decide) e15)) ?_
      refine x_iload_n (M := M_X12_found) dX12_found_40 rfl ?_
      refine x_iald (M := M_X12_found) dX12_found_41 (ob_oth ha o15) (i1 q0 q1) ?_
      exact x_iret (M := M_X12_found) dX12_found_42 rfl ⟨by rw [f_X12_found, if_pos q0, if_pos q1], by rw [F_X12_found, if_pos q0, if_pos q1]⟩ (Nat.le_of_ble_eq_true rfl) (Nat.le_of_ble_eq_true rfl)
    · refine x_iconst (M := M_X12_found) dX12_found_34 ?_
      exact x_iret (M := M_X12_found) dX12_found_35 rfl ⟨by rw [f_X12_found, if_pos q0, if_neg q1], by rw [F_X12_found, if_pos q0, if_neg q1]⟩ (Nat.le_of_ble_eq_true rfl) (Nat.le_of_ble_eq_true rfl)
def f_X12_limb (c36 : Nat → Int64) (c37 : Nat → Int32) (w0 : Int32) (w1 : Int32) : Int64 := if (c37 w0.toNatClampNeg) ≤ w1 then (Int64.ofNat ((0 : Fin 2) : Nat)) else ((c36 (((Int16.ofInt 300).toInt32 * w0) + w1).toNatClampNeg))
theorem p_X12_limb {l : Launch} {E : EE} (hl : l.stackTraces = false) {h : HP} {c36 : Nat → Int64} {c37 : Nat → Int32} {w0 : Int32} {w1 : Int32} {a : Nat} {fs : List Value} (ha : ob h a = some (.inr (15, fs))) {r36 n36 : Nat} (e36 : fs[36]? = some (.ref r36)) (o36 : ob h r36 = some (.inl (1, n36, .inr (.inl c36)))) {r37 n37 : Nat} (e37 : fs[37]? = some (.ref r37)) (o37 : ob h r37 = some (.inl (0, n37, .inl c37))) (i0 : vp_in w0 n37) (i1 : (¬ (c37 w0.toNatClampNeg) ≤ w1) → vp_in (((Int16.ofInt 300).toInt32 * w0) + w1) n36) : en_C l E M_X12_limb 0 0 0 [.ref a, .int w0, .int w1] h (pR (some (.long (f_X12_limb c36 c37 w0 w1))) h) := by
  refine en_mk m_X12_limb rfl hl (Nat.le_of_ble_eq_true rfl) ?_
  refine x_iload_n (M := M_X12_limb) dX12_limb_0 rfl ?_
  refine x_aload_n (M := M_X12_limb) dX12_limb_1 rfl ?_
  refine x_getf (M := M_X12_limb) (ci := 15) (C := RX12) (T := TX12) (N := 135) (ty := tyX12) cl15 dX12_limb_2 ha 37 (by decide) t_2428 e37 ?_
  refine x_iload_n (M := M_X12_limb) dX12_limb_5 rfl ?_
  refine x_iald (M := M_X12_limb) dX12_limb_6 o37 i0 ?_
  refine x_icmp_ge (M := M_X12_limb) (tgt := 25) dX12_limb_7 (by decide) (fun q0 => ?_) (fun q0 => ?_)
  · refine x_lconst (M := M_X12_limb) dX12_limb_25 ?_
    exact x_lret (M := M_X12_limb) dX12_limb_26 rfl ⟨by rw [f_X12_limb, if_pos q0], rfl⟩ (Nat.le_of_ble_eq_true rfl) (Nat.le_of_ble_eq_true rfl)
  · refine x_aload_n (M := M_X12_limb) dX12_limb_10 rfl ?_
    refine x_getf (M := M_X12_limb) (ci := 15) (C := RX12) (T := TX12) (N := 135) (ty := tyX12) cl15 dX12_limb_11 ha 36 (by decide) t_2427 e36 ?_
    refine x_sipush (M := M_X12_limb) dX12_limb_14 ?_
    refine x_iload_n (M := M_X12_limb) dX12_limb_17 rfl ?_
    refine x_imul (M := M_X12_limb) dX12_limb_18 ?_
    refine x_iload_n (M := M_X12_limb) dX12_limb_19 rfl ?_
    refine x_iadd (M := M_X12_limb) dX12_limb_20 ?_
    refine x_lald (M := M_X12_limb) dX12_limb_21 o36 (i1 q0) ?_
    refine x_goto (M := M_X12_limb) (tgt := 26) dX12_limb_22 (by decide) ?_
    exact x_lret (M := M_X12_limb) dX12_limb_26 rfl ⟨by rw [f_X12_limb, if_neg q0], rfl⟩ (Nat.le_of_ble_eq_true rfl) (Nat.le_of_ble_eq_true rfl)
def f_X12_isPoint (w0 : Int32) : Int32 := if w0 < 0 then (Int32.ofInt 0) else (if (Int8.ofInt 32).toInt32 ≤ w0 then (Int32.ofInt 0) else ((Int32.ofInt 1)))
theorem b_X12_isPoint (w0 : Int32) : f_X12_isPoint w0 = 0 ∨ f_X12_isPoint w0 = 1 := (ite01 (Or.inl rfl) (ite01 (Or.inl rfl) (Or.inr rfl)))
theorem p_X12_isPoint {l : Launch} {E : EE} (hl : l.stackTraces = false) {h : HP} {w0 : Int32} : en_C l E M_X12_isPoint 0 0 0 [.int w0] h (pR (some (.int (f_X12_isPoint w0))) h) := by
  refine en_mk m_X12_isPoint rfl hl (Nat.le_of_ble_eq_true rfl) ?_
  refine x_iload_n (M := M_X12_isPoint) dX12_isPoint_0 rfl ?_
  refine x_if_lt (M := M_X12_isPoint) (tgt := 14) dX12_isPoint_1 (by decide) (fun q0 => ?_) (fun q0 => ?_)
  · refine x_iconst (M := M_X12_isPoint) dX12_isPoint_14 ?_
    exact x_zret (M := M_X12_isPoint) dX12_isPoint_15 rfl (Or.inl rfl) ⟨by rw [f_X12_isPoint, if_pos q0], rfl⟩ (Nat.le_of_ble_eq_true rfl) (Nat.le_of_ble_eq_true rfl)
  · refine x_iload_n (M := M_X12_isPoint) dX12_isPoint_4 rfl ?_
    refine x_bipush (M := M_X12_isPoint) dX12_isPoint_5 ?_
    refine x_icmp_ge (M := M_X12_isPoint) (tgt := 14) dX12_isPoint_7 (by decide) (fun q1 => ?_) (fun q1 => ?_)
    · refine x_iconst (M := M_X12_isPoint) dX12_isPoint_14 ?_
      exact x_zret (M := M_X12_isPoint) dX12_isPoint_15 rfl (Or.inl rfl) ⟨by rw [f_X12_isPoint, if_neg q0, if_pos q1], rfl⟩ (Nat.le_of_ble_eq_true rfl) (Nat.le_of_ble_eq_true rfl)
    · refine x_iconst (M := M_X12_isPoint) dX12_isPoint_10 ?_
      refine x_goto (M := M_X12_isPoint) (tgt := 15) dX12_isPoint_11 (by decide) ?_
      exact x_zret (M := M_X12_isPoint) dX12_isPoint_15 rfl (Or.inr rfl) ⟨by rw [f_X12_isPoint, if_neg q0, if_neg q1], rfl⟩ (Nat.le_of_ble_eq_true rfl) (Nat.le_of_ble_eq_true rfl)
def F_X12_point (fs : List Value) (c39 : Nat → Int64) (c40 : Nat → Int64) (w0 : Int32) (w1 : Int64) (w2 : Int64) : List Value := if (lg_cmp (((w1.toUInt64 >>> ((Int8.ofInt 52).toInt32.toInt64.toUInt64 &&& Int64.toUInt64 63)).toInt64) &&& (2047 : Int64)) (2047 : Int64)) = 0 then if (f_X12_isPoint w0) = 0 then if (f_X12_fails (Int32.ofInt 0) (Int32.ofInt 1) (Int32.ofInt 1)) = 0 then if (f_X12_fails (V0_X12_fails (Int32.ofInt 0) (Int32.ofInt 1) (Int32.ofInt 1)) (Int32.ofInt 1) (Int32.ofInt 2)) = 0 then (F_X12_fails (F_X12_fails (fs.set 0 (.int (Int32.ofInt 0))) (Int32.ofInt 0) (Int32.ofInt 1) (Int32.ofInt 1)) (V0_X12_fails (Int32.ofInt 0) (Int32.ofInt 1) (Int32.ofInt 1)) (Int32.ofInt 1) (Int32.ofInt 2)) else ((F_X12_fails (F_X12_fails (fs.set 0 (.int (Int32.ofInt 0))) (Int32.ofInt 0) (Int32.ofInt 1) (Int32.ofInt 1)) (V0_X12_fails (Int32.ofInt 0) (Int32.ofInt 1) (Int32.ofInt 1)) (Int32.ofInt 1) (Int32.ofInt 2))) else ((F_X12_fails (fs.set 0 (.int (Int32.ofInt 0))) (Int32.ofInt 0) (Int32.ofInt 1) (Int32.ofInt 1))) else (if (f_X12_fails (Int32.ofInt 0) (Int32.ofInt 0) (Int32.ofInt 1)) = 0 then if (f_X12_fails (V0_X12_fails (Int32.ofInt 0) (Int32.ofInt 0) (Int32.ofInt 1)) (Int32.ofInt 1) (Int32.ofInt 2)) = 0 then (F_X12_fails (F_X12_fails (fs.set 0 (.int (Int32.ofInt 0))) (Int32.ofInt 0) (Int32.ofInt 0) (Int32.ofInt 1)) (V0_X12_fails (Int32.ofInt 0) (Int32.ofInt 0) (Int32.ofInt 1)) (Int32.ofInt 1) (Int32.ofInt 2)) else ((F_X12_fails (F_X12_fails (fs.set 0 (.int (Int32.ofInt 0))) (Int32.ofInt 0) (Int32.ofInt 0) (Int32.ofInt 1)) (V0_X12_fails (Int32.ofInt 0) (Int32.ofInt 0) (Int32.ofInt 1)) (Int32.ofInt 1) (Int32.ofInt 2))) else ((F_X12_fails (fs.set 0 (.int (Int32.ofInt 0))) (Int32.ofInt 0) (Int32.ofInt 0) (Int32.ofInt 1)))) else (if (lg_cmp (((w2.toUInt64 >>> ((Int8.ofInt 52).toInt32.toInt64.toUInt64 &&& Int64.toUInt64 63)).toInt64) &&& (2047 : Int64)) (2047 : Int64)) = 0 then if (f_X12_isPoint w0) = 0 then if (f_X12_fails (Int32.ofInt 0) (Int32.ofInt 1) (Int32.ofInt 1)) = 0 then if (f_X12_fails (V0_X12_fails (Int32.ofInt 0) (Int32.ofInt 1) (Int32.ofInt 1)) (Int32.ofInt 1) (Int32.ofInt 2)) = 0 then (F_X12_fails (F_X12_fails (fs.set 0 (.int (Int32.ofInt 0))) (Int32.ofInt 0) (Int32.ofInt 1) (Int32.ofInt 1)) (V0_X12_fails (Int32.ofInt 0) (Int32.ofInt 1) (Int32.ofInt 1)) (Int32.ofInt 1) (Int32.ofInt 2)) else ((F_X12_fails (F_X12_fails (fs.set 0 (.int (Int32.ofInt 0))) (Int32.ofInt 0) (Int32.ofInt 1) (Int32.ofInt 1)) (V0_X12_fails (Int32.ofInt 0) (Int32.ofInt 1) (Int32.ofInt 1)) (Int32.ofInt 1) (Int32.ofInt 2))) else ((F_X12_fails (fs.set 0 (.int (Int32.ofInt 0))) (Int32.ofInt 0) (Int32.ofInt 1) (Int32.ofInt 1))) else (if (f_X12_fails (Int32.ofInt 0) (Int32.ofInt 0) (Int32.ofInt 1)) = 0 then if (f_X12_fails (V0_X12_fails (Int32.ofInt 0) (Int32.ofInt 0) (Int32.ofInt 1)) (Int32.ofInt 1) (Int32.ofInt 2)) = 0 then (F_X12_fails (F_X12_fails (fs.set 0 (.int (Int32.ofInt 0))) (Int32.ofInt 0) (Int32.ofInt 0) (Int32.ofInt 1)) (V0_X12_fails (Int32.ofInt 0) (Int32.ofInt 0) (Int32.ofInt 1)) (Int32.ofInt 1) (Int32.ofInt 2)) else ((F_X12_fails (F_X12_fails (fs.set 0 (.int (Int32.ofInt 0))) (Int32.ofInt 0) (Int32.ofInt 0) (Int32.ofInt 1)) (V0_X12_fails (Int32.ofInt 0) (Int32.ofInt 0) (Int32.ofInt 1)) (Int32.ofInt 1) (Int32.ofInt 2))) else ((F_X12_fails (fs.set 0 (.int (Int32.ofInt 0))) (Int32.ofInt 0) (Int32.ofInt 0) (Int32.ofInt 1)))) else (if (f_X12_isPoint w0) = 0 then if (f_X12_fails (Int32.ofInt 0) (Int32.ofInt 1) (Int32.ofInt 1)) = 0 then if (f_X12_fails (V0_X12_fails (Int32.ofInt 0) (Int32.ofInt 1) (Int32.ofInt 1)) (Int32.ofInt 0) (Int32.ofInt 2)) = 0 then (F_X12_fails (F_X12_fails (fs.set 0 (.int (Int32.ofInt 0))) (Int32.ofInt 0) (Int32.ofInt 1) (Int32.ofInt 1)) (V0_X12_fails (Int32.ofInt 0) (Int32.ofInt 1) (Int32.ofInt 1)) (Int32.ofInt 0) (Int32.ofInt 2)) else ((F_X12_fails (F_X12_fails (fs.set 0 (.int (Int32.ofInt 0))) (Int32.ofInt 0) (Int32.ofInt 1) (Int32.ofInt 1)) (V0_X12_fails (Int32.ofInt 0) (Int32.ofInt 1) (Int32.ofInt 1)) (Int32.ofInt 0) (Int32.ofInt 2))) else ((F_X12_fails (fs.set 0 (.int (Int32.ofInt 0))) (Int32.ofInt 0) (Int32.ofInt 1) (Int32.ofInt 1))) else (if (f_X12_fails (Int32.ofInt 0) (Int32.ofInt 0) (Int32.ofInt 1)) = 0 then if (f_X12_fails (V0_X12_fails (Int32.ofInt 0) (Int32.ofInt 0) (Int32.ofInt 1)) (Int32.ofInt 0) (Int32.ofInt 2)) = 0 then (F_X12_fails (F_X12_fails (fs.set 0 (.int (Int32.ofInt 0))) (Int32.ofInt 0) (Int32.ofInt 0) (Int32.ofInt 1)) (V0_X12_fails (Int32.ofInt 0) (Int32.ofInt 0) (Int32.ofInt 1)) (Int32.ofInt 0) (Int32.ofInt 2)) else ((F_X12_fails (F_X12_fails (fs.set 0 (.int (Int32.ofInt 0))) (Int32.ofInt 0) (Int32.ofInt 0) (Int32.ofInt 1)) (V0_X12_fails (Int32.ofInt 0) (Int32.ofInt 0) (Int32.ofInt 1)) (Int32.ofInt 0) (Int32.ofInt 2))) else ((F_X12_fails (fs.set 0 (.int (Int32.ofInt 0))) (Int32.ofInt 0) (Int32.ofInt 0) (Int32.ofInt 1))))))
def A39_X12_point (c39 : Nat → Int64) (c40 : Nat → Int64) (w0 : Int32) (w1 : Int64) (w2 : Int64) : Nat → Int64 := if (lg_cmp (((w1.toUInt64 >>> ((Int8.ofInt 52).toInt32.toInt64.toUInt64 &&& Int64.toUInt64 63)).toInt64) &&& (2047 : Int64)) (2047 : Int64)) = 0 then if (f_X12_isPoint w0) = 0 then if (f_X12_fails (Int32.ofInt 0) (Int32.ofInt 1) (Int32.ofInt 1)) = 0 then if (f_X12_fails (V0_X12_fails (Int32.ofInt 0) (Int32.ofInt 1) (Int32.ofInt 1)) (Int32.ofInt 1) (Int32.ofInt 2)) = 0 then (vp_updL c39 w0.toNatClampNeg w1) else (c39) else (c39) else (if (f_X12_fails (Int32.ofInt 0) (Int32.ofInt 0) (Int32.ofInt 1)) = 0 then if (f_X12_fails (V0_X12_fails (Int32.ofInt 0) (Int32.ofInt 0) (Int32.ofInt 1)) (Int32.ofInt 1) (Int32.ofInt 2)) = 0 then (vp_updL c39 w0.toNatClampNeg w1) else (c39) else (c39)) else (if (lg_cmp (((w2.toUInt64 >>> ((Int8.ofInt 52).toInt32.toInt64.toUInt64 &&& Int64.toUInt64 63)).toInt64) &&& (2047 : Int64)) (2047 : Int64)) = 0 then if (f_X12_isPoint w0) = 0 then if (f_X12_fails (Int32.ofInt 0) (Int32.ofInt 1) (Int32.ofInt 1)) = 0 then if (f_X12_fails (V0_X12_fails (Int32.ofInt 0) (Int32.ofInt 1) (Int32.ofInt 1)) (Int32.ofInt 1) (Int32.ofInt 2)) = 0 then (vp_updL c39 w0.toNatClampNeg w1) else (c39) else (c39) else (if (f_X12_fails (Int32.ofInt 0) (Int32.ofInt 0) (Int32.ofInt 1)) = 0 then if (f_X12_fails (V0_X12_fails (Int32.ofInt 0) (Int32.ofInt 0) (Int32.ofInt 1)) (Int32.ofInt 1) (Int32.ofInt 2)) = 0 then (vp_updL c39 w0.toNatClampNeg w1) else (c39) else (c39)) else (if (f_X12_isPoint w0) = 0 then if (f_X12_fails (Int32.ofInt 0) (Int32.ofInt 1) (Int32.ofInt 1)) = 0 then if (f_X12_fails (V0_X12_fails (Int32.ofInt 0) (Int32.ofInt 1) (Int32.ofInt 1)) (Int32.ofInt 0) (Int32.ofInt 2)) = 0 then (vp_updL c39 w0.toNatClampNeg w1) else (c39) else (c39) else (if (f_X12_fails (Int32.ofInt 0) (Int32.ofInt 0) (Int32.ofInt 1)) = 0 then if (f_X12_fails (V0_X12_fails (Int32.ofInt 0) (Int32.ofInt 0) (Int32.ofInt 1)) (Int32.ofInt 0) (Int32.ofInt 2)) = 0 then (vp_updL c39 w0.toNatClampNeg w1) else (c39) else (c39))))
def A40_X12_point (c39 : Nat → Int64) (c40 : Nat → Int64) (w0 : Int32) (w1 : Int64) (w2 : Int64) : Nat → Int64 := if (lg_cmp (((w1.toUInt64 >>> ((Int8.ofInt 52).toInt32.toInt64.toUInt64 &&& Int64.toUInt64 63)).toInt64) &&& (2047 : Int64)) (2047 : Int64)) = 0 then if (f_X12_isPoint w0) = 0 then if (f_X12_fails (Int32.ofInt 0) (Int32.ofInt 1) (Int32.ofInt 1)) = 0 then if (f_X12_fails (V0_X12_fails (Int32.ofInt 0) (Int32.ofInt 1) (Int32.ofInt 1)) (Int32.ofInt 1) (Int32.ofInt 2)) = 0 then (vp_updL c40 w0.toNatClampNeg w2) else (c40) else (c40) else (if (f_X12_fails (Int32.ofInt 0) (Int32.ofInt 0) (Int32.ofInt 1)) = 0 then if (f_X12_fails (V0_X12_fails (Int32.ofInt 0) (Int32.ofInt 0) (Int32.ofInt 1)) (Int32.ofInt 1) (Int32.ofInt 2)) = 0 then (vp_updL c40 w0.toNatClampNeg w2) else (c40) else (c40)) else (if (lg_cmp (((w2.toUInt64 >>> ((Int8.ofInt 52).toInt32.toInt64.toUInt64 &&& Int64.toUInt64 63)).toInt64) &&& (2047 : Int64)) (2047 : Int64)) = 0 then if (f_X12_isPoint w0) = 0 then if (f_X12_fails (Int32.ofInt 0) (Int32.ofInt 1) (Int32.ofInt 1)) = 0 then if (f_X12_fails (V0_X12_fails (Int32.ofInt 0) (Int32.ofInt 1) (Int32.ofInt 1)) (Int32.ofInt 1) (Int32.ofInt 2)) = 0 then (vp_updL c40 w0.toNatClampNeg w2) else (c40) else (c40) else (if (f_X12_fails (Int32.ofInt 0) (Int32.ofInt 0) (Int32.ofInt 1)) = 0 then if (f_X12_fails (V0_X12_fails (Int32.ofInt 0) (Int32.ofInt 0) (Int32.ofInt 1)) (Int32.ofInt 1) (Int32.ofInt 2)) = 0 then (vp_updL c40 w0.toNatClampNeg w2) else (c40) else (c40)) else (if (f_X12_isPoint w0) = 0 then if (f_X12_fails (Int32.ofInt 0) (Int32.ofInt 1) (Int32.ofInt 1)) = 0 then if (f_X12_fails (V0_X12_fails (Int32.ofInt 0) (Int32.ofInt 1) (Int32.ofInt 1)) (Int32.ofInt 0) (Int32.ofInt 2)) = 0 then (vp_updL c40 w0.toNatClampNeg w2) else (c40) else (c40) else (if (f_X12_fails (Int32.ofInt 0) (Int32.ofInt 0) (Int32.ofInt 1)) = 0 then if (f_X12_fails (V0_X12_fails (Int32.ofInt 0) (Int32.ofInt 0) (Int32.ofInt 1)) (Int32.ofInt 0) (Int32.ofInt 2)) = 0 then (vp_updL c40 w0.toNatClampNeg w2) else (c40) else (c40))))
theorem l_X12_point {fs : List Value} {c39 : Nat → Int64} {c40 : Nat → Int64} {w0 : Int32} {w1 : Int64} {w2 : Int64} : (F_X12_point fs c39 c40 w0 w1 w2).length = fs.length := by
  unfold F_X12_point
  repeat' split
  all_goals first | rfl | simp only [List.length_set, l_X12_fails]
theorem k_X12_point {fs : List Value} {c39 : Nat → Int64} {c40 : Nat → Int64} {w0 : Int32} {w1 : Int64} {w2 : Int64} {k : Nat} (hk : k ∉ ([0] : List Nat)) : (F_X12_point fs c39 c40 w0 w1 w2)[k]? = fs[k]? := by
  simp only [List.mem_cons, List.not_mem_nil, or_false, not_or] at hk
  unfold F_X12_point
  repeat' split
  all_goals first | rfl | simp only [List.getElem?_set_ne (by omega : 0 ≠ k), k_X12_fails (k := k) (by simp <;> omega)]
def V0_X12_point (c39 : Nat → Int64) (c40 : Nat → Int64) (w0 : Int32) (w1 : Int64) (w2 : Int64) : Int32 := if (lg_cmp (((w1.toUInt64 >>> ((Int8.ofInt 52).toInt32.toInt64.toUInt64 &&& Int64.toUInt64 63)).toInt64) &&& (2047 : Int64)) (2047 : Int64)) = 0 then if (f_X12_isPoint w0) = 0 then if (f_X12_fails (Int32.ofInt 0) (Int32.ofInt 1) (Int32.ofInt 1)) = 0 then if (f_X12_fails (V0_X12_fails (Int32.ofInt 0) (Int32.ofInt 1) (Int32.ofInt 1)) (Int32.ofInt 1) (Int32.ofInt 2)) = 0 then (V0_X12_fails (V0_X12_fails (Int32.ofInt 0) (Int32.ofInt 1) (Int32.ofInt 1)) (Int32.ofInt 1) (Int32.ofInt 2)) else ((V0_X12_fails (V0_X12_fails (Int32.ofInt 0) (Int32.ofInt 1) (Int32.ofInt 1)) (Int32.ofInt 1) (Int32.ofInt 2))) else ((V0_X12_fails (Int32.ofInt 0) (Int32.ofInt 1) (Int32.ofInt 1))) else (if (f_X12_fails (Int32.ofInt 0) (Int32.ofInt 0) (Int32.ofInt 1)) = 0 then if (f_X12_fails (V0_X12_fails (Int32.ofInt 0) (Int32.ofInt 0) (Int32.ofInt 1)) (Int32.ofInt 1) (Int32.ofInt 2)) = 0 then (V0_X12_fails (V0_X12_fails (Int32.ofInt 0) (Int32.ofInt 0) (Int32.ofInt 1)) (Int32.ofInt 1) (Int32.ofInt 2)) else ((V0_X12_fails (V0_X12_fails (Int32.ofInt 0) (Int32.ofInt 0) (Int32.ofInt 1)) (Int32.ofInt 1) (Int32.ofInt 2))) else ((V0_X12_fails (Int32.ofInt 0) (Int32.ofInt 0) (Int32.ofInt 1)))) else (if (lg_cmp (((w2.toUInt64 >>> ((Int8.ofInt 52).toInt32.toInt64.toUInt64 &&& Int64.toUInt64 63)).toInt64) &&& (2047 : Int64)) (2047 : Int64)) = 0 then if (f_X12_isPoint w0) = 0 then if (f_X12_fails (Int32.ofInt 0) (Int32.ofInt 1) (Int32.ofInt 1)) = 0 then if (f_X12_fails (V0_X12_fails (Int32.ofInt 0) (Int32.ofInt 1) (Int32.ofInt 1)) (Int32.ofInt 1) (Int32.ofInt 2)) = 0 then (V0_X12_fails (V0_X12_fails (Int32.ofInt 0) (Int32.ofInt 1) (Int32.ofInt 1)) (Int32.ofInt 1) (Int32.ofInt 2)) else ((V0_X12_fails (V0_X12_fails (Int32.ofInt 0) (Int32.ofInt 1) (Int32.ofInt 1)) (Int32.ofInt 1) (Int32.ofInt 2))) else ((V0_X12_fails (Int32.ofInt 0) (Int32.ofInt 1) (Int32.ofInt 1))) else (if (f_X12_fails (Int32.ofInt 0) (Int32.ofInt 0) (Int32.ofInt 1)) = 0 then if (f_X12_fails (V0_X12_fails (Int32.ofInt 0) (Int32.ofInt 0) (Int32.ofInt 1)) (Int32.ofInt 1) (Int32.ofInt 2)) = 0 then (V0_X12_fails (V0_X12_fails (Int32.ofInt 0) (Int32.ofInt 0) (Int32.ofInt 1)) (Int32.ofInt 1) (Int32.ofInt 2)) else ((V0_X12_fails (V0_X12_fails (Int32.ofInt 0) (Int32.ofInt 0) (Int32.ofInt 1)) (Int32.ofInt 1) (Int32.ofInt 2))) else ((V0_X12_fails (Int32.ofInt 0) (Int32.ofInt 0) (Int32.ofInt 1)))) else (if (f_X12_isPoint w0) = 0 then if (f_X12_fails (Int32.ofInt 0) (Int32.ofInt 1) (Int32.ofInt 1)) = 0 then if (f_X12_fails (V0_X12_fails (Int32.ofInt 0) (Int32.ofInt 1) (Int32.ofInt 1)) (Int32.ofInt 0) (Int32.ofInt 2)) = 0 then (V0_X12_fails (V0_X12_fails (Int32.ofInt 0) (Int32.ofInt 1) (Int32.ofInt 1)) (Int32.ofInt 0) (Int32.ofInt 2)) else ((V0_X12_fails (V0_X12_fails (Int32.ofInt 0) (Int32.ofInt 1) (Int32.ofInt 1)) (Int32.ofInt 0) (Int32.ofInt 2))) else ((V0_X12_fails (Int32.ofInt 0) (Int32.ofInt 1) (Int32.ofInt 1))) else (if (f_X12_fails (Int32.ofInt 0) (Int32.ofInt 0) (Int32.ofInt 1)) = 0 then if (f_X12_fails (V0_X12_fails (Int32.ofInt 0) (Int32.ofInt 0) (Int32.ofInt 1)) (Int32.ofInt 0) (Int32.ofInt 2)) = 0 then (V0_X12_fails (V0_X12_fails (Int32.ofInt 0) (Int32.ofInt 0) (Int32.ofInt 1)) (Int32.ofInt 0) (Int32.ofInt 2)) else ((V0_X12_fails (V0_X12_fails (Int32.ofInt 0) (Int32.ofInt 0) (Int32.ofInt 1)) (Int32.ofInt 0) (Int32.ofInt 2))) else ((V0_X12_fails (Int32.ofInt 0) (Int32.ofInt 0) (Int32.ofInt 1))))))
theorem v0_X12_point {fs : List Value} {c39 : Nat → Int64} {c40 : Nat → Int64} {w0 : Int32} {w1 : Int64} {w2 : Int64} (hn : fs.length = 135) : (F_X12_point fs c39 c40 w0 w1 w2)[0]? = some (.int (V0_X12_point c39 c40 w0 w1 w2)) := by
  unfold F_X12_point V0_X12_point
  exact (gi (gi (gi (gi (v0_X12_fails (by simp only [List.length_set, hn, l_X12_fails]) (v0_X12_fails (by simp only [List.length_set, hn, l_X12_fails]) (gs_eq (by simp only [List.length_set, hn, l_X12_fails]; decide)))) (v0_X12_fails (by simp only [List.length_set, hn, l_X12_fails]) (v0_X12_fails (by simp only [List.length_set, hn, l_X12_fails]) (gs_eq (by simp only [List.length_set, hn, l_X12_fails]; decide))))) (v0_X12_fails (by simp only [List.length_set, hn, l_X12_fails]) (gs_eq (by simp only [List.length_set, hn, l_X12_fails]; decide)))) (gi (gi (v0_X12_fails (by simp only [List.length_set, hn, l_X12_fails]) (v0_X12_fails (by simp only [List.length_set, hn, l_X12_fails]) (gs_eq (by simp only [List.length_set, hn, l_X12_fails]; decide)))) (v0_X12_fails (by simp only [List.length_set, hn, l_X12_fails]) (v0_X12_fails (by simp only [List.length_set, hn, l_X12_fails]) (gs_eq (by simp only [List.length_set, hn, l_X12_fails]; decide))))) (v0_X12_fails (by simp only [List.length_set, hn, l_X12_fails]) (gs_eq (by simp only [List.length_set, hn, l_X12_fails]; decide))))) (gi (gi (gi (gi (v0_X12_fails (by simp only [List.length_set, hn, l_X12_fails]) (v0_X12_fails (by simp only [List.length_set, hn, l_X12_fails]) (gs_eq (by simp only [List.length_set, hn, l_X12_fails]; decide)))) (v0_X12_fails (by simp only [List.length_set, hn, l_X12_fails]) (v0_X12_fails (by simp only [List.length_set, hn, l_X12_fails]) (gs_eq (by simp only [List.length_set, hn, l_X12_fails]; decide))))) (v0_X12_fails (by simp only [List.length_set, hn, l_X12_fails]) (gs_eq (by simp only [List.length_set, hn, l_X12_fails]; decide)))) (gi (gi (v0_X12_fails (by simp only [List.length_set, hn, l_X12_fails]) (v0_X12_fails (by simp only [List.length_set, hn, l_X12_fails]) (gs_eq (by simp only [List.length_set, hn, l_X12_fails]; decide)))) (v0_X12_fails (by simp only [List.length_set, hn, l_X12_fails]) (v0_X12_fails (by simp only [List.length_set, hn, l_X12_fails]) (gs_eq (by simp only [List.length_set, hn, l_X12_fails]; decide))))) (v0_X12_fails (by simp only [List.length_set, hn, l_X12_fails]) (gs_eq (by simp only [List.length_set, hn, l_X12_fails]; decide))))) (gi (gi (gi (v0_X12_fails (by simp only [List.length_set, hn, l_X12_fails]) (v0_X12_fails (by simp only [List.length_set, hn, l_X12_fails]) (gs_eq (by simp only [List.length_set, hn, l_X12_fails]; decide)))) (v0_X12_fails (by simp only [List.length_set, hn, l_X12_fails]) (v0_X12_fails (by simp only [List.length_set, hn, l_X12_fails]) (gs_eq (by simp only [List.length_set, hn, l_X12_fails]; decide))))) (v0_X12_fails (by simp only [List.length_set, hn, l_X12_fails]) (gs_eq (by simp only [List.length_set, hn, l_X12_fails]; decide)))) (gi (gi (v0_X12_fails (by simp only [List.length_set, hn, l_X12_fails]) (v0_X12_fails (by simp only [List.length_set, hn, l_X12_fails]) (gs_eq (by simp only [List.length_set, hn, l_X12_fails]; decide)))) (v0_X12_fails (by simp only [List.length_set, hn, l_X12_fails]) (v0_X12_fails (by simp only [List.length_set, hn, l_X12_fails]) (gs_eq (by simp only [List.length_set, hn, l_X12_fails]; decide))))) (v0_X12_fails (by simp only [List.length_set, hn, l_X12_fails]) (gs_eq (by simp only [List.length_set, hn, l_X12_fails]; decide)))))))
set_option maxHeartbeats 8000000 in
set_option maxRecDepth 20000 in
theorem p_X12_point {l : Launch} {E : EE} (hl : l.stackTraces = false) {h : HP} {c39 : Nat → Int64} {c40 : Nat → Int64} {w0 : Int32} {w1 : Int64} {w2 : Int64} {a : Nat} {fs : List Value} (ha : ob h a = some (.inr (15, fs))) (hn : fs.length = 135) {r39 n39 : Nat} (e39 : fs[39]? = some (.ref r39)) (o39 : ob h r39 = some (.inl (1, n39, .inr (.inl c39)))) {r40 n40 : Nat} (e40 : fs[40]? = some (.ref r40)) (o40 : ob h r40 = some (.inl (1, n40, .inr (.inl c40)))) (d39_40 : r39 ≠ r40) (i0 : ((lg_cmp (((w1.toUInt64 >>> ((Int8.ofInt 52).toInt32.toInt64.toUInt64 &&& Int64.toUInt64 63)).toInt64) &&& (2047 : Int64)) (2047 : Int64)) = 0) → (¬ (f_X12_isPoint w0) = 0) → ((f_X12_fails (Int32.ofInt 0) (Int32.ofInt 0) (Int32.ofInt 1)) = 0) → ((f_X12_fails (V0_X12_fails (Int32.ofInt 0) (Int32.ofInt 0) (Int32.ofInt 1)) (Int32.ofInt 1) (Int32.ofInt 2)) = 0) → vp_in w0 n39) (i1 : ((lg_cmp (((w1.toUInt64 >>> ((Int8.ofInt 52).toInt32.toInt64.toUInt64 &&& Int64.toUInt64 63)).toInt64) &&& (2047 : Int64)) (2047 : Int64)) = 0) → (¬ (f_X12_isPoint w0) = 0) → ((f_X12_fails (Int32.ofInt 0) (Int32.ofInt 0) (Int32.ofInt 1)) = 0) → ((f_X12_fails (V0_X12_fails (Int32.ofInt 0) (Int32.ofInt 0) (Int32.ofInt 1)) (Int32.ofInt 1) (Int32.ofInt 2)) = 0) → vp_in w0 n40) (i2 : ((lg_cmp (((w1.toUInt64 >>> ((Int8.ofInt 52).toInt32.toInt64.toUInt64 &&& Int64.toUInt64 63)).toInt64) &&& (2047 : Int64)) (2047 : Int64)) = 0) → ((f_X12_isPoint w0) = 0) → ((f_X12_fails (Int32.ofInt 0) (Int32.ofInt 1) (Int32.ofInt 1)) = 0) → ((f_X12_fails (V0_X12_fails (Int32.ofInt 0) (Int32.ofInt 1) (Int32.ofInt 1)) (Int32.ofInt 1) (Int32.ofInt 2)) = 0) → vp_in w0 n39) (i3 : ((lg_cmp (((w1.toUInt64 >>> ((Int8.ofInt 52).toInt32.toInt64.toUInt64 &&& Int64.toUInt64 63)).toInt64) &&& (2047 : Int64)) (2047 : Int64)) = 0) → ((f_X12_isPoint w0) = 0) → ((f_X12_fails (Int32.ofInt 0) (Int32.ofInt 1) (Int32.ofInt 1)) = 0) → ((f_X12_fails (V0_X12_fails (Int32.ofInt 0) (Int32.ofInt 1) (Int32.ofInt 1)) (Int32.ofInt 1) (Int32.ofInt 2)) = 0) → vp_in w0 n40) (i4 : (¬ (lg_cmp (((w1.toUInt64 >>> ((Int8.ofInt 52).toInt32.toInt64.toUInt64 &&& Int64.toUInt64 63)).toInt64) &&& (2047 : Int64)) (2047 : Int64)) = 0) → (¬ (lg_cmp (((w2.toUInt64 >>> ((Int8.ofInt 52).toInt32.toInt64.toUInt64 &&& Int64.toUInt64 63)).toInt64) &&& (2047 : Int64)) (2047 : Int64)) = 0) → (¬ (f_X12_isPoint w0) = 0) → ((f_X12_fails (Int32.ofInt 0) (Int32.ofInt 0) (Int32.ofInt 1)) = 0) → ((f_X12_fails (V0_X12_fails (Int32.ofInt 0) (Int32.ofInt 0) (Int32.ofInt 1)) (Int32.ofInt 0) (Int32.ofInt 2)) = 0) → vp_in w0 n39) (i5 : (¬ (lg_cmp (((w1.toUInt64 >>> ((Int8.ofInt 52).toInt32.toInt64.toUInt64 &&& Int64.toUInt64 63)).toInt64) &&& (2047 : Int64)) (2047 : Int64)) = 0) → (¬ (lg_cmp (((w2.toUInt64 >>> ((Int8.ofInt 52).toInt32.toInt64.toUInt64 &&& Int64.toUInt64 63)).toInt64) &&& (2047 : Int64)) (2047 : Int64)) = 0) → (¬ (f_X12_isPoint w0) = 0) → ((f_X12_fails (Int32.ofInt 0) (Int32.ofInt 0) (Int32.ofInt 1)) = 0) → ((f_X12_fails (V0_X12_fails (Int32.ofInt 0) (Int32.ofInt 0) (Int32.ofInt 1)) (Int32.ofInt 0) (Int32.ofInt 2)) = 0) → vp_in w0 n40) (i6 : (¬ (lg_cmp (((w1.toUInt64 >>> ((Int8.ofInt 52).toInt32.toInt64.toUInt64 &&& Int64.toUInt64 63)).toInt64) &&& (2047 : Int64)) (2047 : Int64)) = 0) → (¬ (lg_cmp (((w2.toUInt64 >>> ((Int8.ofInt 52).toInt32.toInt64.toUInt64 &&& Int64.toUInt64 63)).toInt64) &&& (2047 : Int64)) (2047 : Int64)) = 0) → ((f_X12_isPoint w0) = 0) → ((f_X12_fails (Int32.ofInt 0) (Int32.ofInt 1) (Int32.ofInt 1)) = 0) → ((f_X12_fails (V0_X12_fails (Int32.ofInt 0) (Int32.ofInt 1) (Int32.ofInt 1)) (Int32.ofInt 0) (Int32.ofInt 2)) = 0) → vp_in w0 n39) (i7 : (¬ (lg_cmp (((w1.toUInt64 >>> ((Int8.ofInt 52).toInt32.toInt64.toUInt64 &&& Int64.toUInt64 63)).toInt64) &&& (2047 : Int64)) (2047 : Int64)) = 0) → (¬ (lg_cmp (((w2.toUInt64 >>> ((Int8.ofInt 52).toInt32.toInt64.toUInt64 &&& Int64.toUInt64 63)).toInt64) &&& (2047 : Int64)) (2047 : Int64)) = 0) → ((f_X12_isPoint w0) = 0) → ((f_X12_fails (Int32.ofInt 0) (Int32.ofInt 1) (Int32.ofInt 1)) = 0) → ((f_X12_fails (V0_X12_fails (Int32.ofInt 0) (Int32.ofInt 1) (Int32.ofInt 1)) (Int32.ofInt 0) (Int32.ofInt 2)) = 0) → vp_in w0 n40) (i8 : (¬ (lg_cmp (((w1.toUInt64 >>> ((Int8.ofInt 52).toInt32.toInt64.toUInt64 &&& Int64.toUInt64 63)).toInt64) &&& (2047 : Int64)) (2047 : Int64)) = 0) → ((lg_cmp (((w2.toUInt64 >>> ((Int8.ofInt 52).toInt32.toInt64.toUInt64 &&& Int64.toUInt64 63)).toInt64) &&& (2047 : Int64)) (2047 : Int64)) = 0) → (¬ (f_X12_isPoint w0) = 0) → ((f_X12_fails (Int32.ofInt 0) (Int32.ofInt 0) (Int32.ofInt 1)) = 0) → ((f_X12_fails (V0_X12_fails (Int32.ofInt 0) (Int32.ofInt 0) (Int32.ofInt 1)) (Int32.ofInt 1) (Int32.ofInt 2)) = 0) → vp_in w0 n39) (i9 : (¬ (lg_cmp (((w1.toUInt64 >>> ((Int8.ofInt 52).toInt32.toInt64.toUInt64 &&& Int64.toUInt64 63)).toInt64) &&& (2047 : Int64)) (2047 : Int64)) = 0) → ((lg_cmp (((w2.toUInt64 >>> ((Int8.ofInt 52).toInt32.toInt64.toUInt64 &&& Int64.toUInt64 63)).toInt64) &&& (2047 : Int64)) (2047 : Int64)) = 0) → (¬ (f_X12_isPoint w0) = 0) → ((f_X12_fails (Int32.ofInt 0) (Int32.ofInt 0) (Int32.ofInt 1)) = 0) → ((f_X12_fails (V0_X12_fails (Int32.ofInt 0) (Int32.ofInt 0) (Int32.ofInt 1)) (Int32.ofInt 1) (Int32.ofInt 2)) = 0) → vp_in w0 n40) (i10 : (¬ (lg_cmp (((w1.toUInt64 >>> ((Int8.ofInt 52).toInt32.toInt64.toUInt64 &&& Int64.toUInt64 63)).toInt64) &&& (2047 : Int64)) (2047 : Int64)) = 0) → ((lg_cmp (((w2.toUInt64 >>> ((Int8.ofInt 52).toInt32.toInt64.toUInt64 &&& Int64.toUInt64 63)).toInt64) &&& (2047 : Int64)) (2047 : Int64)) = 0) → ((f_X12_isPoint w0) = 0) → ((f_X12_fails (Int32.ofInt 0) (Int32.ofInt 1) (Int32.ofInt 1)) = 0) → ((f_X12_fails (V0_X12_fails (Int32.ofInt 0) (Int32.ofInt 1) (Int32.ofInt 1)) (Int32.ofInt 1) (Int32.ofInt 2)) = 0) → vp_in w0 n39) (i11 : (¬ (lg_cmp (((w1.toUInt64 >>> ((Int8.ofInt 52).toInt32.toInt64.toUInt64 &&& Int64.toUInt64 63)).toInt64) &&& (2047 : Int64)) (2047 : Int64)) = 0) → ((lg_cmp (((w2.toUInt64 >>> ((Int8.ofInt 52).toInt32.toInt64.toUInt64 &&& Int64.toUInt64 63)).toInt64) &&& (2047 : Int64)) (2047 : Int64)) = 0) → ((f_X12_isPoint w0) = 0) → ((f_X12_fails (Int32.ofInt 0) (Int32.ofInt 1) (Int32.ofInt 1)) = 0) → ((f_X12_fails (V0_X12_fails (Int32.ofInt 0) (Int32.ofInt 1) (Int32.ofInt 1)) (Int32.ofInt 1) (Int32.ofInt 2)) = 0) → vp_in w0 n40) : en_C l E M_X12_point 1 0 0 [.ref a, .int w0, .long w1, .long w2] h (pR none (stt (stt (stt h a (.inr (15, F_X12_point fs c39 c40 w0 w1 w2))) r39 (.inl (1, n39, .inr (.inl (A39_X12_point c39 c40 w0 w1 w2))))) r40 (.inl (1, n40, .inr (.inl (A40_X12_point c39 c40 w0 w1 w2)))))) := by
  refine en_mk m_X12_point rfl hl (Nat.le_of_ble_eq_true rfl) ?_
  refine x_heap (h' := (stt (stt (stt h a (.inr (15, fs))) r39 (.inl (1, n39, .inr (.inl c39)))) r40 (.inl (1, n40, .inr (.inl c40))))) (by rw [stt_id ha, stt_id o39, stt_id o40]) ?_
  refine x_aload_n (M := M_X12_point) dX12_point_0 rfl ?_
  refine x_iconst (M := M_X12_point) dX12_point_1 ?_
  refine x_put (M := M_X12_point) (ci := 15) (C := RX12) (T := TX12) (N := 135) (ty := tyX12) cl15 dX12_point_2 (ob_up (ob_df ha o40).symm (ob_at o40).1 (ob_up (ob_df ha o39).symm (ob_at o39).1 (ob_self ha))) 0 (by decide) t_2391 (Or.inl rfl) (by simp only [List.length_set, hn]; decide) rfl ?_
  refine x_heap (h' := (stt (stt (stt h a (.inr (15, (fs.set 0 (.int (Int32.ofInt 0)))))) r39 (.inl (1, n39, .inr (.inl c39)))) r40 (.inl (1, n40, .inr (.inl c40))))) (by rw [stt_sw (x := r40) (y := a) (ob_df ha o40).symm (ob_at o40).1 (ob_at ha).1, stt_sw (x := r39) (y := a) (ob_df ha o39).symm (ob_at o39).1 (ob_at ha).1, stt_stt (a := a)]) ?_
  refine x_lload_n (M := M_X12_point) dX12_point_5 rfl ?_
  refine x_bipush (M := M_X12_point) dX12_point_6 ?_
  refine x_lushr (M := M_X12_point) dX12_point_8 ?_
  refine x_ldc2 (M := M_X12_point) dX12_point_9 t_2994 ?_
  refine x_land (M := M_X12_point) dX12_point_12 ?_
  refine x_ldc2 (M := M_X12_point) dX12_point_13 t_2994 ?_
  refine x_lcmp (M := M_X12_point) dX12_point_16 ?_
  refine x_if_eq (M := M_X12_point) (tgt := 36) dX12_point_17 (by decide) (fun q0 => ?_) (fun q0 => ?_)
  · refine x_iconst (M := M_X12_point) dX12_point_36 ?_
    refine x_goto (M := M_X12_point) (tgt := 41) dX12_point_37 (by decide) ?_
    refine x_istore (M := M_X12_point) dX12_point_41 (by decide) rfl ?_
    refine x_norm (lv' := [some (.ref a), some (.int w0), some (.long w1), none, some (.long w2), none, some (.int (Int32.ofInt 1))]) rfl rfl rfl rfl rfl ?_
    refine x_aload_n (M := M_X12_point) dX12_point_43 rfl ?_
    refine x_iload_n (M := M_X12_point) dX12_point_44 rfl ?_
    refine x_callSR (M := M_X12_point) (M' := M_X12_isPoint) rfl rfl dX12_point_45 m_X12_isPoint t_3154 t_3155 (p_X12_isPoint hl) rfl rfl (Nat.le_of_ble_eq_true rfl) (Nat.le_of_ble_eq_true rfl) (Nat.le_of_ble_eq_true rfl) (Nat.le_of_ble_eq_true rfl) ?_
    refine x_if_ne (M := M_X12_point) (tgt := 55) dX12_point_48 (by decide) (fun q1 => ?_) (fun q1 => ?_)
    · refine x_iconst (M := M_X12_point) dX12_point_55 ?_
      refine x_iconst (M := M_X12_point) dX12_point_56 ?_
      refine x_callVR (M := M_X12_point) (M' := M_X12_fails) rfl rfl dX12_point_57 m_X12_fails t_2805 t_2807 s_157 (p_X12_fails hl (ob_up (ob_df ha o40).symm (ob_at o40).1 (ob_up (ob_df ha o39).symm (ob_at o39).1 (ob_self ha))) (by simp only [List.length_set, hn]) (gs_eq (by simp only [List.length_set, hn]; decide))) rfl rfl (ob_up (ob_df ha o40).symm (ob_at o40).1 (ob_up (ob_df ha o39).symm (ob_at o39).1 (ob_self ha))) rfl (Nat.le_of_ble_eq_true rfl) (Nat.le_of_ble_eq_true rfl) (Nat.le_of_ble_eq_true rfl) (Nat.le_of_ble_eq_true rfl) ?_
      refine x_heap (h' := (stt (stt (stt h a (.inr (15, (F_X12_fails (fs.set 0 (.int (Int32.ofInt 0))) (Int32.ofInt 0) (Int32.ofInt 0) (Int32.ofInt 1))))) r39 (.inl (1, n39, .inr (.inl c39)))) r40 (.inl (1, n40, .inr (.inl c40))))) (by rw [stt_sw (x := r40) (y := a) (ob_df ha o40).symm (ob_at o40).1 (ob_at ha).1, stt_sw (x := r39) (y := a) (ob_df ha o39).symm (ob_at o39).1 (ob_at ha).1, stt_stt (a := a)]) ?_
      refine x_if_ne (M := M_X12_point) (tgt := 73) dX12_point_60 (by decide) (fun q2 => ?_) (fun q2 => ?_)
      · exact x_vret (M := M_X12_point) dX12_point_73 rfl ⟨rfl, by rw [F_X12_point, if_pos q0, if_neg q1, if_neg q2, A39_X12_point, if_pos q0, if_neg q1, if_neg q2, A40_X12_point, if_pos q0, if_neg q1, if_neg q2]⟩ (Nat.le_of_ble_eq_true rfl) (Nat.le_of_ble_eq_true rfl)
      · refine x_aload_n (M := M_X12_point) dX12_point_63 rfl ?_
        refine x_iload (M := M_X12_point) dX12_point_64 rfl ?_
        refine x_iconst (M := M_X12_point) dX12_point_66 ?_
        refine x_callVR (M := M_X12_point) (M' := M_X12_fails) rfl rfl dX12_point_67 m_X12_fails t_2805 t_2807 s_157 (p_X12_fails hl (ob_up (ob_df ha o40).symm (ob_at o40).1 (ob_up (ob_df ha o39).symm (ob_at o39).1 (ob_self ha))) (by simp only [List.length_set, hn, l_X12_fails]) (v0_X12_fails (by simp only [List.length_set, hn, l_X12_fails]) (gs_eq (by simp only [List.length_set, hn, l_X12_fails]; decide)))) rfl rfl (ob_up (ob_df ha o40).symm (ob_at o40).1 (ob_up (ob_df ha o39).symm (ob_at o39).1 (ob_self ha))) rfl (Nat.le_of_ble_eq_true rfl) (Nat.le_of_ble_eq_true rfl) (Nat.le_of_ble_eq_true rfl) (Nat.le_of_ble_eq_true rfl) ?_
        refine x_heap (h' := (stt (stt (stt h a (.inr (15, (F_X12_fails (F_X12_fails (fs.set 0 (.int (Int32.ofInt 0))) (Int32.ofInt 0) (Int32.ofInt 0) (Int32.ofInt 1)) (V0_X12_fails (Int32.ofInt 0) (Int32.ofInt 0) (Int32.ofInt 1)) (Int32.ofInt 1) (Int32.ofInt 2))))) r39 (.inl (1, n39, .inr (.inl c39)))) r40 (.inl (1, n40, .inr (.inl c40))))) (by rw [stt_sw (x := r40) (y := a) (ob_df ha o40).symm (ob_at o40).1 (ob_at ha).1, stt_sw (x := r39) (y := a) (ob_df ha o39).symm (ob_at o39).1 (ob_at ha).1, stt_stt (a := a)]) ?_
        refine x_if_eq (M := M_X12_point) (tgt := 74) dX12_point_70 (by decide) (fun q3 => ?_) (fun q3 => ?_)
        · refine x_aload_n (M := M_X12_point) dX12_point_74 rfl ?_
          refine x_getf (M := M_X12_point) (ci := 15) (C := RX12) (T := TX12) (N := 135) (ty := tyX12) cl15 dX12_point_75 (ob_up (ob_df ha o40).symm (ob_at o40).1 (ob_up (ob_df ha o39).symm (ob_at o39).1 (ob_self ha))) 39 (by decide) t_2430 ((k_X12_fails (by decide)).trans ((k_X12_fails (by decide)).trans (gs_ne (by decide) e39))) ?_
          refine x_iload_n (M := M_X12_point) dX12_point_78 rfl ?_
          refine x_lload_n (M := M_X12_point) dX12_point_79 rfl ?_
          refine x_last (M := M_X12_point) dX12_point_80 (ob_up d39_40.symm (ob_at o40).1 (ob_self (ob_oth ha o39))) (i0 q0 q1 q2 q3) ?_
          refine x_heap (h' := (stt (stt (stt h a (.inr (15, (F_X12_fails (F_X12_fails (fs.set 0 (.int (Int32.ofInt 0))) (Int32.ofInt 0) (Int32.ofInt 0) (Int32.ofInt 1)) (V0_X12_fails (Int32.ofInt 0) (Int32.ofInt 0) (Int32.ofInt 1)) (Int32.ofInt 1) (Int32.ofInt 2))))) r39 (.inl (1, n39, .inr (.inl (vp_updL c39 w0.toNatClampNeg w1))))) r40 (.inl (1, n40, .inr (.inl c40))))) (by rw [stt_sw (x := r40) (y := r39) d39_40.symm (ob_at o40).1 (ob_at o39).1, stt_stt (a := r39)]) ?_
          refine x_aload_n (M := M_X12_point) dX12_point_81 rfl ?_
          refine x_getf (M := M_X12_point) (ci := 15) (C := RX12) (T := TX12) (N := 135) (ty := tyX12) cl15 dX12_point_82 (ob_up (ob_df ha o40).symm (ob_at o40).1 (ob_up (ob_df ha o39).symm (ob_at o39).1 (ob_self ha))) 40 (by decide) t_2431 ((k_X12_fails (by decide)).trans ((k_X12_fails (by decide)).trans (gs_ne (by decide) e40))) ?_
          refine x_iload_n (M := M_X12_point) dX12_point_85 rfl ?_
          refine x_lload (M := M_X12_point) dX12_point_86 rfl ?_
          refine x_last (M := M_X12_point) dX12_point_88 (ob_self (ob_up d39_40 (ob_at o39).1 (ob_oth ha o40))) (i1 q0 q1 q2 q3) ?_
          refine x_heap (h' := (stt (stt (stt h a (.inr (15, (F_X12_fails (F_X12_fails (fs.set 0 (.int (Int32.ofInt 0))) (Int32.ofInt 0) (Int32.ofInt 0) (Int32.ofInt 1)) (V0_X12_fails (Int32.ofInt 0) (Int32.ofInt 0) (Int32.ofInt 1)) (Int32.ofInt 1) (Int32.ofInt 2))))) r39 (.inl (1, n39, .inr (.inl (vp_updL c39 w0.toNatClampNeg w1))))) r40 (.inl (1, n40, .inr (.inl (vp_updL c40 w0.toNatClampNeg w2)))))) (by rw [stt_stt (a := r40)]) ?_
          exact x_vret (M := M_X12_point) dX12_point_89 rfl ⟨rfl, by rw [F_X12_point, if_pos q0, if_neg q1, if_pos q2, if_pos q3, A39_X12_point, if_pos q0, if_neg q1, if_pos q2, if_pos q3, A40_X12_point, if_pos q0, if_neg q1, if_pos q2, if_pos q3]⟩ (Nat.le_of_ble_eq_true rfl) (Nat.le_of_ble_eq_true rfl)
        · exact x_vret (M := M_X12_point) dX12_point_73 rfl ⟨rfl, by rw [F_X12_point, if_pos q0, if_neg q1, if_pos q2, if_neg q3, A39_X12_point, if_pos q0, if_neg q1, if_pos q2, if_neg q3, A40_X12_point, if_pos q0, if_neg q1, if_pos q2, if_neg q3]⟩ (Nat.le_of_ble_eq_true rfl) (Nat.le_of_ble_eq_true rfl)
    · refine x_iconst (M := M_X12_point) dX12_point_51 ?_
      refine x_goto (M := M_X12_point) (tgt := 56) dX12_point_52 (by decide) ?_
      refine x_iconst (M := M_X12_point) dX12_point_56 ?_
      refine x_callVR (M := M_X12_point) (M' := M_X12_fails) rfl rfl dX12_point_57 m_X12_fails t_2805 t_2807 s_157 (p_X12_fails hl (ob_up (ob_df ha o40).symm (ob_at o40).1 (ob_up (ob_df ha o39).symm (ob_at o39).1 (ob_self ha))) (by simp only [List.length_set, hn, l_X12_fails]) (gs_eq (by simp only [List.length_set, hn, l_X12_fails]; decide))) rfl rfl (ob_up (ob_df ha o40).symm (ob_at o40).1 (ob_up (ob_df ha o39).symm (ob_at o39).1 (ob_self ha))) rfl (Nat.le_of_ble_eq_true rfl) (Nat.le_of_ble_eq_true rfl) (Nat.le_of_ble_eq_true rfl) (Nat.le_of_ble_eq_true rfl) ?_
      refine x_heap (h' := (stt (stt (stt h a (.inr (15, (F_X12_fails (fs.set 0 (.int (Int32.ofInt 0))) (Int32.ofInt 0) (Int32.ofInt 1) (Int32.ofInt 1))))) r39 (.inl (1, n39, .inr (.inl c39)))) r40 (.inl (1, n40, .inr (.inl c40))))) (by rw [stt_sw (x := r40) (y := a) (ob_df ha o40).symm (ob_at o40).1 (ob_at ha).1, stt_sw (x := r39) (y := a) (ob_df ha o39).symm (ob_at o39).1 (ob_at ha).1, stt_stt (a := a)]) ?_
      refine x_if_ne (M := M_X12_point) (tgt := 73) dX12_point_60 (by decide) (fun q2 => ?_) (fun q2 => ?_)
      · exact x_vret (M := M_X12_point) dX12_point_73 rfl ⟨rfl, by rw [F_X12_point, if_pos q0, if_pos q1, if_neg q2, A39_X12_point, if_pos q0, if_pos q1, if_neg q2, A40_X12_point, if_pos q0, if_pos q1, if_neg q2]⟩ (Nat.le_of_ble_eq_true rfl) (Nat.le_of_ble_eq_true rfl)
      · refine x_aload_n (M := M_X12_point) dX12_point_63 rfl ?_
        refine x_iload (M := M_X12_point) dX12_point_64 rfl ?_
        refine x_iconst (M := M_X12_point) dX12_point_66 ?_
        refine x_callVR (M := M_X12_point) (M' := M_X12_fails) rfl rfl dX12_point_67 m_X12_fails t_2805 t_2807 s_157 (p_X12_fails hl (ob_up (ob_df ha o40).symm (ob_at o40).1 (ob_up (ob_df ha o39).symm (ob_at o39).1 (ob_self ha))) (by simp only [List.length_set, hn, l_X12_fails]) (v0_X12_fails (by simp only [List.length_set, hn, l_X12_fails]) (gs_eq (by simp only [List.length_set, hn, l_X12_fails]; decide)))) rfl rfl (ob_up (ob_df ha o40).symm (ob_at o40).1 (ob_up (ob_df ha o39).symm (ob_at o39).1 (ob_self ha))) rfl (Nat.le_of_ble_eq_true rfl) (Nat.le_of_ble_eq_true rfl) (Nat.le_of_ble_eq_true rfl) (Nat.le_of_ble_eq_true rfl) ?_
        refine x_heap (h' := (stt (stt (stt h a (.inr (15, (F_X12_fails (F_X12_fails (fs.set 0 (.int (Int32.ofInt 0))) (Int32.ofInt 0) (Int32.ofInt 1) (Int32.ofInt 1)) (V0_X12_fails (Int32.ofInt 0) (Int32.ofInt 1) (Int32.ofInt 1)) (Int32.ofInt 1) (Int32.ofInt 2))))) r39 (.inl (1, n39, .inr (.inl c39)))) r40 (.inl (1, n40, .inr (.inl c40))))) (by rw [stt_sw (x := r40) (y := a) (ob_df ha o40).symm (ob_at o40).1 (ob_at ha).1, stt_sw (x := r39) (y := a) (ob_df ha o39).symm (ob_at o39).1 (ob_at ha).1, stt_stt (a := a)]) ?_
        refine x_if_eq (M := M_X12_point) (tgt := 74) dX12_point_70 (by decide) (fun q3 => ?_) (fun q3 => ?_)
        · refine x_aload_n (M := M_X12_point) dX12_point_74 rfl ?_
          refine x_getf (M := M_X12_point) (ci := 15) (C := RX12) (T := TX12) (N := 135) (ty := tyX12) cl15 dX12_point_75 (ob_up (ob_df ha o40).symm (ob_at o40).1 (ob_up (ob_df ha o39).symm (ob_at o39).1 (ob_self ha))) 39 (by decide) t_2430 ((k_X12_fails (by decide)).trans ((k_X12_fails (by decide)).trans (gs_ne (by decide) e39))) ?_
          refine x_iload_n (M := M_X12_point) dX12_point_78 rfl ?_
          refine x_lload_n (M := M_X12_point) dX12_point_79 rfl ?_
          refine x_last (M := M_X12_point) dX12_point_80 (ob_up d39_40.symm (ob_at o40).1 (ob_self (ob_oth ha o39))) (i2 q0 q1 q2 q3) ?_
          refine x_heap (h' := (stt (stt (stt h a (.inr (15, (F_X12_fails (F_X12_fails (fs.set 0 (.int (Int32.ofInt 0))) (Int32.ofInt 0) (Int32.ofInt 1) (Int32.ofInt 1)) (V0_X12_fails (Int32.ofInt 0) (Int32.ofInt 1) (Int32.ofInt 1)) (Int32.ofInt 1) (Int32.ofInt 2))))) r39 (.inl (1, n39, .inr (.inl (vp_updL c39 w0.toNatClampNeg w1))))) r40 (.inl (1, n40, .inr (.inl c40))))) (by rw [stt_sw (x := r40) (y := r39) d39_40.symm (ob_at o40).1 (ob_at o39).1, stt_stt (a := r39)]) ?_
          refine x_aload_n (M := M_X12_point) dX12_point_81 rfl ?_
          refine x_getf (M := M_X12_point) (ci := 15) (C := RX12) (T := TX12) (N := 135) (ty := tyX12) cl15 dX12_point_82 (ob_up (ob_df ha o40).symm (ob_at o40).1 (ob_up (ob_df ha o39).symm (ob_at o39).1 (ob_self ha))) 40 (by decide) t_2431 ((k_X12_fails (by decide)).trans ((k_X12_fails (by decide)).trans (gs_ne (by decide) e40))) ?_
          refine x_iload_n (M := M_X12_point) dX12_point_85 rfl ?_
          refine x_lload (M := M_X12_point) dX12_point_86 rfl ?_
          refine x_last (M := M_X12_point) dX12_point_88 (ob_self (ob_up d39_40 (ob_at o39).1 (ob_oth ha o40))) (i3 q0 q1 q2 q3) ?_
          refine x_heap (h' := (stt (stt (stt h a (.inr (15, (F_X12_fails (F_X12_fails (fs.set 0 (.int (Int32.ofInt 0))) (Int32.ofInt 0) (Int32.ofInt 1) (Int32.ofInt 1)) (V0_X12_fails (Int32.ofInt 0) (Int32.ofInt 1) (Int32.ofInt 1)) (Int32.ofInt 1) (Int32.ofInt 2))))) r39 (.inl (1, n39, .inr (.inl (vp_updL c39 w0.toNatClampNeg w1))))) r40 (.inl (1, n40, .inr (.inl (vp_updL c40 w0.toNatClampNeg w2)))))) (by rw [stt_stt (a := r40)]) ?_
          exact x_vret (M := M_X12_point) dX12_point_89 rfl ⟨rfl, by rw [F_X12_point, if_pos q0, if_pos q1, if_pos q2, if_pos q3, A39_X12_point, if_pos q0, if_pos q1, if_pos q2, if_pos q3, A40_X12_point, if_pos q0, if_pos q1, if_pos q2, if_pos q3]⟩ (Nat.le_of_ble_eq_true rfl) (Nat.le_of_ble_eq_true rfl)
        · exact x_vret (M := M_X12_point) dX12_point_73 rfl ⟨rfl, by rw [F_X12_point, if_pos q0, if_pos q1, if_pos q2, if_neg q3, A39_X12_point, if_pos q0, if_pos q1, if_pos q2, if_neg q3, A40_X12_point, if_pos q0, if_pos q1, if_pos q2, if_neg q3]⟩ (Nat.le_of_ble_eq_true rfl) (Nat.le_of_ble_eq_true rfl)
  · refine x_lload (M := M_X12_point) dX12_point_20 rfl ?_
    refine x_bipush (M := M_X12_point) dX12_point_22 ?_
    refine x_lushr (M := M_X12_point) dX12_point_24 ?_
    refine x_ldc2 (M := M_X12_point) dX12_point_25 t_2994 ?_
    refine x_land (M := M_X12_point) dX12_point_28 ?_
    refine x_ldc2 (M := M_X12_point) dX12_point_29 t_2994 ?_
    refine x_lcmp (M := M_X12_point) dX12_point_32 ?_
    refine x_if_ne (M := M_X12_point) (tgt := 40) dX12_point_33 (by decide) (fun q1 => ?_) (fun q1 => ?_)
    · refine x_iconst (M := M_X12_point) dX12_point_40 ?_
      refine x_istore (M := M_X12_point) dX12_point_41 (by decide) rfl ?_
      refine x_norm (lv' := [some (.ref a), some (.int w0), some (.long w1), none, some (.long w2), none, some (.int (Int32.ofInt 0))]) rfl rfl rfl rfl rfl ?_
      refine x_aload_n (M := M_X12_point) dX12_point_43 rfl ?_
      refine x_iload_n (M := M_X12_point) dX12_point_44 rfl ?_
      refine x_callSR (M := M_X12_point) (M' := M_X12_isPoint) rfl rfl dX12_point_45 m_X12_isPoint t_3154 t_3155 (p_X12_isPoint hl) rfl rfl (Nat.le_of_ble_eq_true rfl) (Nat.le_of_ble_eq_true rfl) (Nat.le_of_ble_eq_true rfl) (Nat.le_of_ble_eq_true rfl) ?_
      refine x_if_ne (M := M_X12_point) (tgt := 55) dX12_point_48 (by decide) (fun q2 => ?_) (fun q2 => ?_)
      · refine x_iconst (M := M_X12_point) dX12_point_55 ?_
        refine x_iconst (M := M_X12_point) dX12_point_56 ?_
        refine x_callVR (M := M_X12_point) (M' := M_X12_fails) rfl rfl dX12_point_57 m_X12_fails t_2805 t_2807 s_157 (p_X12_fails hl (ob_up (ob_df ha o40).symm (ob_at o40).1 (ob_up (ob_df ha o39).symm (ob_at o39).1 (ob_self ha))) (by simp only [List.length_set, hn, l_X12_fails]) (gs_eq (by simp only [List.length_set, hn, l_X12_fails]; decide))) rfl rfl (ob_up (ob_df ha o40).symm (ob_at o40).1 (ob_up (ob_df ha o39).symm (ob_at o39).1 (ob_self ha))) rfl (Nat.le_of_ble_eq_true rfl) (Nat.le_of_ble_eq_true rfl) (Nat.le_of_ble_eq_true rfl) (Nat.le_of_ble_eq_true rfl) ?_
        refine x_heap (h' := (stt (stt (stt h a (.inr (15, (F_X12_fails (fs.set 0 (.int (Int32.ofInt 0))) (Int32.ofInt 0) (Int32.ofInt 0) (Int32.ofInt 1))))) r39 (.inl (1, n39, .inr (.inl c39)))) r40 (.inl (1, n40, .inr (.inl c40))))) (by rw [stt_sw (x := r40) (y := a) (ob_df ha o40).symm (ob_at o40).1 (ob_at ha).1, stt_sw (x := r39) (y := a) (ob_df ha o39).symm (ob_at o39).1 (ob_at ha).1, stt_stt (a := a)]) ?_
        refine x_if_ne (M := M_X12_point) (tgt := 73) dX12_point_60 (by decide) (fun q3 => ?_) (fun q3 => ?_)
        · exact x_vret (M := M_X12_point) dX12_point_73 rfl ⟨rfl, by rw [F_X12_point, if_neg q0, if_neg q1, if_neg q2, if_neg q3, A39_X12_point, if_neg q0, if_neg q1, if_neg q2, if_neg q3, A40_X12_point, if_neg q0, if_neg q1, if_neg q2, if_neg q3]⟩ (Nat.le_of_ble_eq_true rfl) (Nat.le_of_ble_eq_true rfl)
        · refine x_aload_n (M := M_X12_point) dX12_point_63 rfl ?_
          refine x_iload (M := M_X12_point) dX12_point_64 rfl ?_
          refine x_iconst (M := M_X12_point) dX12_point_66 ?_
          refine x_callVR (M := M_X12_point) (M' := M_X12_fails) rfl rfl dX12_point_67 m_X12_fails t_2805 t_2807 s_157 (p_X12_fails hl (ob_up (ob_df ha o40).symm (ob_at o40).1 (ob_up (ob_df ha o39).symm (ob_at o39).1 (ob_self ha))) (by simp only [List.length_set, hn, l_X12_fails]) (v0_X12_fails (by simp only [List.length_set, hn, l_X12_fails]) (gs_eq (by simp only [List.length_set, hn, l_X12_fails]; decide)))) rfl rfl (ob_up (ob_df ha o40).symm (ob_at o40).1 (ob_up (ob_df ha o39).symm (ob_at o39).1 (ob_self ha))) rfl (Nat.le_of_ble_eq_true rfl) (Nat.le_of_ble_eq_true rfl) (Nat.le_of_ble_eq_true rfl) (Nat.le_of_ble_eq_true rfl) ?_
          refine x_heap (h' := (stt (stt (stt h a (.inr (15, (F_X12_fails (F_X12_fails (fs.set 0 (.int (Int32.ofInt 0))) (Int32.ofInt 0) (Int32.ofInt 0) (Int32.ofInt 1)) (V0_X12_fails (Int32.ofInt 0) (Int32.ofInt 0) (Int32.ofInt 1)) (Int32.ofInt 0) (Int32.ofInt 2))))) r39 (.inl (1, n39, .inr (.inl c39)))) r40 (.inl (1, n40, .inr (.inl c40))))) (by rw [stt_sw (x := r40) (y := a) (ob_df ha o40).symm (ob_at o40).1 (ob_at ha).1, stt_sw (x := r39) (y := a) (ob_df ha o39).symm (ob_at o39).1 (ob_at ha).1, stt_stt (a := a)]) ?_
          refine x_if_eq (M := M_X12_point) (tgt := 74) dX12_point_70 (by decide) (fun q4 => ?_) (fun q4 => ?_)
          · refine x_aload_n (M := M_X12_point) dX12_point_74 rfl ?_
            refine x_getf (M := M_X12_point) (ci := 15) (C := RX12) (T := TX12) (N := 135) (ty := tyX12) cl15 dX12_point_75 (ob_up (ob_df ha o40).symm (ob_at o40).1 (ob_up (ob_df ha o39).symm (ob_at o39).1 (ob_self ha))) 39 (by decide) t_2430 ((k_X12_fails (by decide)).trans ((k_X12_fails (by decide)).trans (gs_ne (by decide) e39))) ?_
            refine x_iload_n (M := M_X12_point) dX12_point_78 rfl ?_
            refine x_lload_n (M := M_X12_point) dX12_point_79 rfl ?_
            refine x_last (M := M_X12_point) dX12_point_80 (ob_up d39_40.symm (ob_at o40).1 (ob_self (ob_oth ha o39))) (i4 q0 q1 q2 q3 q4) ?_
            refine x_heap (h' := (stt (stt (stt h a (.inr (15, (F_X12_fails (F_X12_fails (fs.set 0 (.int (Int32.ofInt 0))) (Int32.ofInt 0) (Int32.ofInt 0) (Int32.ofInt 1)) (V0_X12_fails (Int32.ofInt 0) (Int32.ofInt 0) (Int32.ofInt 1)) (Int32.ofInt 0) (Int32.ofInt 2))))) r39 (.inl (1, n39, .inr (.inl (vp_updL c39 w0.toNatClampNeg w1))))) r40 (.inl (1, n40, .inr (.inl c40))))) (by rw [stt_sw (x := r40) (y := r39) d39_40.symm (ob_at o40).1 (ob_at o39).1, stt_stt (a := r39)]) ?_
            refine x_aload_n (M := M_X12_point) dX12_point_81 rfl ?_
            refine x_getf (M := M_X12_point) (ci := 15) (C := RX12) (T := TX12) (N := 135) (ty := tyX12) cl15 dX12_point_82 (ob_up (ob_df ha o40).symm (ob_at o40).1 (ob_up (ob_df ha o39).symm (ob_at o39).1 (ob_self ha))) 40 (by decide) t_2431 ((k_X12_fails (by decide)).trans ((k_X12_fails (by decide)).trans (gs_ne (by decide) e40))) ?_
            refine x_iload_n (M := M_X12_point) dX12_point_85 rfl ?_
            refine x_lload (M := M_X12_point) dX12_point_86 rfl ?_
            refine x_last (M := M_X12_point) dX12_point_88 (ob_self (ob_up d39_40 (ob_at o39).1 (ob_oth ha o40))) (i5 q0 q1 q2 q3 q4) ?_
            refine x_heap (h' := (stt (stt (stt h a (.inr (15, (F_X12_fails (F_X12_fails (fs.set 0 (.int (Int32.ofInt 0))) (Int32.ofInt 0) (Int32.ofInt 0) (Int32.ofInt 1)) (V0_X12_fails (Int32.ofInt 0) (Int32.ofInt 0) (Int32.ofInt 1)) (Int32.ofInt 0) (Int32.ofInt 2))))) r39 (.inl (1, n39, .inr (.inl (vp_updL c39 w0.toNatClampNeg w1))))) r40 (.inl (1, n40, .inr (.inl (vp_updL c40 w0.toNatClampNeg w2)))))) (by rw [stt_stt (a := r40)]) ?_
            exact x_vret (M := M_X12_point) dX12_point_89 rfl ⟨rfl, by rw [F_X12_point, if_neg q0, if_neg q1, if_neg q2, if_pos q3, if_pos q4, A39_X12_point, if_neg q0, if_neg q1, if_neg q2, if_pos q3, if_pos q4, A40_X12_point, if_neg q0, if_neg q1, if_neg q2, if_pos q3, if_pos q4]⟩ (Nat.le_of_ble_eq_true rfl) (Nat.le_of_ble_eq_true rfl)
          · exact x_vret (M := M_X12_point) dX12_point_73 rfl ⟨rfl, by rw [F_X12_point, if_neg q0, if_neg q1, if_neg q2, if_pos q3, if_neg q4, A39_X12_point, if_neg q0, if_neg q1, if_neg q2, if_pos q3, if_neg q4, A40_X12_point, if_neg q0, if_neg q1, if_neg q2, if_pos q3, if_neg q4]⟩ (Nat.le_of_ble_eq_true rfl) (Nat.le_of_ble_eq_true rfl)
      · refine x_iconst (M := M_X12_point) dX12_point_51 ?_
        refine x_goto (M := M_X12_point) (tgt := 56) dX12_point_52 (by decide) ?_
        refine x_iconst (M := M_X12_point) dX12_point_56 ?_
        refine x_callVR (M := M_X12_point) (M' := M_X12_fails) rfl rfl dX12_point_57 m_X12_fails t_2805 t_2807 s_157 (p_X12_fails hl (ob_up (ob_df ha o40).symm (ob_at o40).1 (ob_up (ob_df ha o39).symm (ob_at o39).1 (ob_self ha))) (by simp only [List.length_set, hn, l_X12_fails]) (gs_eq (by simp only [List.length_set, hn, l_X12_fails]; decide))) rfl rfl (ob_up (ob_df ha o40).symm (ob_at o40).1 (ob_up (ob_df ha o39).symm (ob_at o39).1 (ob_self ha))) rfl (Nat.le_of_ble_eq_true rfl) (Nat.le_of_ble_eq_true rfl) (Nat.le_of_ble_eq_true rfl) (Nat.le_of_ble_eq_true rfl) ?_
        refine x_heap (h' := (stt (stt (stt h a (.inr (15, (F_X12_fails (fs.set 0 (.int (Int32.ofInt 0))) (Int32.ofInt 0) (Int32.ofInt 1) (Int32.ofInt 1))))) r39 (.inl (1, n39, .inr (.inl c39)))) r40 (.inl (1, n40, .inr (.inl c40))))) (by rw [stt_sw (x := r40) (y := a) (ob_df ha o40).symm (ob_at o40).1 (ob_at ha).1, stt_sw (x := r39) (y := a) (ob_df ha o39).symm (ob_at o39).1 (ob_at ha).1, stt_stt (a := a)]) ?_
        refine x_if_ne (M := M_X12_point) (tgt := 73) dX12_point_60 (by decide) (fun q3 => ?_) (fun q3 => ?_)
        · exact x_vret (M := M_X12_point) dX12_point_73 rfl ⟨rfl, by rw [F_X12_point, if_neg q0, if_neg q1, if_pos q2, if_neg q3, A39_X12_point, if_neg q0, if_neg q1, if_pos q2, if_neg q3, A40_X12_point, if_neg q0, if_neg q1, if_pos q2, if_neg q3]⟩ (Nat.le_of_ble_eq_true rfl) (Nat.le_of_ble_eq_true rfl)
        · refine x_aload_n (M := M_X12_point) dX12_point_63 rfl ?_
          refine x_iload (M := M_X12_point) dX12_point_64 rfl ?_
          refine x_iconst (M := M_X12_point) dX12_point_66 ?_
          refine x_callVR (M := M_X12_point) (M' := M_X12_fails) rfl rfl dX12_point_67 m_X12_fails t_2805 t_2807 s_157 (p_X12_fails hl (ob_up (ob_df ha o40).symm (ob_at o40).1 (ob_up (ob_df ha o39).symm (ob_at o39).1 (ob_self ha))) (by simp only [List.length_set, hn, l_X12_fails]) (v0_X12_fails (by simp only [List.length_set, hn, l_X12_fails]) (gs_eq (by simp only [List.length_set, hn, l_X12_fails]; decide)))) rfl rfl (ob_up (ob_df ha o40).symm (ob_at o40).1 (ob_up (ob_df ha o39).symm (ob_at o39).1 (ob_self ha))) rfl (Nat.le_of_ble_eq_true rfl) (Nat.le_of_ble_eq_true rfl) (Nat.le_of_ble_eq_true rfl) (Nat.le_of_ble_eq_true rfl) ?_
          refine x_heap (h' := (stt (stt (stt h a (.inr (15, (F_X12_fails (F_X12_fails (fs.set 0 (.int (Int32.ofInt 0))) (Int32.ofInt 0) (Int32.ofInt 1) (Int32.ofInt 1)) (V0_X12_fails (Int32.ofInt 0) (Int32.ofInt 1) (Int32.ofInt 1)) (Int32.ofInt 0) (Int32.ofInt 2))))) r39 (.inl (1, n39, .inr (.inl c39)))) r40 (.inl (1, n40, .inr (.inl c40))))) (by rw [stt_sw (x := r40) (y := a) (ob_df ha o40).symm (ob_at o40).1 (ob_at ha).1, stt_sw (x := r39) (y := a) (ob_df ha o39).symm (ob_at o39).1 (ob_at ha).1, stt_stt (a := a)]) ?_
          refine x_if_eq (M := M_X12_point) (tgt := 74) dX12_point_70 (by decide) (fun q4 => ?_) (fun q4 => ?_)
          · refine x_aload_n (M := M_X12_point) dX12_point_74 rfl ?_
            refine x_getf (M := M_X12_point) (ci := 15) (C := RX12) (T := TX12) (N := 135) (ty := tyX12) cl15 dX12_point_75 (ob_up (ob_df ha o40).symm (ob_at o40).1 (ob_up (ob_df ha o39).symm (ob_at o39).1 (ob_self ha))) 39 (by decide) t_2430 ((k_X12_fails (by decide)).trans ((k_X12_fails (by decide)).trans (gs_ne (by decide) e39))) ?_
            refine x_iload_n (M := M_X12_point) dX12_point_78 rfl ?_
            refine x_lload_n (M := M_X12_point) dX12_point_79 rfl ?_
            refine x_last (M := M_X12_point) dX12_point_80 (ob_up d39_40.symm (ob_at o40).1 (ob_self (ob_oth ha o39))) (i6 q0 q1 q2 q3 q4) ?_
            refine x_heap (h' := (stt (stt (stt h a (.inr (15, (F_X12_fails (F_X12_fails (fs.set 0 (.int (Int32.ofInt 0))) (Int32.ofInt 0) (Int32.ofInt 1) (Int32.ofInt 1)) (V0_X12_fails (Int32.ofInt 0) (Int32.ofInt 1) (Int32.ofInt 1)) (Int32.ofInt 0) (Int32.ofInt 2))))) r39 (.inl (1, n39, .inr (.inl (vp_updL c39 w0.toNatClampNeg w1))))) r40 (.inl (1, n40, .inr (.inl c40))))) (by rw [stt_sw (x := r40) (y := r39) d39_40.symm (ob_at o40).1 (ob_at o39).1, stt_stt (a := r39)]) ?_
            refine x_aload_n (M := M_X12_point) dX12_point_81 rfl ?_
            refine x_getf (M := M_X12_point) (ci := 15) (C := RX12) (T := TX12) (N := 135) (ty := tyX12) cl15 dX12_point_82 (ob_up (ob_df ha o40).symm (ob_at o40).1 (ob_up (ob_df ha o39).symm (ob_at o39).1 (ob_self ha))) 40 (by decide) t_2431 ((k_X12_fails (by decide)).trans ((k_X12_fails (by decide)).trans (gs_ne (by decide) e40))) ?_
            refine x_iload_n (M := M_X12_point) dX12_point_85 rfl ?_
            refine x_lload (M := M_X12_point) dX12_point_86 rfl ?_
            refine x_last (M := M_X12_point) dX12_point_88 (ob_self (ob_up d39_40 (ob_at o39).1 (ob_oth ha o40))) (i7 q0 q1 q2 q3 q4) ?_
            refine x_heap (h' := (stt (stt (stt h a (.inr (15, (F_X12_fails (F_X12_fails (fs.set 0 (.int (Int32.ofInt 0))) (Int32.ofInt 0) (Int32.ofInt 1) (Int32.ofInt 1)) (V0_X12_fails (Int32.ofInt 0) (Int32.ofInt 1) (Int32.ofInt 1)) (Int32.ofInt 0) (Int32.ofInt 2))))) r39 (.inl (1, n39, .inr (.inl (vp_updL c39 w0.toNatClampNeg w1))))) r40 (.inl (1, n40, .inr (.inl (vp_updL c40 w0.toNatClampNeg w2)))))) (by rw [stt_stt (a := r40)]) ?_
            exact x_vret (M := M_X12_point) dX12_point_89 rfl ⟨rfl, by rw [F_X12_point, if_neg q0, if_neg q1, if_pos q2, if_pos q3, if_pos q4, A39_X12_point, if_neg q0, if_neg q1, if_pos q2, if_pos q3, if_pos q4, A40_X12_point, if_neg q0, if_neg q1, if_pos q2, if_pos q3, if_pos q4]⟩ (Nat.le_of_ble_eq_true rfl) (Nat.le_of_ble_eq_true rfl)
          · exact x_vret (M := M_X12_point) dX12_point_73 rfl ⟨rfl, by rw [F_X12_point, if_neg q0, if_neg q1, if_pos q2, if_pos q3, if_neg q4, A39_X12_point, if_neg q0, if_neg q1, if_pos q2, if_pos q3, if_neg q4, A40_X12_point, if_neg q0, if_neg q1, if_pos q2, if_pos q3, if_neg q4]⟩ (Nat.le_of_ble_eq_true rfl) (Nat.le_of_ble_eq_true rfl)
    · refine x_iconst (M := M_X12_point) dX12_point_36 ?_
      refine x_goto (M := M_X12_point) (tgt := 41) dX12_point_37 (by decide) ?_
      refine x_istore (M := M_X12_point) dX12_point_41 (by decide) rfl ?_
      refine x_norm (lv' := [some (.ref a), some (.int w0), some (.long w1), none, some (.long w2), none, some (.int (Int32.ofInt 1))]) rfl rfl rfl rfl rfl ?_
      refine x_aload_n (M := M_X12_point) dX12_point_43 rfl ?_
      refine x_iload_n (M := M_X12_point) dX12_point_44 rfl ?_
      refine x_callSR (M := M_X12_point) (M' := M_X12_isPoint) rfl rfl dX12_point_45 m_X12_isPoint t_3154 t_3155 (p_X12_isPoint hl) rfl rfl (Nat.le_of_ble_eq_true rfl) (Nat.le_of_ble_eq_true rfl) (Nat.le_of_ble_eq_true rfl) (Nat.le_of_ble_eq_true rfl) ?_
      refine x_if_ne (M := M_X12_point) (tgt := 55) dX12_point_48 (by decide) (fun q2 => ?_) (fun q2 => ?_)
      · refine x_iconst (M := M_X12_point) dX12_point_55 ?_
        refine x_iconst (M := M_X12_point) dX12_point_56 ?_
        refine x_callVR (M := M_X12_point) (M' := M_X12_fails) rfl rfl dX12_point_57 m_X12_fails t_2805 t_2807 s_157 (p_X12_fails hl (ob_up (ob_df ha o40).symm (ob_at o40).1 (ob_up (ob_df ha o39).symm (ob_at o39).1 (ob_self ha))) (by simp only [List.length_set, hn, l_X12_fails]) (gs_eq (by simp only [List.length_set, hn, l_X12_fails]; decide))) rfl rfl (ob_up (ob_df ha o40).symm (ob_at o40).1 (ob_up (ob_df ha o39).symm (ob_at o39).1 (ob_self ha))) rfl (Nat.le_of_ble_eq_true rfl) (Nat.le_of_ble_eq_true rfl) (Nat.le_of_ble_eq_true rfl) (Nat.le_of_ble_eq_true rfl) ?_
        refine x_heap (h' := (stt (stt (stt h a (.inr (15, (F_X12_fails (fs.set 0 (.int (Int32.ofInt 0))) (Int32.ofInt 0) (Int32.ofInt 0) (Int32.ofInt 1))))) r39 (.inl (1, n39, .inr (.inl c39)))) r40 (.inl (1, n40, .inr (.inl c40))))) (by rw [stt_sw (x := r40) (y := a) (ob_df ha o40).symm (ob_at o40).1 (ob_at ha).1, stt_sw (x := r39) (y := a) (ob_df ha o39).symm (ob_at o39).1 (ob_at ha).1, stt_stt (a := a)]) ?_
        refine x_if_ne (M := M_X12_point) (tgt := 73) dX12_point_60 (by decide) (fun q3 => ?_) (fun q3 => ?_)
        · exact x_vret (M := M_X12_point) dX12_point_73 rfl ⟨rfl, by rw [F_X12_point, if_neg q0, if_pos q1, if_neg q2, if_neg q3, A39_X12_point, if_neg q0, if_pos q1, if_neg q2, if_neg q3, A40_X12_point, if_neg q0, if_pos q1, if_neg q2, if_neg q3]⟩ (Nat.le_of_ble_eq_true rfl) (Nat.le_of_ble_eq_true rfl)
        · refine x_aload_n (M := M_X12_point) dX12_point_63 rfl ?_
          refine x_iload (M := M_X12_point) dX12_point_64 rfl ?_
          refine x_iconst (M := M_X12_point) dX12_point_66 ?_
          refine x_callVR (M := M_X12_point) (M' := M_X12_fails) rfl rfl dX12_point_67 m_X12_fails t_2805 t_2807 s_157 (p_X12_fails hl (ob_up (ob_df ha o40).symm (ob_at o40).1 (ob_up (ob_df ha o39).symm (ob_at o39).1 (ob_self ha))) (by simp only [List.length_set, hn, l_X12_fails]) (v0_X12_fails (by simp only [List.length_set, hn, l_X12_fails]) (gs_eq (by simp only [List.length_set, hn, l_X12_fails]; decide)))) rfl rfl (ob_up (ob_df ha o40).symm (ob_at o40).1 (ob_up (ob_df ha o39).symm (ob_at o39).1 (ob_self ha))) rfl (Nat.le_of_ble_eq_true rfl) (Nat.le_of_ble_eq_true rfl) (Nat.le_of_ble_eq_true rfl) (Nat.le_of_ble_eq_true rfl) ?_
          refine x_heap (h' := (stt (stt (stt h a (.inr (15, (F_X12_fails (F_X12_fails (fs.set 0 (.int (Int32.ofInt 0))) (Int32.ofInt 0) (Int32.ofInt 0) (Int32.ofInt 1)) (V0_X12_fails (Int32.ofInt 0) (Int32.ofInt 0) (Int32.ofInt 1)) (Int32.ofInt 1) (Int32.ofInt 2))))) r39 (.inl (1, n39, .inr (.inl c39)))) r40 (.inl (1, n40, .inr (.inl c40))))) (by rw [stt_sw (x := r40) (y := a) (ob_df ha o40).symm (ob_at o40).1 (ob_at ha).1, stt_sw (x := r39) (y := a) (ob_df ha o39).symm (ob_at o39).1 (ob_at ha).1, stt_stt (a := a)]) ?_
          refine x_if_eq (M := M_X12_point) (tgt := 74) dX12_point_70 (by decide) (fun q4 => ?_) (fun q4 => ?_)
          · refine x_aload_n (M := M_X12_point) dX12_point_74 rfl ?_
            refine x_getf (M := M_X12_point) (ci := 15) (C := RX12) (T := TX12) (N := 135) (ty := tyX12) cl15 dX12_point_75 (ob_up (ob_df ha o40).symm (ob_at o40).1 (ob_up (ob_df ha o39).symm (ob_at o39).1 (ob_self ha))) 39 (by decide) t_2430 ((k_X12_fails (by decide)).trans ((k_X12_fails (by decide)).trans (gs_ne (by decide) e39))) ?_
            refine x_iload_n (M := M_X12_point) dX12_point_78 rfl ?_
            refine x_lload_n (M := M_X12_point) dX12_point_79 rfl ?_
            refine x_last (M := M_X12_point) dX12_point_80 (ob_up d39_40.symm (ob_at o40).1 (ob_self (ob_oth ha o39))) (i8 q0 q1 q2 q3 q4) ?_
            refine x_heap (h' := (stt (stt (stt h a (.inr (15, (F_X12_fails (F_X12_fails (fs.set 0 (.int (Int32.ofInt 0))) (Int32.ofInt 0) (Int32.ofInt 0) (Int32.ofInt 1)) (V0_X12_fails (Int32.ofInt 0) (Int32.ofInt 0) (Int32.ofInt 1)) (Int32.ofInt 1) (Int32.ofInt 2))))) r39 (.inl (1, n39, .inr (.inl (vp_updL c39 w0.toNatClampNeg w1))))) r40 (.inl (1, n40, .inr (.inl c40))))) (by rw [stt_sw (x := r40) (y := r39) d39_40.symm (ob_at o40).1 (ob_at o39).1, stt_stt (a := r39)]) ?_
            refine x_aload_n (M := M_X12_point) dX12_point_81 rfl ?_
            refine x_getf (M := M_X12_point) (ci := 15) (C := RX12) (T := TX12) (N := 135) (ty := tyX12) cl15 dX12_point_82 (ob_up (ob_df ha o40).symm (ob_at o40).1 (ob_up (ob_df ha o39).symm (ob_at o39).1 (ob_self ha))) 40 (by decide) t_2431 ((k_X12_fails (by decide)).trans ((k_X12_fails (by decide)).trans (gs_ne (by decide) e40))) ?_
            refine x_iload_n (M := M_X12_point) dX12_point_85 rfl ?_
            refine x_lload (M := M_X12_point) dX12_point_86 rfl ?_
            refine x_last (M := M_X12_point) dX12_point_88 (ob_self (ob_up d39_40 (ob_at o39).1 (ob_oth ha o40))) (i9 q0 q1 q2 q3 q4) ?_
            refine x_heap (h' := (stt (stt (stt h a (.inr (15, (F_X12_fails (F_X12_fails (fs.set 0 (.int (Int32.ofInt 0))) (Int32.ofInt 0) (Int32.ofInt 0) (Int32.ofInt 1)) (V0_X12_fails (Int32.ofInt 0) (Int32.ofInt 0) (Int32.ofInt 1)) (Int32.ofInt 1) (Int32.ofInt 2))))) r39 (.inl (1, n39, .inr (.inl (vp_updL c39 w0.toNatClampNeg w1))))) r40 (.inl (1, n40, .inr (.inl (vp_updL c40 w0.toNatClampNeg w2)))))) (by rw [stt_stt (a := r40)]) ?_
            exact x_vret (M := M_X12_point) dX12_point_89 rfl ⟨rfl, by rw [F_X12_point, if_neg q0, if_pos q1, if_neg q2, if_pos q3, if_pos q4, A39_X12_point, if_neg q0, if_pos q1, if_neg q2, if_pos q3, if_pos q4, A40_X12_point, if_neg q0, if_pos q1, if_neg q2, if_pos q3, if_pos q4]⟩ (Nat.le_of_ble_eq_true rfl) (Nat.le_of_ble_eq_true rfl)
          · exact x_vret (M := M_X12_point) dX12_point_73 rfl ⟨rfl, by rw [F_X12_point, if_neg q0, if_pos q1, if_neg q2, if_pos q3, if_neg q4, A39_X12_point, if_neg q0, if_pos q1, if_neg q2, if_pos q3, if_neg q4, A40_X12_point, if_neg q0, if_pos q1, if_neg q2, if_pos q3, if_neg q4]⟩ (Nat.le_of_ble_eq_true rfl) (Nat.le_of_ble_eq_true rfl)
      · refine x_iconst (M := M_X12_point) dX12_point_51 ?_
        refine x_goto (M := M_X12_point) (tgt := 56) dX12_point_52 (by decide) ?_
        refine x_iconst (M := M_X12_point) dX12_point_56 ?_
        refine x_callVR (M := M_X12_point) (M' := M_X12_fails) rfl rfl dX12_point_57 m_X12_fails t_2805 t_2807 s_157 (p_X12_fails hl (ob_up (ob_df ha o40).symm (ob_at o40).1 (ob_up (ob_df ha o39).symm (ob_at o39).1 (ob_self ha))) (by simp only [List.length_set, hn, l_X12_fails]) (gs_eq (by simp only [List.length_set, hn, l_X12_fails]; decide))) rfl rfl (ob_up (ob_df ha o40).symm (ob_at o40).1 (ob_up (ob_df ha o39).symm (ob_at o39).1 (ob_self ha))) rfl (Nat.le_of_ble_eq_true rfl) (Nat.le_of_ble_eq_true rfl) (Nat.le_of_ble_eq_true rfl) (Nat.le_of_ble_eq_true rfl) ?_
        refine x_heap (h' := (stt (stt (stt h a (.inr (15, (F_X12_fails (fs.set 0 (.int (Int32.ofInt 0))) (Int32.ofInt 0) (Int32.ofInt 1) (Int32.ofInt 1))))) r39 (.inl (1, n39, .inr (.inl c39)))) r40 (.inl (1, n40, .inr (.inl c40))))) (by rw [stt_sw (x := r40) (y := a) (ob_df ha o40).symm (ob_at o40).1 (ob_at ha).1, stt_sw (x := r39) (y := a) (ob_df ha o39).symm (ob_at o39).1 (ob_at ha).1, stt_stt (a := a)]) ?_
        refine x_if_ne (M := M_X12_point) (tgt := 73) dX12_point_60 (by decide) (fun q3 => ?_) (fun q3 => ?_)
        · exact x_vret (M := M_X12_point) dX12_point_73 rfl ⟨rfl, by rw [F_X12_point, if_neg q0, if_pos q1, if_pos q2, if_neg q3, A39_X12_point, if_neg q0, if_pos q1, if_pos q2, if_neg q3, A40_X12_point, if_neg q0, if_pos q1, if_pos q2, if_neg q3]⟩ (Nat.le_of_ble_eq_true rfl) (Nat.le_of_ble_eq_true rfl)
        · refine x_aload_n (M := M_X12_point) dX12_point_63 rfl ?_
          refine x_iload (M := M_X12_point) dX12_point_64 rfl ?_
          refine x_iconst (M := M_X12_point) dX12_point_66 ?_
          refine x_callVR (M := M_X12_point) (M' := M_X12_fails) rfl rfl dX12_point_67 m_X12_fails t_2805 t_2807 s_157 (p_X12_fails hl (ob_up (ob_df ha o40).symm (ob_at o40).1 (ob_up (ob_df ha o39).symm (ob_at o39).1 (ob_self ha))) (by simp only [List.length_set, hn, l_X12_fails]) (v0_X12_fails (by simp only [List.length_set, hn, l_X12_fails]) (gs_eq (by simp only [List.length_set, hn, l_X12_fails]; decide)))) rfl rfl (ob_up (ob_df ha o40).symm (ob_at o40).1 (ob_up (ob_df ha o39).symm (ob_at o39).1 (ob_self ha))) rfl (Nat.le_of_ble_eq_true rfl) (Nat.le_of_ble_eq_true rfl) (Nat.le_of_ble_eq_true rfl) (Nat.le_of_ble_eq_true rfl) ?_
          refine x_heap (h' := (stt (stt (stt h a (.inr (15, (F_X12_fails (F_X12_fails (fs.set 0 (.int (Int32.ofInt 0))) (Int32.ofInt 0) (Int32.ofInt 1) (Int32.ofInt 1)) (V0_X12_fails (Int32.ofInt 0) (Int32.ofInt 1) (Int32.ofInt 1)) (Int32.ofInt 1) (Int32.ofInt 2))))) r39 (.inl (1, n39, .inr (.inl c39)))) r40 (.inl (1, n40, .inr (.inl c40))))) (by rw [stt_sw (x := r40) (y := a) (ob_df ha o40).symm (ob_at o40).1 (ob_at ha).1, stt_sw (x := r39) (y := a) (ob_df ha o39).symm (ob_at o39).1 (ob_at ha).1, stt_stt (a := a)]) ?_
          refine x_if_eq (M := M_X12_point) (tgt := 74) dX12_point_70 (by decide) (fun q4 => ?_) (fun q4 => ?_)
          · refine x_aload_n (M := M_X12_point) dX12_point_74 rfl ?_
            refine x_getf (M := M_X12_point) (ci := 15) (C := RX12) (T := TX12) (N := 135) (ty := tyX12) cl15 dX12_point_75 (ob_up (ob_df ha o40).symm (ob_at o40).1 (ob_up (ob_df ha o39).symm (ob_at o39).1 (ob_self ha))) 39 (by decide) t_2430 ((k_X12_fails (by decide)).trans ((k_X12_fails (by decide)).trans (gs_ne (by decide) e39))) ?_
            refine x_iload_n (M := M_X12_point) dX12_point_78 rfl ?_
            refine x_lload_n (M := M_X12_point) dX12_point_79 rfl ?_
            refine x_last (M := M_X12_point) dX12_point_80 (ob_up d39_40.symm (ob_at o40).1 (ob_self (ob_oth ha o39))) (i10 q0 q1 q2 q3 q4) ?_
            refine x_heap (h' := (stt (stt (stt h a (.inr (15, (F_X12_fails (F_X12_fails (fs.set 0 (.int (Int32.ofInt 0))) (Int32.ofInt 0) (Int32.ofInt 1) (Int32.ofInt 1)) (V0_X12_fails (Int32.ofInt 0) (Int32.ofInt 1) (Int32.ofInt 1)) (Int32.ofInt 1) (Int32.ofInt 2))))) r39 (.inl (1, n39, .inr (.inl (vp_updL c39 w0.toNatClampNeg w1))))) r40 (.inl (1, n40, .inr (.inl c40))))) (by rw [stt_sw (x := r40) (y := r39) d39_40.symm (ob_at o40).1 (ob_at o39).1, stt_stt (a := r39)]) ?_
            refine x_aload_n (M := M_X12_point) dX12_point_81 rfl ?_
            refine x_getf (M := M_X12_point) (ci := 15) (C := RX12) (T := TX12) (N := 135) (ty := tyX12) cl15 dX12_point_82 (ob_up (ob_df ha o40).symm (ob_at o40).1 (ob_up (ob_df ha o39).symm (ob_at o39).1 (ob_self ha))) 40 (by decide) t_2431 ((k_X12_fails (by decide)).trans ((k_X12_fails (by decide)).trans (gs_ne (by decide) e40))) ?_
            refine x_iload_n (M := M_X12_point) dX12_point_85 rfl ?_
            refine x_lload (M := M_X12_point) dX12_point_86 rfl ?_
            refine x_last (M := M_X12_point) dX12_point_88 (ob_self (ob_up d39_40 (ob_at o39).1 (ob_oth ha o40))) (i11 q0 q1 q2 q3 q4) ?_
            refine x_heap (h' := (stt (stt (stt h a (.inr (15, (F_X12_fails (F_X12_fails (fs.set 0 (.int (Int32.ofInt 0))) (Int32.ofInt 0) (Int32.ofInt 1) (Int32.ofInt 1)) (V0_X12_fails (Int32.ofInt 0) (Int32.ofInt 1) (Int32.ofInt 1)) (Int32.ofInt 1) (Int32.ofInt 2))))) r39 (.inl (1, n39, .inr (.inl (vp_updL c39 w0.toNatClampNeg w1))))) r40 (.inl (1, n40, .inr (.inl (vp_updL c40 w0.toNatClampNeg w2)))))) (by rw [stt_stt (a := r40)]) ?_
            exact x_vret (M := M_X12_point) dX12_point_89 rfl ⟨rfl, by rw [F_X12_point, if_neg q0, if_pos q1, if_pos q2, if_pos q3, if_pos q4, A39_X12_point, if_neg q0, if_pos q1, if_pos q2, if_pos q3, if_pos q4, A40_X12_point, if_neg q0, if_pos q1, if_pos q2, if_pos q3, if_pos q4]⟩ (Nat.le_of_ble_eq_true rfl) (Nat.le_of_ble_eq_true rfl)
          · exact x_vret (M := M_X12_point) dX12_point_73 rfl ⟨rfl, by rw [F_X12_point, if_neg q0, if_pos q1, if_pos q2, if_pos q3, if_neg q4, A39_X12_point, if_neg q0, if_pos q1, if_pos q2, if_pos q3, if_neg q4, A40_X12_point, if_neg q0, if_pos q1, if_pos q2, if_pos q3, if_neg q4]⟩ (Nat.le_of_ble_eq_true rfl) (Nat.le_of_ble_eq_true rfl)
end PUR
