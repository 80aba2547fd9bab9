section PUR
def f_X9_isDigit (w0 : Int32) : Int32 := if w0 < (Int8.ofInt 48).toInt32 then (Int32.ofInt 0) else (if (Int8.ofInt 57).toInt32 < w0 then (Int32.ofInt 0) else ((Int32.ofInt 1)))
theorem b_X9_isDigit (w0 : Int32) : f_X9_isDigit w0 = 0 ∨ f_X9_isDigit w0 = 1 := (ite01 (Or.inl rfl) (ite01 (Or.inl rfl) (Or.inr rfl)))
theorem p_X9_isDigit {l : Launch} {E : EE} (hl : l.stackTraces = false) {h : HP} {w0 : Int32} : en_C l E M_X9_isDigit 0 0 0 [.int w0] h (pR (some (.int (f_X9_isDigit w0))) h) := by
  refine en_mk m_X9_isDigit rfl hl (Nat.le_of_ble_eq_true rfl) ?_
  refine x_iload_n (M := M_X9_isDigit) dX9_isDigit_0 rfl ?_
  refine x_bipush (M := M_X9_isDigit) dX9_isDigit_1 ?_
  refine x_icmp_lt (M := M_X9_isDigit) (tgt := 16) dX9_isDigit_3 (by decide) (fun q0 => ?_) (fun q0 => ?_)
  · refine x_iconst (M := M_X9_isDigit) dX9_isDigit_16 ?_
    exact x_zret (M := M_X9_isDigit) dX9_isDigit_17 rfl (Or.inl rfl) ⟨by rw [f_X9_isDigit, if_pos q0], rfl⟩ (Nat.le_of_ble_eq_true rfl) (Nat.le_of_ble_eq_true rfl)
  · refine x_iload_n (M := M_X9_isDigit) dX9_isDigit_6 rfl ?_
    refine x_bipush (M := M_X9_isDigit) dX9_isDigit_7 ?_
    refine x_icmp_gt (M := M_X9_isDigit) (tgt := 16) dX9_isDigit_9 (by decide) (fun q1 => ?_) (fun q1 => ?_)
    · refine x_iconst (M := M_X9_isDigit) dX9_isDigit_16 ?_
      exact x_zret (M := M_X9_isDigit) dX9_isDigit_17 rfl (Or.inl rfl) ⟨by rw [f_X9_isDigit, if_neg q0, if_pos q1], rfl⟩ (Nat.le_of_ble_eq_true rfl) (Nat.le_of_ble_eq_true rfl)
    · refine x_iconst (M := M_X9_isDigit) dX9_isDigit_12 ?_
      refine x_goto (M := M_X9_isDigit) (tgt := 17) dX9_isDigit_13 (by decide) ?_
      exact x_zret (M := M_X9_isDigit) dX9_isDigit_17 rfl (Or.inr rfl) ⟨by rw [f_X9_isDigit, if_neg q0, if_neg q1], rfl⟩ (Nat.le_of_ble_eq_true rfl) (Nat.le_of_ble_eq_true rfl)
def f_X9_beginsNumber (w0 : Int32) : Int32 := if w0 < (Int8.ofInt 48).toInt32 then if w0 = (Int8.ofInt 43).toInt32 then (Int32.ofInt 1) else (if w0 = (Int8.ofInt 45).toInt32 then (Int32.ofInt 1) else (if w0 = (Int8.ofInt 46).toInt32 then (Int32.ofInt 1) else ((Int32.ofInt 0)))) else (if w0 ≤ (Int8.ofInt 57).toInt32 then (Int32.ofInt 1) else (if w0 = (Int8.ofInt 43).toInt32 then (Int32.ofInt 1) else (if w0 = (Int8.ofInt 45).toInt32 then (Int32.ofInt 1) else (if w0 = (Int8.ofInt 46).toInt32 then (Int32.ofInt 1) else ((Int32.ofInt 0))))))
theorem b_X9_beginsNumber (w0 : Int32) : f_X9_beginsNumber w0 = 0 ∨ f_X9_beginsNumber w0 = 1 := (ite01 (ite01 (Or.inr rfl) (ite01 (Or.inr rfl) (ite01 (Or.inr rfl) (Or.inl rfl)))) (ite01 (Or.inr rfl) (ite01 (Or.inr rfl) (ite01 (Or.inr rfl) (ite01 (Or.inr rfl) (Or.inl rfl))))))
theorem p_X9_beginsNumber {l : Launch} {E : EE} (hl : l.stackTraces = false) {h : HP} {w0 : Int32} : en_C l E M_X9_beginsNumber 0 0 0 [.int w0] h (pR (some (.int (f_X9_beginsNumber w0))) h) := by
  refine en_mk m_X9_beginsNumber rfl hl (Nat.le_of_ble_eq_true rfl) ?_
  refine x_iload_n (M := M_X9_beginsNumber) dX9_beginsNumber_0 rfl ?_
  refine x_bipush (M := M_X9_beginsNumber) dX9_beginsNumber_1 ?_
  refine x_icmp_lt (M := M_X9_beginsNumber) (tgt := 12) dX9_beginsNumber_3 (by decide) (fun q0 => ?_) (fun q0 => ?_)
  · refine x_iload_n (M := M_X9_beginsNumber) dX9_beginsNumber_12 rfl ?_
    refine x_bipush (M := M_X9_beginsNumber) dX9_beginsNumber_13 ?_
    refine x_icmp_eq (M := M_X9_beginsNumber) (tgt := 30) dX9_beginsNumber_15 (by decide) (fun q1 => ?_) (fun q1 => ?_)
    · refine x_iconst (M := M_X9_beginsNumber) dX9_beginsNumber_30 ?_
      refine x_goto (M := M_X9_beginsNumber) (tgt := 35) dX9_beginsNumber_31 (by decide) ?_
      exact x_zret (M := M_X9_beginsNumber) dX9_beginsNumber_35 rfl (Or.inr rfl) ⟨by rw [f_X9_beginsNumber, if_pos q0, if_pos q1], rfl⟩ (Nat.le_of_ble_eq_true rfl) (Nat.le_of_ble_eq_true rfl)
    · refine x_iload_n (M := M_X9_beginsNumber) dX9_beginsNumber_18 rfl ?_
      refine x_bipush (M := M_X9_beginsNumber) dX9_beginsNumber_19 ?_
      refine x_icmp_eq (M := M_X9_beginsNumber) (tgt := 30) dX9_beginsNumber_21 (by decide) (fun q2 => ?_) (fun q2 => ?_)
      · refine x_iconst (M := M_X9_beginsNumber) dX9_beginsNumber_30 ?_
        refine x_goto (M := M_X9_beginsNumber) (tgt := 35) dX9_beginsNumber_31 (by decide) ?_
        exact x_zret (M := M_X9_beginsNumber) dX9_beginsNumber_35 rfl (Or.inr rfl) ⟨by rw [f_X9_beginsNumber, if_pos q0, if_neg q1, if_pos q2], rfl⟩ (Nat.le_of_ble_eq_true rfl) (Nat.le_of_ble_eq_true rfl)
      · refine x_iload_n (M := M_X9_beginsNumber) dX9_beginsNumber_24 rfl ?_
        refine x_bipush (M := M_X9_beginsNumber) dX9_beginsNumber_25 ?_
        refine x_icmp_ne (M := M_X9_beginsNumber) (tgt := 34) dX9_beginsNumber_27 (by decide) (fun q3 => ?_) (fun q3 => ?_)
        · refine x_iconst (M := M_X9_beginsNumber) dX9_beginsNumber_34 ?_
          exact x_zret (M := M_X9_beginsNumber) dX9_beginsNumber_35 rfl (Or.inl rfl) ⟨by rw [f_X9_beginsNumber, if_pos q0, if_neg q1, if_neg q2, if_neg q3], rfl⟩ (Nat.le_of_ble_eq_true rfl) (Nat.le_of_ble_eq_true rfl)
        · refine x_iconst (M := M_X9_beginsNumber) dX9_beginsNumber_30 ?_
          refine x_goto (M := M_X9_beginsNumber) (tgt := 35) dX9_beginsNumber_31 (by decide) ?_
          exact x_zret (M := M_X9_beginsNumber) dX9_beginsNumber_35 rfl (Or.inr rfl) ⟨by rw [f_X9_beginsNumber, if_pos q0, if_neg q1, if_neg q2, if_pos q3], rfl⟩ (Nat.le_of_ble_eq_true rfl) (Nat.le_of_ble_eq_true rfl)
  · refine x_iload_n (M := M_X9_beginsNumber) dX9_beginsNumber_6 rfl ?_
    refine x_bipush (M := M_X9_beginsNumber) dX9_beginsNumber_7 ?_
    refine x_icmp_le (M := M_X9_beginsNumber) (tgt := 30) dX9_beginsNumber_9 (by decide) (fun q1 => ?_) (fun q1 => ?_)
    · refine x_iconst (M := M_X9_beginsNumber) dX9_beginsNumber_30 ?_
      refine x_goto (M := M_X9_beginsNumber) (tgt := 35) dX9_beginsNumber_31 (by decide) ?_
      exact x_zret (M := M_X9_beginsNumber) dX9_beginsNumber_35 rfl (Or.inr rfl) ⟨by rw [f_X9_beginsNumber, if_neg q0, if_pos q1], rfl⟩ (Nat.le_of_ble_eq_true rfl) (Nat.le_of_ble_eq_true rfl)
    · refine x_iload_n (M := M_X9_beginsNumber) dX9_beginsNumber_12 rfl ?_
      refine x_bipush (M := M_X9_beginsNumber) dX9_beginsNumber_13 ?_
      refine x_icmp_eq (M := M_X9_beginsNumber) (tgt := 30) dX9_beginsNumber_15 (by decide) (fun q2 => ?_) (fun q2 => ?_)
      · refine x_iconst (M := M_X9_beginsNumber) dX9_beginsNumber_30 ?_
        refine x_goto (M := M_X9_beginsNumber) (tgt := 35) dX9_beginsNumber_31 (by decide) ?_
        exact x_zret (M := M_X9_beginsNumber) dX9_beginsNumber_35 rfl (Or.inr rfl) ⟨by rw [f_X9_beginsNumber, if_neg q0, if_neg q1, if_pos q2], rfl⟩ (Nat.le_of_ble_eq_true rfl) (Nat.le_of_ble_eq_true rfl)
      · refine x_iload_n (M := M_X9_beginsNumber) dX9_beginsNumber_18 rfl ?_
        refine x_bipush (M := M_X9_beginsNumber) dX9_beginsNumber_19 ?_
        refine x_icmp_eq (M := M_X9_beginsNumber) (tgt := 30) dX9_beginsNumber_21 (by decide) (fun q3 => ?_) (fun q3 => ?_)
        · refine x_iconst (M := M_X9_beginsNumber) dX9_beginsNumber_30 ?_
          refine x_goto (M := M_X9_beginsNumber) (tgt := 35) dX9_beginsNumber_31 (by decide) ?_
          exact x_zret (M := M_X9_beginsNumber) dX9_beginsNumber_35 rfl (Or.inr rfl) ⟨by rw [f_X9_beginsNumber, if_neg q0, if_neg q1, if_neg q2, if_pos q3], rfl⟩ (Nat.le_of_ble_eq_true rfl) (Nat.le_of_ble_eq_true rfl)
        · refine x_iload_n (M := M_X9_beginsNumber) dX9_beginsNumber_24 rfl ?_
          refine x_bipush (M := M_X9_beginsNumber) dX9_beginsNumber_25 ?_
          refine x_icmp_ne (M := M_X9_beginsNumber) (tgt := 34) dX9_beginsNumber_27 (by decide) (fun q4 => ?_) (fun q4 => ?_)
          · refine x_iconst (M := M_X9_beginsNumber) dX9_beginsNumber_34 ?_
            exact x_zret (M := M_X9_beginsNumber) dX9_beginsNumber_35 rfl (Or.inl rfl) ⟨by rw [f_X9_beginsNumber, if_neg q0, if_neg q1, if_neg q2, if_neg q3, if_neg q4], rfl⟩ (Nat.le_of_ble_eq_true rfl) (Nat.le_of_ble_eq_true rfl)
          · refine x_iconst (M := M_X9_beginsNumber) dX9_beginsNumber_30 ?_
            refine x_goto (M := M_X9_beginsNumber) (tgt := 35) dX9_beginsNumber_31 (by decide) ?_
            exact x_zret (M := M_X9_beginsNumber) dX9_beginsNumber_35 rfl (Or.inr rfl) ⟨by rw [f_X9_beginsNumber, if_neg q0, if_neg q1, if_neg q2, if_neg q3, if_pos q4], rfl⟩ (Nat.le_of_ble_eq_true rfl) (Nat.le_of_ble_eq_true rfl)
def f_X9_isSign (w0 : Int32) : Int32 := if w0 = (Int8.ofInt 43).toInt32 then (Int32.ofInt 1) else (if w0 = (Int8.ofInt 45).toInt32 then (Int32.ofInt 1) else ((Int32.ofInt 0)))
theorem b_X9_isSign (w0 : Int32) : f_X9_isSign w0 = 0 ∨ f_X9_isSign w0 = 1 := (ite01 (Or.inr rfl) (ite01 (Or.inr rfl) (Or.inl rfl)))
theorem p_X9_isSign {l : Launch} {E : EE} (hl : l.stackTraces = false) {h : HP} {w0 : Int32} : en_C l E M_X9_isSign 0 0 0 [.int w0] h (pR (some (.int (f_X9_isSign w0))) h) := by
  refine en_mk m_X9_isSign rfl hl (Nat.le_of_ble_eq_true rfl) ?_
  refine x_iload_n (M := M_X9_isSign) dX9_isSign_0 rfl ?_
  refine x_bipush (M := M_X9_isSign) dX9_isSign_1 ?_
  refine x_icmp_eq (M := M_X9_isSign) (tgt := 12) dX9_isSign_3 (by decide) (fun q0 => ?_) (fun q0 => ?_)
  · refine x_iconst (M := M_X9_isSign) dX9_isSign_12 ?_
    refine x_goto (M := M_X9_isSign) (tgt := 17) dX9_isSign_13 (by decide) ?_
    exact x_zret (M := M_X9_isSign) dX9_isSign_17 rfl (Or.inr rfl) ⟨by rw [f_X9_isSign, if_pos q0], rfl⟩ (Nat.le_of_ble_eq_true rfl) (Nat.le_of_ble_eq_true rfl)
  · refine x_iload_n (M := M_X9_isSign) dX9_isSign_6 rfl ?_
    refine x_bipush (M := M_X9_isSign) dX9_isSign_7 ?_
    refine x_icmp_ne (M := M_X9_isSign) (tgt := 16) dX9_isSign_9 (by decide) (fun q1 => ?_) (fun q1 => ?_)
    · refine x_iconst (M := M_X9_isSign) dX9_isSign_16 ?_
      exact x_zret (M := M_X9_isSign) dX9_isSign_17 rfl (Or.inl rfl) ⟨by rw [f_X9_isSign, if_neg q0, if_neg q1], rfl⟩ (Nat.le_of_ble_eq_true rfl) (Nat.le_of_ble_eq_true rfl)
    · refine x_iconst (M := M_X9_isSign) dX9_isSign_12 ?_
      refine x_goto (M := M_X9_isSign) (tgt := 17) dX9_isSign_13 (by decide) ?_
      exact x_zret (M := M_X9_isSign) dX9_isSign_17 rfl (Or.inr rfl) ⟨by rw [f_X9_isSign, if_neg q0, if_pos q1], rfl⟩ (Nat.le_of_ble_eq_true rfl) (Nat.le_of_ble_eq_true rfl)
def f_X11_isBeyond (w0 : Int32) (w1 : Int32) : Int32 := if w0 < (-w1) then (Int32.ofInt 1) else (if w0 ≤ w1 then (Int32.ofInt 0) else ((Int32.ofInt 1)))
theorem b_X11_isBeyond (w0 : Int32) (w1 : Int32) : f_X11_isBeyond w0 w1 = 0 ∨ f_X11_isBeyond w0 w1 = 1 := (ite01 (Or.inr rfl) (ite01 (Or.inl rfl) (Or.inr rfl)))
theorem p_X11_isBeyond {l : Launch} {E : EE} (hl : l.stackTraces = false) {h : HP} {w0 : Int32} {w1 : Int32} : en_C l E M_X11_isBeyond 0 0 0 [.int w0, .int w1] h (pR (some (.int (f_X11_isBeyond w0 w1))) h) := by
  refine en_mk m_X11_isBeyond rfl hl (Nat.le_of_ble_eq_true rfl) ?_
  refine x_iload_n (M := M_X11_isBeyond) dX11_isBeyond_0 rfl ?_
  refine x_iload_n (M := M_X11_isBeyond) dX11_isBeyond_1 rfl ?_
  refine x_ineg (M := M_X11_isBeyond) dX11_isBeyond_2 ?_
  refine x_icmp_lt (M := M_X11_isBeyond) (tgt := 11) dX11_isBeyond_3 (by decide) (fun q0 => ?_) (fun q0 => ?_)
  · refine x_iconst (M := M_X11_isBeyond) dX11_isBeyond_11 ?_
    refine x_goto (M := M_X11_isBeyond) (tgt := 16) dX11_isBeyond_12 (by decide) ?_
    exact x_zret (M := M_X11_isBeyond) dX11_isBeyond_16 rfl (Or.inr rfl) ⟨by rw [f_X11_isBeyond, if_pos q0], rfl⟩ (Nat.le_of_ble_eq_true rfl) (Nat.le_of_ble_eq_true rfl)
  · refine x_iload_n (M := M_X11_isBeyond) dX11_isBeyond_6 rfl ?_
    refine x_iload_n (M := M_X11_isBeyond) dX11_isBeyond_7 rfl ?_
    refine x_icmp_le (M := M_X11_isBeyond) (tgt := 15) dX11_isBeyond_8 (by decide) (fun q1 => ?_) (fun q1 => ?_)
    · refine x_iconst (M := M_X11_isBeyond) dX11_isBeyond_15 ?_
      exact x_zret (M := M_X11_isBeyond) dX11_isBeyond_16 rfl (Or.inl rfl) ⟨by rw [f_X11_isBeyond, if_neg q0, if_pos q1], rfl⟩ (Nat.le_of_ble_eq_true rfl) (Nat.le_of_ble_eq_true rfl)
    · refine x_iconst (M := M_X11_isBeyond) dX11_isBeyond_11 ?_
      refine x_goto (M := M_X11_isBeyond) (tgt := 16) dX11_isBeyond_12 (by decide) ?_
      exact x_zret (M := M_X11_isBeyond) dX11_isBeyond_16 rfl (Or.inr rfl) ⟨by rw [f_X11_isBeyond, if_neg q0, if_neg q1], rfl⟩ (Nat.le_of_ble_eq_true rfl) (Nat.le_of_ble_eq_true rfl)
def f_X11_distanceFromBox (c15 : Nat → Int32) (w0 : Int32) (w1 : Int32) : Int64 := (((if (if ((w0.toInt64) - ((c15 (Int32.ofInt 2).toNatClampNeg).toInt64)) < (((c15 (Int32.ofInt 0).toNatClampNeg).toInt64) - (w0.toInt64)) then (((c15 (Int32.ofInt 0).toNatClampNeg).toInt64) - (w0.toInt64)) else ((w0.toInt64) - ((c15 (Int32.ofInt 2).toNatClampNeg).toInt64))) < (Int64.ofNat ((0 : Fin 2) : Nat)) then (Int64.ofNat ((0 : Fin 2) : Nat)) else (if ((w0.toInt64) - ((c15 (Int32.ofInt 2).toNatClampNeg).toInt64)) < (((c15 (Int32.ofInt 0).toNatClampNeg).toInt64) - (w0.toInt64)) then (((c15 (Int32.ofInt 0).toNatClampNeg).toInt64) - (w0.toInt64)) else ((w0.toInt64) - ((c15 (Int32.ofInt 2).toNatClampNeg).toInt64)))) * (if (if ((w0.toInt64) - ((c15 (Int32.ofInt 2).toNatClampNeg).toInt64)) < (((c15 (Int32.ofInt 0).toNatClampNeg).toInt64) - (w0.toInt64)) then (((c15 (Int32.ofInt 0).toNatClampNeg).toInt64) - (w0.toInt64)) else ((w0.toInt64) - ((c15 (Int32.ofInt 2).toNatClampNeg).toInt64))) < (Int64.ofNat ((0 : Fin 2) : Nat)) then (Int64.ofNat ((0 : Fin 2) : Nat)) else (if ((w0.toInt64) - ((c15 (Int32.ofInt 2).toNatClampNeg).toInt64)) < (((c15 (Int32.ofInt 0).toNatClampNeg).toInt64) - (w0.toInt64)) then (((c15 (Int32.ofInt 0).toNatClampNeg).toInt64) - (w0.toInt64)) else ((w0.toInt64) - ((c15 (Int32.ofInt 2).toNatClampNeg).toInt64))))) + ((if (if ((w1.toInt64) - ((c15 (Int32.ofInt 3).toNatClampNeg).toInt64)) < (((c15 (Int32.ofInt 1).toNatClampNeg).toInt64) - (w1.toInt64)) then (((c15 (Int32.ofInt 1).toNatClampNeg).toInt64) - (w1.toInt64)) else ((w1.toInt64) - ((c15 (Int32.ofInt 3).toNatClampNeg).toInt64))) < (Int64.ofNat ((0 : Fin 2) : Nat)) then (Int64.ofNat ((0 : Fin 2) : Nat)) else (if ((w1.toInt64) - ((c15 (Int32.ofInt 3).toNatClampNeg).toInt64)) < (((c15 (Int32.ofInt 1).toNatClampNeg).toInt64) - (w1.toInt64)) then (((c15 (Int32.ofInt 1).toNatClampNeg).toInt64) - (w1.toInt64)) else ((w1.toInt64) - ((c15 (Int32.ofInt 3).toNatClampNeg).toInt64)))) * (if (if ((w1.toInt64) - ((c15 (Int32.ofInt 3).toNatClampNeg).toInt64)) < (((c15 (Int32.ofInt 1).toNatClampNeg).toInt64) - (w1.toInt64)) then (((c15 (Int32.ofInt 1).toNatClampNeg).toInt64) - (w1.toInt64)) else ((w1.toInt64) - ((c15 (Int32.ofInt 3).toNatClampNeg).toInt64))) < (Int64.ofNat ((0 : Fin 2) : Nat)) then (Int64.ofNat ((0 : Fin 2) : Nat)) else (if ((w1.toInt64) - ((c15 (Int32.ofInt 3).toNatClampNeg).toInt64)) < (((c15 (Int32.ofInt 1).toNatClampNeg).toInt64) - (w1.toInt64)) then (((c15 (Int32.ofInt 1).toNatClampNeg).toInt64) - (w1.toInt64)) else ((w1.toInt64) - ((c15 (Int32.ofInt 3).toNatClampNeg).toInt64))))))
theorem p_X11_distanceFromBox {l : Launch} {E : EE} (hl : l.stackTraces = false) {h : HP} {c15 : Nat → Int32} {w0 : Int32} {w1 : Int32} {a : Nat} {fs : List Value} (ha : ob h a = some (.inr (14, fs))) {r15 n15 : Nat} (e15 : fs[15]? = some (.ref r15)) (o15 : ob h r15 = some (.inl (0, n15, .inl c15))) (i0 : vp_in (Int32.ofInt 0) n15) (i1 : vp_in (Int32.ofInt 2) n15) (i2 : vp_in (Int32.ofInt 1) n15) (i3 : vp_in (Int32.ofInt 3) n15) : en_C l E M_X11_distanceFromBox 1 0 0 [.ref a, .int w0, .int w1] h (pR (some (.long (f_X11_distanceFromBox c15 w0 w1))) h) := by
  refine en_mk m_X11_distanceFromBox rfl hl (Nat.le_of_ble_eq_true rfl) ?_
  refine x_lconst (M := M_X11_distanceFromBox) dX11_distanceFromBox_0 ?_
  refine x_aload_n (M := M_X11_distanceFromBox) dX11_distanceFromBox_1 rfl ?_
  refine x_getf (M := M_X11_distanceFromBox) (ci := 14) (C := RX11) (T := TX11) (N := 19) (ty := tyX11) cl14 dX11_distanceFromBox_2 ha 15 (by decide) t_578 e15 ?_
  refine x_iconst (M := M_X11_distanceFromBox) dX11_distanceFromBox_5 ?_
  refine x_iald (M := M_X11_distanceFromBox) dX11_distanceFromBox_6 o15 i0 ?_
  refine x_i2l (M := M_X11_distanceFromBox) dX11_distanceFromBox_7 ?_
  refine x_iload_n (M := M_X11_distanceFromBox) dX11_distanceFromBox_8 rfl ?_
  refine x_i2l (M := M_X11_distanceFromBox) dX11_distanceFromBox_9 ?_
  refine x_lsub (M := M_X11_distanceFromBox) dX11_distanceFromBox_10 ?_
  refine x_iload_n (M := M_X11_distanceFromBox) dX11_distanceFromBox_11 rfl ?_
  refine x_i2l (M := M_X11_distanceFromBox) dX11_distanceFromBox_12 ?_
  refine x_aload_n (M := M_X11_distanceFromBox) dX11_distanceFromBox_13 rfl ?_
  refine x_getf (M := M_X11_distanceFromBox) (ci := 14) (C := RX11) (T := TX11) (N := 19) (ty := tyX11) cl14 dX11_distanceFromBox_14 ha 15 (by decide) t_578 e15 ?_
  refine x_iconst (M := M_X11_distanceFromBox) dX11_distanceFromBox_17 ?_
  refine x_iald (M := M_X11_distanceFromBox) dX11_distanceFromBox_18 o15 i1 ?_
  refine x_i2l (M := M_X11_distanceFromBox) dX11_distanceFromBox_19 ?_
  refine x_lsub (M := M_X11_distanceFromBox) dX11_distanceFromBox_20 ?_
  refine x_lmax (M := M_X11_distanceFromBox) dX11_distanceFromBox_21 t_2265 t_1993 t_20 t_1994 (Nat.le_of_ble_eq_true rfl) (Nat.le_of_ble_eq_true rfl) (Nat.le_of_ble_eq_true rfl) (Nat.le_of_ble_eq_true rfl) ?_
  refine x_lmax (M := M_X11_distanceFromBox) dX11_distanceFromBox_24 t_2265 t_1993 t_20 t_1994 (Nat.le_of_ble_eq_true rfl) (Nat.le_of_ble_eq_true rfl) (Nat.le_of_ble_eq_true rfl) (Nat.le_of_ble_eq_true rfl) ?_
  refine x_lstore_n (M := M_X11_distanceFromBox) dX11_distanceFromBox_27 (by decide) rfl ?_
  refine x_norm (lv' := [some (.ref a), some (.int w0), some (.int w1), some (.long (if (if ((w0.toInt64) - ((c15 (Int32.ofInt 2).toNatClampNeg).toInt64)) < (((c15 (Int32.ofInt 0).toNatClampNeg).toInt64) - (w0.toInt64)) then (((c15 (Int32.ofInt 0).toNatClampNeg).toInt64) - (w0.toInt64)) else ((w0.toInt64) - ((c15 (Int32.ofInt 2).toNatClampNeg).toInt64))) < (Int64.ofNat ((0 : Fin 2) : Nat)) then (Int64.ofNat ((0 : Fin 2) : Nat)) else (if ((w0.toInt64) - ((c15 (Int32.ofInt 2).toNatClampNeg).toInt64)) < (((c15 (Int32.ofInt 0).toNatClampNeg).toInt64) - (w0.toInt64)) then (((c15 (Int32.ofInt 0).toNatClampNeg).toInt64) - (w0.toInt64)) else ((w0.toInt64) - ((c15 (Int32.ofInt 2).toNatClampNeg).toInt64))))), none, none, none]) rfl rfl rfl rfl rfl ?_
  refine x_lconst (M := M_X11_distanceFromBox) dX11_distanceFromBox_28 ?_
  refine x_aload_n (M := M_X11_distanceFromBox) dX11_distanceFromBox_29 rfl ?_
  refine x_getf (M := M_X11_distanceFromBox) (ci := 14) (C := RX11) (T := TX11) (N := 19) (ty := tyX11) cl14 dX11_distanceFromBox_30 ha 15 (by decide) t_578 e15 ?_
  refine x_iconst (M := M_X11_distanceFromBox) dX11_distanceFromBox_33 ?_
  refine x_iald (M := M_X11_distanceFromBox) dX11_distanceFromBox_34 o15 i2 ?_
  refine x_i2l (M := M_X11_distanceFromBox) dX11_distanceFromBox_35 ?_
  refine x_iload_n (M := M_X11_distanceFromBox) dX11_distanceFromBox_36 rfl ?_
  refine x_i2l (M := M_X11_distanceFromBox) dX11_distanceFromBox_37 ?_
  refine x_lsub (M := M_X11_distanceFromBox) dX11_distanceFromBox_38 ?_
  refine x_iload_n (M := M_X11_distanceFromBox) dX11_distanceFromBox_39 rfl ?_
  refine x_i2l (M := M_X11_distanceFromBox) dX11_distanceFromBox_40 ?_
  refine x_aload_n (M := M_X11_distanceFromBox) dX11_distanceFromBox_41 rfl ?_
  refine x_getf (M := M_X11_distanceFromBox) (ci := 14) (C := RX11) (T := TX11) (N := 19) (ty := tyX11) cl14 dX11_distanceFromBox_42 ha 15 (by decide) t_578 e15 ?_
  refine x_iconst (M := M_X11_distanceFromBox) dX11_distanceFromBox_45 ?_
  refine x_iald (M := M_X11_distanceFromBox) dX11_distanceFromBox_46 o15 i3 ?_
  refine x_i2l (M := M_X11_distanceFromBox) dX11_distanceFromBox_47 ?_
  refine x_lsub (M := M_X11_distanceFromBox) dX11_distanceFromBox_48 ?_
  refine x_lmax (M := M_X11_distanceFromBox) dX11_distanceFromBox_49 t_2265 t_1993 t_20 t_1994 (Nat.le_of_ble_eq_true rfl) (Nat.le_of_ble_eq_true rfl) (Nat.le_of_ble_eq_true rfl) (Nat.le_of_ble_eq_true rfl) ?_
  refine x_lmax (M := M_X11_distanceFromBox) dX11_distanceFromBox_52 t_2265 t_1993 t_20 t_1994 (Nat.le_of_ble_eq_true rfl) (Nat.le_of_ble_eq_true rfl) (Nat.le_of_ble_eq_true rfl) (Nat.le_of_ble_eq_true rfl) ?_
  refine x_lstore (M := M_X11_distanceFromBox) dX11_distanceFromBox_55 (by decide) rfl ?_
  refine x_norm (lv' := [some (.ref a), some (.int w0), some (.int w1), some (.long (if (if ((w0.toInt64) - ((c15 (Int32.ofInt 2).toNatClampNeg).toInt64)) < (((c15 (Int32.ofInt 0).toNatClampNeg).toInt64) - (w0.toInt64)) then (((c15 (Int32.ofInt 0).toNatClampNeg).toInt64) - (w0.toInt64)) else ((w0.toInt64) - ((c15 (Int32.ofInt 2).toNatClampNeg).toInt64))) < (Int64.ofNat ((0 : Fin 2) : Nat)) then (Int64.ofNat ((0 : Fin 2) : Nat)) else (if ((w0.toInt64) - ((c15 (Int32.ofInt 2).toNatClampNeg).toInt64)) < (((c15 (Int32.ofInt 0).toNatClampNeg).toInt64) - (w0.toInt64)) then (((c15 (Int32.ofInt 0).toNatClampNeg).toInt64) - (w0.toInt64)) else ((w0.toInt64) - ((c15 (Int32.ofInt 2).toNatClampNeg).toInt64))))), none, some (.long (if (if ((w1.toInt64) - ((c15 (Int32.ofInt 3).toNatClampNeg).toInt64)) < (((c15 (Int32.ofInt 1).toNatClampNeg).toInt64) - (w1.toInt64)) then (((c15 (Int32.ofInt 1).toNatClampNeg).toInt64) - (w1.toInt64)) else ((w1.toInt64) - ((c15 (Int32.ofInt 3).toNatClampNeg).toInt64))) < (Int64.ofNat ((0 : Fin 2) : Nat)) then (Int64.ofNat ((0 : Fin 2) : Nat)) else (if ((w1.toInt64) - ((c15 (Int32.ofInt 3).toNatClampNeg).toInt64)) < (((c15 (Int32.ofInt 1).toNatClampNeg).toInt64) - (w1.toInt64)) then (((c15 (Int32.ofInt 1).toNatClampNeg).toInt64) - (w1.toInt64)) else ((w1.toInt64) - ((c15 (Int32.ofInt 3).toNatClampNeg).toInt64))))), none]) rfl rfl rfl rfl rfl ?_
  refine x_lload_n (M := M_X11_distanceFromBox) dX11_distanceFromBox_57 rfl ?_
  refine x_lload_n (M := M_X11_distanceFromBox) dX11_distanceFromBox_58 rfl ?_
  refine x_lmul (M := M_X11_distanceFromBox) dX11_distanceFromBox_59 ?_
  refine x_lload (M := M_X11_distanceFromBox) dX11_distanceFromBox_60 rfl ?_
  refine x_lload (M := M_X11_distanceFromBox) dX11_distanceFromBox_62 rfl ?_
  refine x_lmul (M := M_X11_distanceFromBox) dX11_distanceFromBox_64 ?_
  refine x_ladd (M := M_X11_distanceFromBox) dX11_distanceFromBox_65 ?_
  exact x_lret (M := M_X11_distanceFromBox) dX11_distanceFromBox_66 rfl ⟨rfl, rfl⟩ (Nat.le_of_ble_eq_true rfl) (Nat.le_of_ble_eq_true rfl)
def f_X11_isNoSignPoint (w0 : Int32) : Int32 := if w0 < 0 then (Int32.ofInt 1) else (if w0 < (Int8.ofInt 32).toInt32 then (Int32.ofInt 0) else ((Int32.ofInt 1)))
theorem b_X11_isNoSignPoint (w0 : Int32) : f_X11_isNoSignPoint w0 = 0 ∨ f_X11_isNoSignPoint w0 = 1 := (ite01 (Or.inr rfl) (ite01 (Or.inl rfl) (Or.inr rfl)))
theorem p_X11_isNoSignPoint {l : Launch} {E : EE} (hl : l.stackTraces = false) {h : HP} {w0 : Int32} : en_C l E M_X11_isNoSignPoint 0 0 0 [.int w0] h (pR (some (.int (f_X11_isNoSignPoint w0))) h) := by
  refine en_mk m_X11_isNoSignPoint rfl hl (Nat.le_of_ble_eq_true rfl) ?_
  refine x_iload_n (M := M_X11_isNoSignPoint) dX11_isNoSignPoint_0 rfl ?_
  refine x_if_lt (M := M_X11_isNoSignPoint) (tgt := 10) dX11_isNoSignPoint_1 (by decide) (fun q0 => ?_) (fun q0 => ?_)
  · refine x_iconst (M := M_X11_isNoSignPoint) dX11_isNoSignPoint_10 ?_
    refine x_goto (M := M_X11_isNoSignPoint) (tgt := 15) dX11_isNoSignPoint_11 (by decide) ?_
    exact x_zret (M := M_X11_isNoSignPoint) dX11_isNoSignPoint_15 rfl (Or.inr rfl) ⟨by rw [f_X11_isNoSignPoint, if_pos q0], rfl⟩ (Nat.le_of_ble_eq_true rfl) (Nat.le_of_ble_eq_true rfl)
  · refine x_iload_n (M := M_X11_isNoSignPoint) dX11_isNoSignPoint_4 rfl ?_
    refine x_bipush (M := M_X11_isNoSignPoint) dX11_isNoSignPoint_5 ?_
    refine x_icmp_lt (M := M_X11_isNoSignPoint) (tgt := 14) dX11_isNoSignPoint_7 (by decide) (fun q1 => ?_) (fun q1 => ?_)
    · refine x_iconst (M := M_X11_isNoSignPoint) dX11_isNoSignPoint_14 ?_
      exact x_zret (M := M_X11_isNoSignPoint) dX11_isNoSignPoint_15 rfl (Or.inl rfl) ⟨by rw [f_X11_isNoSignPoint, if_neg q0, if_pos q1], rfl⟩ (Nat.le_of_ble_eq_true rfl) (Nat.le_of_ble_eq_true rfl)
    · refine x_iconst (M := M_X11_isNoSignPoint) dX11_isNoSignPoint_10 ?_
      refine x_goto (M := M_X11_isNoSignPoint) (tgt := 15) dX11_isNoSignPoint_11 (by decide) ?_
      exact x_zret (M := M_X11_isNoSignPoint) dX11_isNoSignPoint_15 rfl (Or.inr rfl) ⟨by rw [f_X11_isNoSignPoint, if_neg q0, if_neg q1], rfl⟩ (Nat.le_of_ble_eq_true rfl) (Nat.le_of_ble_eq_true rfl)
def f_X11_isNoNumber (w0 : Int64) : Int32 := if (lg_cmp (((w0.toUInt64 >>> ((Int8.ofInt 52).toInt32.toInt64.toUInt64 &&& Int64.toUInt64 63)).toInt64) &&& (2047 : Int64)) (2047 : Int64)) = 0 then (Int32.ofInt 1) else ((Int32.ofInt 0))
theorem b_X11_isNoNumber (w0 : Int64) : f_X11_isNoNumber w0 = 0 ∨ f_X11_isNoNumber w0 = 1 := (ite01 (Or.inr rfl) (Or.inl rfl))
theorem p_X11_isNoNumber {l : Launch} {E : EE} (hl : l.stackTraces = false) {h : HP} {w0 : Int64} : en_C l E M_X11_isNoNumber 0 0 0 [.long w0] h (pR (some (.int (f_X11_isNoNumber w0))) h) := by
  refine en_mk m_X11_isNoNumber rfl hl (Nat.le_of_ble_eq_true rfl) ?_
  refine x_lload_n (M := M_X11_isNoNumber) dX11_isNoNumber_0 rfl ?_
  refine x_bipush (M := M_X11_isNoNumber) dX11_isNoNumber_1 ?_
  refine x_lushr (M := M_X11_isNoNumber) dX11_isNoNumber_3 ?_
  refine x_ldc2 (M := M_X11_isNoNumber) dX11_isNoNumber_4 t_2315 ?_
  refine x_land (M := M_X11_isNoNumber) dX11_isNoNumber_7 ?_
  refine x_ldc2 (M := M_X11_isNoNumber) dX11_isNoNumber_8 t_2315 ?_
  refine x_lcmp (M := M_X11_isNoNumber) dX11_isNoNumber_11 ?_
  refine x_if_ne (M := M_X11_isNoNumber) (tgt := 19) dX11_isNoNumber_12 (by decide) (fun q0 => ?_) (fun q0 => ?_)
  · refine x_iconst (M := M_X11_isNoNumber) dX11_isNoNumber_19 ?_
    exact x_zret (M := M_X11_isNoNumber) dX11_isNoNumber_20 rfl (Or.inl rfl) ⟨by rw [f_X11_isNoNumber, if_neg q0], rfl⟩ (Nat.le_of_ble_eq_true rfl) (Nat.le_of_ble_eq_true rfl)
  · refine x_iconst (M := M_X11_isNoNumber) dX11_isNoNumber_15 ?_
    refine x_goto (M := M_X11_isNoNumber) (tgt := 20) dX11_isNoNumber_16 (by decide) ?_
    exact x_zret (M := M_X11_isNoNumber) dX11_isNoNumber_20 rfl (Or.inr rfl) ⟨by rw [f_X11_isNoNumber, if_pos q0], rfl⟩ (Nat.le_of_ble_eq_true rfl) (Nat.le_of_ble_eq_true rfl)
def f_X11_carryOf (w0 : Int64) (w1 : Int64) : Int32 := if 0 ≤ (lg_cmp (w0 + (-9223372036854775808 : Int64)) (w1 + (-9223372036854775808 : Int64))) then (Int32.ofInt 0) else ((Int32.ofInt 1))
theorem p_X11_carryOf {l : Launch} {E : EE} (hl : l.stackTraces = false) {h : HP} {w0 : Int64} {w1 : Int64} : en_C l E M_X11_carryOf 0 0 0 [.long w0, .long w1] h (pR (some (.int (f_X11_carryOf w0 w1))) h) := by
  refine en_mk m_X11_carryOf rfl hl (Nat.le_of_ble_eq_true rfl) ?_
  refine x_lload_n (M := M_X11_carryOf) dX11_carryOf_0 rfl ?_
  refine x_ldc2 (M := M_X11_carryOf) dX11_carryOf_1 t_1946 ?_
  refine x_ladd (M := M_X11_carryOf) dX11_carryOf_4 ?_
  refine x_lload_n (M := M_X11_carryOf) dX11_carryOf_5 rfl ?_
  refine x_ldc2 (M := M_X11_carryOf) dX11_carryOf_6 t_1946 ?_
  refine x_ladd (M := M_X11_carryOf) dX11_carryOf_9 ?_
  refine x_lcmp (M := M_X11_carryOf) dX11_carryOf_10 ?_
  refine x_if_ge (M := M_X11_carryOf) (tgt := 18) dX11_carryOf_11 (by decide) (fun q0 => ?_) (fun q0 => ?_)
  · refine x_iconst (M := M_X11_carryOf) dX11_carryOf_18 ?_
    exact x_iret (M := M_X11_carryOf) dX11_carryOf_19 rfl ⟨by rw [f_X11_carryOf, if_pos q0], rfl⟩ (Nat.le_of_ble_eq_true rfl) (Nat.le_of_ble_eq_true rfl)
  · refine x_iconst (M := M_X11_carryOf) dX11_carryOf_14 ?_
    refine x_goto (M := M_X11_carryOf) (tgt := 19) dX11_carryOf_15 (by decide) ?_
    exact x_iret (M := M_X11_carryOf) dX11_carryOf_19 rfl ⟨by rw [f_X11_carryOf, if_neg q0], rfl⟩ (Nat.le_of_ble_eq_true rfl) (Nat.le_of_ble_eq_true rfl)
def f_X11_highOf (w0 : Int64) (w1 : Int64) : Int64 := ((((w0 >>> ((Int8.ofInt 32).toInt32.toInt64 &&& 63)) * (w1 >>> ((Int8.ofInt 32).toInt32.toInt64 &&& 63))) + ((((w0 >>> ((Int8.ofInt 32).toInt32.toInt64 &&& 63)) * (w1 &&& (4294967295 : Int64))) + ((((w0 &&& (4294967295 : Int64)) * (w1 &&& (4294967295 : Int64))).toUInt64 >>> ((Int8.ofInt 32).toInt32.toInt64.toUInt64 &&& Int64.toUInt64 63)).toInt64)) >>> ((Int8.ofInt 32).toInt32.toInt64 &&& 63))) + ((((w0 &&& (4294967295 : Int64)) * (w1 >>> ((Int8.ofInt 32).toInt32.toInt64 &&& 63))) + ((((w0 >>> ((Int8.ofInt 32).toInt32.toInt64 &&& 63)) * (w1 &&& (4294967295 : Int64))) + ((((w0 &&& (4294967295 : Int64)) * (w1 &&& (4294967295 : Int64))).toUInt64 >>> ((Int8.ofInt 32).toInt32.toInt64.toUInt64 &&& Int64.toUInt64 63)).toInt64)) &&& (4294967295 : Int64))) >>> ((Int8.ofInt 32).toInt32.toInt64 &&& 63)))
theorem p_X11_highOf {l : Launch} {E : EE} (hl : l.stackTraces = false) {h : HP} {w0 : Int64} {w1 : Int64} : en_C l E M_X11_highOf 0 0 0 [.long w0, .long w1] h (pR (some (.long (f_X11_highOf w0 w1))) h) := by
  refine en_mk m_X11_highOf rfl hl (Nat.le_of_ble_eq_true rfl) ?_
  refine x_ldc2 (M := M_X11_highOf) dX11_highOf_0 t_1429 ?_
  refine x_lstore (M := M_X11_highOf) dX11_highOf_3 (by decide) rfl ?_
  refine x_norm (lv' := [some (.long w0), none, some (.long w1), none, some (.long (4294967295 : Int64)), none, none, none, none, none, none, none, none, none, none, none, none, none]) rfl rfl rfl rfl rfl ?_
  refine x_lload_n (M := M_X11_highOf) dX11_highOf_5 rfl ?_
  refine x_lload (M := M_X11_highOf) dX11_highOf_6 rfl ?_
  refine x_land (M := M_X11_highOf) dX11_highOf_8 ?_
  refine x_lstore (M := M_X11_highOf) dX11_highOf_9 (by decide) rfl ?_
  refine x_norm (lv' := [some (.long w0), none, some (.long w1), none, some (.long (4294967295 : Int64)), none, some (.long (w0 &&& (4294967295 : Int64))), none, none, none, none, none, none, none, none, none, none, none]) rfl rfl rfl rfl rfl ?_
  refine x_lload_n (M := M_X11_highOf) dX11_highOf_11 rfl ?_
  refine x_bipush (M := M_X11_highOf) dX11_highOf_12 ?_
  refine x_lshr (M := M_X11_highOf) dX11_highOf_14 ?_
  refine x_lstore (M := M_X11_highOf) dX11_highOf_15 (by decide) rfl ?_
  refine x_norm (lv' := [some (.long w0), none, some (.long w1), none, some (.long (4294967295 : Int64)), none, some (.long (w0 &&& (4294967295 : Int64))), none, some (.long (w0 >>> ((Int8.ofInt 32).toInt32.toInt64 &&& 63))), none, none, none, none, none, none, none, none, none]) rfl rfl rfl rfl rfl ?_
  refine x_lload_n (M := M_X11_highOf) dX11_highOf_17 rfl ?_
  refine x_lload (M := M_X11_highOf) dX11_highOf_18 rfl ?_
  refine x_land (M := M_X11_highOf) dX11_highOf_20 ?_
  refine x_lstore (M := M_X11_highOf) dX11_highOf_21 (by decide) rfl ?_
  refine x_norm (lv' := [some (.long w0), none, some (.long w1), none, some (.long (4294967295 : Int64)), none, some (.long (w0 &&& (4294967295 : Int64))), none, some (.long (w0 >>> ((Int8.ofInt 32).toInt32.toInt64 &&& 63))), none, some (.long (w1 &&& (4294967295 : Int64))), none, none, none, none, none, none, none]) rfl rfl rfl rfl rfl ?_
  refine x_lload_n (M := M_X11_highOf) dX11_highOf_23 rfl ?_
  refine x_bipush (M := M_X11_highOf) dX11_highOf_24 ?_
  refine x_lshr (M := M_X11_highOf) dX11_highOf_26 ?_
  refine x_lstore (M := M_X11_highOf) dX11_highOf_27 (by decide) rfl ?_
  refine x_norm (lv' := [some (.long w0), none, some (.long w1), none, some (.long (4294967295 : Int64)), none, some (.long (w0 &&& (4294967295 : Int64))), none, some (.long (w0 >>> ((Int8.ofInt 32).toInt32.toInt64 &&& 63))), none, some (.long (w1 &&& (4294967295 : Int64))), none, some (.long (w1 >>> ((Int8.ofInt 32).toInt32.toInt64 &&& 63))), none, none, none, none, none]) rfl rfl rfl rfl rfl ?_
  refine x_lload (M := M_X11_highOf) dX11_highOf_29 rfl ?_
  refine x_lload (M := M_X11_highOf) dX11_highOf_31 rfl ?_
  refine x_lmul (M := M_X11_highOf) dX11_highOf_33 ?_
  refine x_lload (M := M_X11_highOf) dX11_highOf_34 rfl ?_
  refine x_lload (M := M_X11_highOf) dX11_highOf_36 rfl ?_
  refine x_lmul (M := M_X11_highOf) dX11_highOf_38 ?_
  refine x_bipush (M := M_X11_highOf) dX11_highOf_39 ?_
  refine x_lushr (M := M_X11_highOf) dX11_highOf_41 ?_
  refine x_ladd (M := M_X11_highOf) dX11_highOf_42 ?_
  refine x_lstore (M := M_X11_highOf) dX11_highOf_43 (by decide) rfl ?_
  refine x_norm (lv' := [some (.long w0), none, some (.long w1), none, some (.long (4294967295 : Int64)), none, some (.long (w0 &&& (4294967295 : Int64))), none, some (.long (w0 >>> ((Int8.ofInt 32).toInt32.toInt64 &&& 63))), none, some (.long (w1 &&& (4294967295 : Int64))), none, some (.long (w1 >>> ((Int8.ofInt 32).toInt32.toInt64 &&& 63))), none, some (.long (((w0 >>> ((Int8.ofInt 32).toInt32.toInt64 &&& 63)) * (w1 &&& (4294967295 : Int64))) + ((((w0 &&& (4294967295 : Int64)) * (w1 &&& (4294967295 : Int64))).toUInt64 >>> ((Int8.ofInt 32).toInt32.toInt64.toUInt64 &&& Int64.toUInt64 63)).toInt64))), none, none, none]) rfl rfl rfl rfl rfl ?_
  refine x_lload (M := M_X11_highOf) dX11_highOf_45 rfl ?_
  refine x_lload (M := M_X11_highOf) dX11_highOf_47 rfl ?_
  refine x_lmul (M := M_X11_highOf) dX11_highOf_49 ?_
  refine x_lload (M := M_X11_highOf) dX11_highOf_50 rfl ?_
  refine x_lload (M := M_X11_highOf) dX11_highOf_52 rfl ?_
  refine x_land (M := M_X11_highOf) dX11_highOf_54 ?_
  refine x_ladd (M := M_X11_highOf) dX11_highOf_55 ?_
  refine x_lstore (M := M_X11_highOf) dX11_highOf_56 (by decide) rfl ?_
  refine x_norm (lv' := [some (.long w0), none, some (.long w1), none, some (.long (4294967295 : Int64)), none, some (.long (w0 &&& (4294967295 : Int64))), none, some (.long (w0 >>> ((Int8.ofInt 32).toInt32.toInt64 &&& 63))), none, some (.long (w1 &&& (4294967295 : Int64))), none, some (.long (w1 >>> ((Int8.ofInt 32).toInt32.toInt64 &&& 63))), none, some (.long (((w0 >>> ((Int8.ofInt 32).toInt32.toInt64 &&& 63)) * (w1 &&& (4294967295 : Int64))) + ((((w0 &&& (4294967295 : Int64)) * (w1 &&& (4294967295 : Int64))).toUInt64 >>> ((Int8.ofInt 32).toInt32.toInt64.toUInt64 &&& Int64.toUInt64 63)).toInt64))), none, some (.long (((w0 &&& (4294967295 : Int64)) * (w1 >>> ((Int8.ofInt 32).toInt32.toInt64 &&& 63))) + ((((w0 >>> ((Int8.ofInt 32).toInt32.toInt64 &&& 63)) * (w1 &&& (4294967295 : Int64))) + ((((w0 &&& (4294967295 : Int64)) * (w1 &&& (4294967295 : Int64))).toUInt64 >>> ((Int8.ofInt 32).toInt32.toInt64.toUInt64 &&& Int64.toUInt64 63)).toInt64)) &&& (4294967295 : Int64)))), none]) rfl rfl rfl rfl rfl ?_
  refine x_lload (M := M_X11_highOf) dX11_highOf_58 rfl ?_
  refine x_lload (M := M_X11_highOf) dX11_highOf_60 rfl ?_
  refine x_lmul (M := M_X11_highOf) dX11_highOf_62 ?_
  refine x_lload (M := M_X11_highOf) dX11_highOf_63 rfl ?_
  refine x_bipush (M := M_X11_highOf) dX11_highOf_65 ?_
  refine x_lshr (M := M_X11_highOf) dX11_highOf_67 ?_
  refine x_ladd (M := M_X11_highOf) dX11_highOf_68 ?_
  refine x_lload (M := M_X11_highOf) dX11_highOf_69 rfl ?_
  refine x_bipush (M := M_X11_highOf) dX11_highOf_71 ?_
  refine x_lshr (M := M_X11_highOf) dX11_highOf_73 ?_
  refine x_ladd (M := M_X11_highOf) dX11_highOf_74 ?_
  exact x_lret (M := M_X11_highOf) dX11_highOf_75 rfl ⟨rfl, rfl⟩ (Nat.le_of_ble_eq_true rfl) (Nat.le_of_ble_eq_true rfl)
def f_X11_keyOf (w0 : Int32) (w1 : Int32) : Int64 := (((w0.toInt64) <<< ((Int8.ofInt 32).toInt32.toInt64 &&& 63)) ||| (((w1 ^^^ (-2147483648 : Int32)).toInt64) &&& (4294967295 : Int64)))
theorem p_X11_keyOf {l : Launch} {E : EE} (hl : l.stackTraces = false) {h : HP} {w0 : Int32} {w1 : Int32} : en_C l E M_X11_keyOf 0 0 0 [.int w0, .int w1] h (pR (some (.long (f_X11_keyOf w0 w1))) h) := by
  refine en_mk m_X11_keyOf rfl hl (Nat.le_of_ble_eq_true rfl) ?_
  refine x_iload_n (M := M_X11_keyOf) dX11_keyOf_0 rfl ?_
  refine x_i2l (M := M_X11_keyOf) dX11_keyOf_1 ?_
  refine x_bipush (M := M_X11_keyOf) dX11_keyOf_2 ?_
  refine x_lshl (M := M_X11_keyOf) dX11_keyOf_4 ?_
  refine x_iload_n (M := M_X11_keyOf) dX11_keyOf_5 rfl ?_
  refine x_ldcw (M := M_X11_keyOf) dX11_keyOf_6 t_1428 ?_
  refine x_ixor (M := M_X11_keyOf) dX11_keyOf_9 ?_
  refine x_i2l (M := M_X11_keyOf) dX11_keyOf_10 ?_
  refine x_ldc2 (M := M_X11_keyOf) dX11_keyOf_11 t_1429 ?_
  refine x_land (M := M_X11_keyOf) dX11_keyOf_14 ?_
  refine x_lor (M := M_X11_keyOf) dX11_keyOf_15 ?_
  exact x_lret (M := M_X11_keyOf) dX11_keyOf_16 rfl ⟨rfl, rfl⟩ (Nat.le_of_ble_eq_true rfl) (Nat.le_of_ble_eq_true rfl)
def f_X11_keyX (w0 : Int64) : Int32 := ((w0 >>> ((Int8.ofInt 32).toInt32.toInt64 &&& 63)).toInt32)
theorem p_X11_keyX {l : Launch} {E : EE} (hl : l.stackTraces = false) {h : HP} {w0 : Int64} : en_C l E M_X11_keyX 0 0 0 [.long w0] h (pR (some (.int (f_X11_keyX w0))) h) := by
  refine en_mk m_X11_keyX rfl hl (Nat.le_of_ble_eq_true rfl) ?_
  refine x_lload_n (M := M_X11_keyX) dX11_keyX_0 rfl ?_
  refine x_bipush (M := M_X11_keyX) dX11_keyX_1 ?_
  refine x_lshr (M := M_X11_keyX) dX11_keyX_3 ?_
  refine x_l2i (M := M_X11_keyX) dX11_keyX_4 ?_
  exact x_iret (M := M_X11_keyX) dX11_keyX_5 rfl ⟨rfl, rfl⟩ (Nat.le_of_ble_eq_true rfl) (Nat.le_of_ble_eq_true rfl)
def f_X11_keyY (w0 : Int64) : Int32 := ((w0.toInt32) ^^^ (-2147483648 : Int32))
theorem p_X11_keyY {l : Launch} {E : EE} (hl : l.stackTraces = false) {h : HP} {w0 : Int64} : en_C l E M_X11_keyY 0 0 0 [.long w0] h (pR (some (.int (f_X11_keyY w0))) h) := by
  refine en_mk m_X11_keyY rfl hl (Nat.le_of_ble_eq_true rfl) ?_
  refine x_lload_n (M := M_X11_keyY) dX11_keyY_0 rfl ?_
  refine x_l2i (M := M_X11_keyY) dX11_keyY_1 ?_
  refine x_ldcw (M := M_X11_keyY) dX11_keyY_2 t_1428 ?_
  refine x_ixor (M := M_X11_keyY) dX11_keyY_5 ?_
  exact x_iret (M := M_X11_keyY) dX11_keyY_6 rfl ⟨rfl, rfl⟩ (Nat.le_of_ble_eq_true rfl) (Nat.le_of_ble_eq_true rfl)
def f_X12_thrown (g0 : Int32) : Int32 := g0
theorem p_X12_thrown {l : Launch} {E : EE} (hl : l.stackTraces = false) {h : HP} {g0 : Int32} {a : Nat} {fs : List Value} (ha : ob h a = some (.inr (15, fs))) (e0 : fs[0]? = some (.int g0)) : en_C l E M_X12_thrown 0 0 0 [.ref a] h (pR (some (.int (f_X12_thrown g0))) h) := by
  refine en_mk m_X12_thrown rfl hl (Nat.le_of_ble_eq_true rfl) ?_
  refine x_aload_n (M := M_X12_thrown) dX12_thrown_0 rfl ?_
  refine x_getf (M := M_X12_thrown) (ci := 15) (C := RX12) (T := TX12) (N := 135) (ty := tyX12) cl15 dX12_thrown_1 ha 0 (by decide) t_2391 e0 ?_
  exact x_iret (M := M_X12_thrown) dX12_thrown_4 rfl ⟨rfl, rfl⟩ (Nat.le_of_ble_eq_true rfl) (Nat.le_of_ble_eq_true rfl)
def f_X12_fails (g0 : Int32) (w0 : Int32) (w1 : Int32) : Int32 := if w0 = 0 then if g0 = 0 then (Int32.ofInt 0) else ((Int32.ofInt 1)) else (if g0 = 0 then if w1 = 0 then (Int32.ofInt 0) else ((Int32.ofInt 1)) else (if g0 = 0 then (Int32.ofInt 0) else ((Int32.ofInt 1))))
theorem b_X12_fails (g0 : Int32) (w0 : Int32) (w1 : Int32) : f_X12_fails g0 w0 w1 = 0 ∨ f_X12_fails g0 w0 w1 = 1 := (ite01 (ite01 (Or.inl rfl) (Or.inr rfl)) (ite01 (ite01 (Or.inl rfl) (Or.inr rfl)) (ite01 (Or.inl rfl) (Or.inr rfl))))
def F_X12_fails (fs : List Value) (g0 : Int32) (w0 : Int32) (w1 : Int32) : List Value := if w0 = 0 then if g0 = 0 then (fs.set 0 (.int g0)) else ((fs.set 0 (.int g0))) else (if g0 = 0 then if w1 = 0 then (fs.set 0 (.int w1)) else ((fs.set 0 (.int w1))) else (if g0 = 0 then (fs.set 0 (.int g0)) else ((fs.set 0 (.int g0)))))
theorem p_X12_fails {l : Launch} {E : EE} (hl : l.stackTraces = false) {h : HP} {g0 : Int32} {w0 : Int32} {w1 : Int32} {a : Nat} {fs : List Value} (ha : ob h a = some (.inr (15, fs))) (hn : fs.length = 135) (e0 : fs[0]? = some (.int g0)) : en_C l E M_X12_fails 0 0 0 [.ref a, .int w0, .int w1] h (pR (some (.int (f_X12_fails g0 w0 w1))) (stt h a (.inr (15, F_X12_fails fs g0 w0 w1)))) := by
  refine en_mk m_X12_fails rfl hl (Nat.le_of_ble_eq_true rfl) ?_
  refine x_heap (h' := stt h a (.inr (15, fs))) (stt_id ha).symm ?_
  refine x_aload_n (M := M_X12_fails) dX12_fails_0 rfl ?_
  refine x_iload_n (M := M_X12_fails) dX12_fails_1 rfl ?_
  refine x_if_eq (M := M_X12_fails) (tgt := 16) dX12_fails_2 (by decide) (fun q0 => ?_) (fun q0 => ?_)
  · refine x_aload_n (M := M_X12_fails) dX12_fails_16 rfl ?_
    refine x_getf (M := M_X12_fails) (ci := 15) (C := RX12) (T := TX12) (N := 135) (ty := tyX12) cl15 dX12_fails_17 (ob_self ha) 0 (by decide) t_2391 e0 ?_
    refine x_put (M := M_X12_fails) (ci := 15) (C := RX12) (T := TX12) (N := 135) (ty := tyX12) cl15 dX12_fails_20 (ob_self ha) 0 (by decide) t_2391 (Or.inl rfl) (by simp only [List.length_set, hn]; decide) rfl ?_
    refine x_heap (h' := stt h a (.inr (15, (fs.set 0 (.int g0))))) stt_stt ?_
    refine x_aload_n (M := M_X12_fails) dX12_fails_23 rfl ?_
    refine x_getf (M := M_X12_fails) (ci := 15) (C := RX12) (T := TX12) (N := 135) (ty := tyX12) cl15 dX12_fails_24 (ob_self ha) 0 (by decide) t_2391 (gs_eq (by simp only [List.length_set, hn]; decide)) ?_
    refine x_if_eq (M := M_X12_fails) (tgt := 34) dX12_fails_27 (by decide) (fun q1 => ?_) (fun q1 => ?_)
    · refine x_iconst (M := M_X12_fails) dX12_fails_34 ?_
      exact x_zret (M := M_X12_fails) dX12_fails_35 rfl (Or.inl rfl) ⟨by rw [f_X12_fails, if_pos q0, if_pos q1], by rw [F_X12_fails, if_pos q0, if_pos q1]⟩ (Nat.le_of_ble_eq_true rfl) (Nat.le_of_ble_eq_true rfl)
    · refine x_iconst (M := M_X12_fails) dX12_fails_30 ?_
      refine x_goto (M := M_X12_fails) (tgt := 35) dX12_fails_31 (by decide) ?_
      exact x_zret (M := M_X12_fails) dX12_fails_35 rfl (Or.inr rfl) ⟨by rw [f_X12_fails, if_pos q0, if_neg q1], by rw [F_X12_fails, if_pos q0, if_neg q1]⟩ (Nat.le_of_ble_eq_true rfl) (Nat.le_of_ble_eq_true rfl)
  · refine x_aload_n (M := M_X12_fails) dX12_fails_5 rfl ?_
    refine x_getf (M := M_X12_fails) (ci := 15) (C := RX12) (T := TX12) (N := 135) (ty := tyX12) cl15 dX12_fails_6 (ob_self ha) 0 (by decide) t_2391 e0 ?_
    refine x_if_ne (M := M_X12_fails) (tgt := 16) dX12_fails_9 (by decide) (fun q1 => ?_) (fun q1 => ?_)
    · refine x_aload_n (M := M_X12_fails) dX12_fails_16 rfl ?_
      refine x_getf (M := M_X12_fails) (ci := 15) (C := RX12) (T := TX12) (N := 135) (ty := tyX12) cl15 dX12_fails_17 (ob_self ha) 0 (by decide) t_2391 e0 ?_
      refine x_put (M := M_X12_fails) (ci := 15) (C := RX12) (T := TX12) (N := 135) (ty := tyX12) cl15 dX12_fails_20 (ob_self ha) 0 (by decide) t_2391 (Or.inl rfl) (by simp only [List.length_set, hn]; decide) rfl ?_
      refine x_heap (h' := stt h a (.inr (15, (fs.set 0 (.int g0))))) stt_stt ?_
      refine x_aload_n (M := M_X12_fails) dX12_fails_23 rfl ?_
      refine x_getf (M := M_X12_fails) (ci := 15) (C := RX12) (T := TX12) (N := 135) (ty := tyX12) cl15 dX12_fails_24 (ob_self ha) 0 (by decide) t_2391 (gs_eq (by simp only [List.length_set, hn]; decide)) ?_
      refine x_if_eq (M := M_X12_fails) (tgt := 34) dX12_fails_27 (by decide) (fun q2 => ?_) (fun q2 => ?_)
      · refine x_iconst (M := M_X12_fails) dX12_fails_34 ?_
        exact x_zret (M := M_X12_fails) dX12_fails_35 rfl (Or.inl rfl) ⟨by rw [f_X12_fails, if_neg q0, if_neg q1, if_pos q2], by rw [F_X12_fails, if_neg q0, if_neg q1, if_pos q2]⟩ (Nat.le_of_ble_eq_true rfl) (Nat.le_of_ble_eq_true rfl)
      · refine x_iconst (M := M_X12_fails) dX12_fails_30 ?_
        refine x_goto (M := M_X12_fails) (tgt := 35) dX12_fails_31 (by decide) ?_
        exact x_zret (M := M_X12_fails) dX12_fails_35 rfl (Or.inr rfl) ⟨by rw [f_X12_fails, if_neg q0, if_neg q1, if_neg q2], by rw [F_X12_fails, if_neg q0, if_neg q1, if_neg q2]⟩ (Nat.le_of_ble_eq_true rfl) (Nat.le_of_ble_eq_true rfl)
    · refine x_iload_n (M := M_X12_fails) dX12_fails_12 rfl ?_
      refine x_goto (M := M_X12_fails) (tgt := 20) dX12_fails_13 (by decide) ?_
      refine x_put (M := M_X12_fails) (ci := 15) (C := RX12) (T := TX12) (N := 135) (ty := tyX12) cl15 dX12_fails_20 (ob_self ha) 0 (by decide) t_2391 (Or.inl rfl) (by simp only [List.length_set, hn]; decide) rfl ?_
      refine x_heap (h' := stt h a (.inr (15, (fs.set 0 (.int w1))))) stt_stt ?_
      refine x_aload_n (M := M_X12_fails) dX12_fails_23 rfl ?_
      refine x_getf (M := M_X12_fails) (ci := 15) (C := RX12) (T := TX12) (N := 135) (ty := tyX12) cl15 dX12_fails_24 (ob_self ha) 0 (by decide) t_2391 (gs_eq (by simp only [List.length_set, hn]; decide)) ?_
      refine x_if_eq (M := M_X12_fails) (tgt := 34) dX12_fails_27 (by decide) (fun q2 => ?_) (fun q2 => ?_)
      · refine x_iconst (M := M_X12_fails) dX12_fails_34 ?_
        exact x_zret (M := M_X12_fails) dX12_fails_35 rfl (Or.inl rfl) ⟨by rw [f_X12_fails, if_neg q0, if_pos q1, if_pos q2], by rw [F_X12_fails, if_neg q0, if_pos q1, if_pos q2]⟩ (Nat.le_of_ble_eq_true rfl) (Nat.le_of_ble_eq_true rfl)
      · refine x_iconst (M := M_X12_fails) dX12_fails_30 ?_
        refine x_goto (M := M_X12_fails) (tgt := 35) dX12_fails_31 (by decide) ?_
        exact x_zret (M := M_X12_fails) dX12_fails_35 rfl (Or.inr rfl) ⟨by rw [f_X12_fails, if_neg q0, if_pos q1, if_neg q2], by rw [F_X12_fails, if_neg q0, if_pos q1, if_neg q2]⟩ (Nat.le_of_ble_eq_true rfl) (Nat.le_of_ble_eq_true rfl)
def f_X12_in (w0 : Int64) (w1 : Int64) (w2 : Int64) : Int32 := if (lg_cmp w0 w1) < 0 then (Int32.ofInt 0) else (if 0 < (lg_cmp w0 w2) then (Int32.ofInt 0) else ((Int32.ofInt 1)))
theorem b_X12_in (w0 : Int64) (w1 : Int64) (w2 : Int64) : f_X12_in w0 w1 w2 = 0 ∨ f_X12_in w0 w1 w2 = 1 := (ite01 (Or.inl rfl) (ite01 (Or.inl rfl) (Or.inr rfl)))
theorem p_X12_in {l : Launch} {E : EE} (hl : l.stackTraces = false) {h : HP} {w0 : Int64} {w1 : Int64} {w2 : Int64} : en_C l E M_X12_in 0 0 0 [.long w0, .long w1, .long w2] h (pR (some (.int (f_X12_in w0 w1 w2))) h) := by
  refine en_mk m_X12_in rfl hl (Nat.le_of_ble_eq_true rfl) ?_
  refine x_lload_n (M := M_X12_in) dX12_in_0 rfl ?_
  refine x_lload_n (M := M_X12_in) dX12_in_1 rfl ?_
  refine x_lcmp (M := M_X12_in) dX12_in_2 ?_
  refine x_if_lt (M := M_X12_in) (tgt := 17) dX12_in_3 (by decide) (fun q0 => ?_) (fun q0 => ?_)
  · refine x_iconst (M := M_X12_in) dX12_in_17 ?_
    exact x_zret (M := M_X12_in) dX12_in_18 rfl (Or.inl rfl) ⟨by rw [f_X12_in, if_pos q0], rfl⟩ (Nat.le_of_ble_eq_true rfl) (Nat.le_of_ble_eq_true rfl)
  · refine x_lload_n (M := M_X12_in) dX12_in_6 rfl ?_
    refine x_lload (M := M_X12_in) dX12_in_7 rfl ?_
    refine x_lcmp (M := M_X12_in) dX12_in_9 ?_
    refine x_if_gt (M := M_X12_in) (tgt := 17) dX12_in_10 (by decide) (fun q1 => ?_) (fun q1 => ?_)
    · refine x_iconst (M := M_X12_in) dX12_in_17 ?_
      exact x_zret (M := M_X12_in) dX12_in_18 rfl (Or.inl rfl) ⟨by rw [f_X12_in, if_neg q0, if_pos q1], rfl⟩ (Nat.le_of_ble_eq_true rfl) (Nat.le_of_ble_eq_true rfl)
    · refine x_iconst (M := M_X12_in) dX12_in_13 ?_
      refine x_goto (M := M_X12_in) (tgt := 18) dX12_in_14 (by decide) ?_
      exact x_zret (M := M_X12_in) dX12_in_18 rfl (Or.inr rfl) ⟨by rw [f_X12_in, if_neg q0, if_neg q1], rfl⟩ (Nat.le_of_ble_eq_true rfl) (Nat.le_of_ble_eq_true rfl)
def f_X12_isSlot (w0 : Int32) : Int32 := if w0 < 0 then (Int32.ofInt 0) else (if (Int8.ofInt 32).toInt32 ≤ w0 then (Int32.ofInt 0) else ((Int32.ofInt 1)))
theorem b_X12_isSlot (w0 : Int32) : f_X12_isSlot w0 = 0 ∨ f_X12_isSlot w0 = 1 := (ite01 (Or.inl rfl) (ite01 (Or.inl rfl) (Or.inr rfl)))
theorem p_X12_isSlot {l : Launch} {E : EE} (hl : l.stackTraces = false) {h : HP} {w0 : Int32} : en_C l E M_X12_isSlot 0 0 0 [.int w0] h (pR (some (.int (f_X12_isSlot w0))) h) := by
  refine en_mk m_X12_isSlot rfl hl (Nat.le_of_ble_eq_true rfl) ?_
  refine x_iload_n (M := M_X12_isSlot) dX12_isSlot_0 rfl ?_
  refine x_if_lt (M := M_X12_isSlot) (tgt := 14) dX12_isSlot_1 (by decide) (fun q0 => ?_) (fun q0 => ?_)
  · refine x_iconst (M := M_X12_isSlot) dX12_isSlot_14 ?_
    exact x_zret (M := M_X12_isSlot) dX12_isSlot_15 rfl (Or.inl rfl) ⟨by rw [f_X12_isSlot, if_pos q0], rfl⟩ (Nat.le_of_ble_eq_true rfl) (Nat.le_of_ble_eq_true rfl)
  · refine x_iload_n (M := M_X12_isSlot) dX12_isSlot_4 rfl ?_
    refine x_bipush (M := M_X12_isSlot) dX12_isSlot_5 ?_
    refine x_icmp_ge (M := M_X12_isSlot) (tgt := 14) dX12_isSlot_7 (by decide) (fun q1 => ?_) (fun q1 => ?_)
    · refine x_iconst (M := M_X12_isSlot) dX12_isSlot_14 ?_
      exact x_zret (M := M_X12_isSlot) dX12_isSlot_15 rfl (Or.inl rfl) ⟨by rw [f_X12_isSlot, if_neg q0, if_pos q1], rfl⟩ (Nat.le_of_ble_eq_true rfl) (Nat.le_of_ble_eq_true rfl)
    · refine x_iconst (M := M_X12_isSlot) dX12_isSlot_10 ?_
      refine x_goto (M := M_X12_isSlot) (tgt := 15) dX12_isSlot_11 (by decide) ?_
      exact x_zret (M := M_X12_isSlot) dX12_isSlot_15 rfl (Or.inr rfl) ⟨by rw [f_X12_isSlot, if_neg q0, if_neg q1], rfl⟩ (Nat.le_of_ble_eq_true rfl) (Nat.le_of_ble_eq_true rfl)
def f_X12_has (c9 : Nat → Int32) (w0 : Int32) : Int32 := if (c9 w0.toNatClampNeg) ≤ 0 then (Int32.ofInt 0) else ((Int32.ofInt 1))
theorem b_X12_has (c9 : Nat → Int32) (w0 : Int32) : f_X12_has c9 w0 = 0 ∨ f_X12_has c9 w0 = 1 := (ite01 (Or.inl rfl) (Or.inr rfl))
theorem p_X12_has {l : Launch} {E : EE} (hl : l.stackTraces = false) {h : HP} {c9 : Nat → Int32} {w0 : Int32} {a : Nat} {fs : List Value} (ha : ob h a = some (.inr (15, fs))) {r9 n9 : Nat} (e9 : fs[9]? = some (.ref r9)) (o9 : ob h r9 = some (.inl (0, n9, .inl c9))) (i0 : vp_in w0 n9) : en_C l E M_X12_has 0 0 0 [.ref a, .int w0] h (pR (some (.int (f_X12_has c9 w0))) h) := by
  refine en_mk m_X12_has rfl hl (Nat.le_of_ble_eq_true rfl) ?_
  refine x_aload_n (M := M_X12_has) dX12_has_0 rfl ?_
  refine x_getf (M := M_X12_has) (ci := 15) (C := RX12) (T := TX12) (N := 135) (ty := tyX12) cl15 dX12_has_1 ha 9 (by decide) t_2400 e9 ?_
  refine x_iload_n (M := M_X12_has) dX12_has_4 rfl ?_
  refine x_iald (M := M_X12_has) dX12_has_5 o9 i0 ?_
  refine x_if_le (M := M_X12_has) (tgt := 13) dX12_has_6 (by decide) (fun q0 => ?_) (fun q0 => ?_)
  · refine x_iconst (M := M_X12_has) dX12_has_13 ?_
    exact x_zret (M := M_X12_has) dX12_has_14 rfl (Or.inl rfl) ⟨by rw [f_X12_has, if_pos q0], rfl⟩ (Nat.le_of_ble_eq_true rfl) (Nat.le_of_ble_eq_true rfl)
  · refine x_iconst (M := M_X12_has) dX12_has_9 ?_
    refine x_goto (M := M_X12_has) (tgt := 14) dX12_has_10 (by decide) ?_
    exact x_zret (M := M_X12_has) dX12_has_14 rfl (Or.inr rfl) ⟨by rw [f_X12_has, if_neg q0], rfl⟩ (Nat.le_of_ble_eq_true rfl) (Nat.le_of_ble_eq_true rfl)
def f_X12_wrong (w0 : Int32) (w1 : Int32) : Int32 := (Int32.ofInt 0)
theorem b_X12_wrong (w0 : Int32) (w1 : Int32) : f_X12_wrong w0 w1 = 0 ∨ f_X12_wrong w0 w1 = 1 := (Or.inl rfl)
def F_X12_wrong (fs : List Value) (w0 : Int32) (w1 : Int32) : List Value := ((fs.set 7 (.int w0)).set 8 (.int w1))
theorem p_X12_wrong {l : Launch} {E : EE} (hl : l.stackTraces = false) {h : HP} {w0 : Int32} {w1 : Int32} {a : Nat} {fs : List Value} (ha : ob h a = some (.inr (15, fs))) (hn : fs.length = 135) : en_C l E M_X12_wrong 0 0 0 [.ref a, .int w0, .int w1] h (pR (some (.int (f_X12_wrong w0 w1))) (stt h a (.inr (15, F_X12_wrong fs w0 w1)))) := by
  refine en_mk m_X12_wrong rfl hl (Nat.le_of_ble_eq_true rfl) ?_
  refine x_heap (h' := stt h a (.inr (15, fs))) (stt_id ha).symm ?_
  refine x_aload_n (M := M_X12_wrong) dX12_wrong_0 rfl ?_
  refine x_iload_n (M := M_X12_wrong) dX12_wrong_1 rfl ?_
  refine x_put (M := M_X12_wrong) (ci := 15) (C := RX12) (T := TX12) (N := 135) (ty := tyX12) cl15 dX12_wrong_2 (ob_self ha) 7 (by decide) t_2398 (Or.inl rfl) (by simp only [List.length_set, hn]; decide) rfl ?_
  refine x_heap (h' := stt h a (.inr (15, (fs.set 7 (.int w0))))) stt_stt ?_
  refine x_aload_n (M := M_X12_wrong) dX12_wrong_5 rfl ?_
  refine x_iload_n (M := M_X12_wrong) dX12_wrong_6 rfl ?_
  refine x_put (M := M_X12_wrong) (ci := 15) (C := RX12) (T := TX12) (N := 135) (ty := tyX12) cl15 dX12_wrong_7 (ob_self ha) 8 (by decide) t_2399 (Or.inl rfl) (by simp only [List.length_set, hn]; decide) rfl ?_
  refine x_heap (h' := stt h a (.inr (15, ((fs.set 7 (.int w0)).set 8 (.int w1))))) stt_stt ?_
  refine x_iconst (M := M_X12_wrong) dX12_wrong_10 ?_
  exact x_zret (M := M_X12_wrong) dX12_wrong_11 rfl (Or.inl rfl) ⟨rfl, rfl⟩ (Nat.le_of_ble_eq_true rfl) (Nat.le_of_ble_eq_true rfl)
def f_X12_here (g17 : Int32) (g18 : Int32) (c3 : Nat → Int32) : Int32 := if g18 ≤ g17 then (Int32.ofInt (-1)) else (((c3 g17.toNatClampNeg) &&& (Int16.ofInt 255).toInt32))
theorem p_X12_here {l : Launch} {E : EE} (hl : l.stackTraces = false) {h : HP} {g17 : Int32} {g18 : Int32} {c3 : Nat → Int32} {a : Nat} {fs : List Value} (ha : ob h a = some (.inr (15, fs))) (e17 : fs[17]? = some (.int g17)) (e18 : fs[18]? = some (.int g18)) {r3 n3 : Nat} (e3 : fs[3]? = some (.ref r3)) (o3 : ob h r3 = some (.inl (2, n3, .inl c3))) (i0 : (¬ g18 ≤ g17) → vp_in g17 n3) : en_C l E M_X12_here 0 0 0 [.ref a] h (pR (some (.int (f_X12_here g17 g18 c3))) h) := by
  refine en_mk m_X12_here rfl hl (Nat.le_of_ble_eq_true rfl) ?_
  refine x_aload_n (M := M_X12_here) dX12_here_0 rfl ?_
  refine x_getf (M := M_X12_here) (ci := 15) (C := RX12) (T := TX12) (N := 135) (ty := tyX12) cl15 dX12_here_1 ha 17 (by decide) t_2408 e17 ?_
  refine x_aload_n (M := M_X12_here) dX12_here_4 rfl ?_
  refine x_getf (M := M_X12_here) (ci := 15) (C := RX12) (T := TX12) (N := 135) (ty := tyX12) cl15 dX12_here_5 ha 18 (by decide) t_2409 e18 ?_
  refine x_icmp_ge (M := M_X12_here) (tgt := 27) dX12_here_8 (by decide) (fun q0 => ?_) (fun q0 => ?_)
  · refine x_iconst (M := M_X12_here) dX12_here_27 ?_
    exact x_iret (M := M_X12_here) dX12_here_28 rfl ⟨by rw [f_X12_here, if_pos q0], rfl⟩ (Nat.le_of_ble_eq_true rfl) (Nat.le_of_ble_eq_true rfl)
  · refine x_aload_n (M := M_X12_here) dX12_here_11 rfl ?_
    refine x_getf (M := M_X12_here) (ci := 15) (C := RX12) (T := TX12) (N := 135) (ty := tyX12) cl15 dX12_here_12 ha 3 (by decide) t_2394 e3 ?_
    refine x_aload_n (M := M_X12_here) dX12_here_15 rfl ?_
    refine x_getf (M := M_X12_here) (ci := 15) (C := RX12) (T := TX12) (N := 135) (ty := tyX12) cl15 dX12_here_16 ha 17 (by decide) t_2408 e17 ?_
    refine x_bald (M := M_X12_here) dX12_here_19 o3 (i0 q0) ?_
    refine x_sipush (M := M_X12_here) dX12_here_20 ?_
    refine x_iand (M := M_X12_here) dX12_here_23 ?_
    refine x_goto (M := M_X12_here) (tgt := 28) dX12_here_24 (by decide) ?_
    exact x_iret (M := M_X12_here) dX12_here_28 rfl ⟨by rw [f_X12_here, if_neg q0], rfl⟩ (Nat.le_of_ble_eq_true rfl) (Nat.le_of_ble_eq_true rfl)
def f_X12_isBlank (w0 : Int32) : Int32 := if w0 = (Int8.ofInt 32).toInt32 then (Int32.ofInt 1) else (if w0 = (Int8.ofInt 9).toInt32 then (Int32.ofInt 1) else (if w0 = (Int8.ofInt 10).toInt32 then (Int32.ofInt 1) else (if w0 = (Int8.ofInt 13).toInt32 then (Int32.ofInt 1) else ((Int32.ofInt 0)))))
theorem b_X12_isBlank (w0 : Int32) : f_X12_isBlank w0 = 0 ∨ f_X12_isBlank w0 = 1 := (ite01 (Or.inr rfl) (ite01 (Or.inr rfl) (ite01 (Or.inr rfl) (ite01 (Or.inr rfl) (Or.inl rfl)))))
theorem p_X12_isBlank {l : Launch} {E : EE} (hl : l.stackTraces = false) {h : HP} {w0 : Int32} : en_C l E M_X12_isBlank 0 0 0 [.int w0] h (pR (some (.int (f_X12_isBlank w0))) h) := by
  refine en_mk m_X12_isBlank rfl hl (Nat.le_of_ble_eq_true rfl) ?_
  refine x_iload_n (M := M_X12_isBlank) dX12_isBlank_0 rfl ?_
  refine x_bipush (M := M_X12_isBlank) dX12_isBlank_1 ?_
  refine x_icmp_eq (M := M_X12_isBlank) (tgt := 24) dX12_isBlank_3 (by decide) (fun q0 => ?_) (fun q0 => ?_)
  · refine x_iconst (M := M_X12_isBlank) dX12_isBlank_24 ?_
    refine x_goto (M := M_X12_isBlank) (tgt := 29) dX12_isBlank_25 (by decide) ?_
    exact x_zret (M := M_X12_isBlank) dX12_isBlank_29 rfl (Or.inr rfl) ⟨by rw [f_X12_isBlank, if_pos q0], rfl⟩ (Nat.le_of_ble_eq_true rfl) (Nat.le_of_ble_eq_true rfl)
  · refine x_iload_n (M := M_X12_isBlank) dX12_isBlank_6 rfl ?_
    refine x_bipush (M := M_X12_isBlank) dX12_isBlank_7 ?_
    refine x_icmp_eq (M := M_X12_isBlank) (tgt := 24) dX12_isBlank_9 (by decide) (fun q1 => ?_) (fun q1 => ?_)
    · refine x_iconst (M := M_X12_isBlank) dX12_isBlank_24 ?_
      refine x_goto (M := M_X12_isBlank) (tgt := 29) dX12_isBlank_25 (by decide) ?_
      exact x_zret (M := M_X12_isBlank) dX12_isBlank_29 rfl (Or.inr rfl) ⟨by rw [f_X12_isBlank, if_neg q0, if_pos q1], rfl⟩ (Nat.le_of_ble_eq_true rfl) (Nat.le_of_ble_eq_true rfl)
    · refine x_iload_n (M := M_X12_isBlank) dX12_isBlank_12 rfl ?_
      refine x_bipush (M := M_X12_isBlank) dX12_isBlank_13 ?_
      refine x_icmp_eq (M := M_X12_isBlank) (tgt := 24) dX12_isBlank_15 (by decide) (fun q2 => ?_) (fun q2 => ?_)
      · refine x_iconst (M := M_X12_isBlank) dX12_isBlank_24 ?_
        refine x_goto (M := M_X12_isBlank) (tgt := 29) dX12_isBlank_25 (by decide) ?_
        exact x_zret (M := M_X12_isBlank) dX12_isBlank_29 rfl (Or.inr rfl) ⟨by rw [f_X12_isBlank, if_neg q0, if_neg q1, if_pos q2], rfl⟩ (Nat.le_of_ble_eq_true rfl) (Nat.le_of_ble_eq_true rfl)
      · refine x_iload_n (M := M_X12_isBlank) dX12_isBlank_18 rfl ?_
        refine x_bipush (M := M_X12_isBlank) dX12_isBlank_19 ?_
        refine x_icmp_ne (M := M_X12_isBlank) (tgt := 28) dX12_isBlank_21 (by decide) (fun q3 => ?_) (fun q3 => ?_)
        · refine x_iconst (M := M_X12_isBlank) dX12_isBlank_28 ?_
          exact x_zret (M := M_X12_isBlank) dX12_isBlank_29 rfl (Or.inl rfl) ⟨by rw [f_X12_isBlank, if_neg q0, if_neg q1, if_neg q2, if_neg q3], rfl⟩ (Nat.le_of_ble_eq_true rfl) (Nat.le_of_ble_eq_true rfl)
        · refine x_iconst (M := M_X12_isBlank) dX12_isBlank_24 ?_
          refine x_goto (M := M_X12_isBlank) (tgt := 29) dX12_isBlank_25 (by decide) ?_
          exact x_zret (M := M_X12_isBlank) dX12_isBlank_29 rfl (Or.inr rfl) ⟨by rw [f_X12_isBlank, if_neg q0, if_neg q1, if_neg q2, if_pos q3], rfl⟩ (Nat.le_of_ble_eq_true rfl) (Nat.le_of_ble_eq_true rfl)
def f_X12_isLetter (w0 : Int32) : Int32 := if w0 < (Int8.ofInt 97).toInt32 then if w0 < (Int8.ofInt 65).toInt32 then (Int32.ofInt 0) else (if (Int8.ofInt 90).toInt32 < w0 then (Int32.ofInt 0) else ((Int32.ofInt 1))) else (if w0 ≤ (Int8.ofInt 122).toInt32 then (Int32.ofInt 1) else (if w0 < (Int8.ofInt 65).toInt32 then (Int32.ofInt 0) else (if (Int8.ofInt 90).toInt32 < w0 then (Int32.ofInt 0) else ((Int32.ofInt 1)))))
theorem b_X12_isLetter (w0 : Int32) : f_X12_isLetter w0 = 0 ∨ f_X12_isLetter w0 = 1 := (ite01 (ite01 (Or.inl rfl) (ite01 (Or.inl rfl) (Or.inr rfl))) (ite01 (Or.inr rfl) (ite01 (Or.inl rfl) (ite01 (Or.inl rfl) (Or.inr rfl)))))
theorem p_X12_isLetter {l : Launch} {E : EE} (hl : l.stackTraces = false) {h : HP} {w0 : Int32} : en_C l E M_X12_isLetter 0 0 0 [.int w0] h (pR (some (.int (f_X12_isLetter w0))) h) := by
  refine en_mk m_X12_isLetter rfl hl (Nat.le_of_ble_eq_true rfl) ?_
  refine x_iload_n (M := M_X12_isLetter) dX12_isLetter_0 rfl ?_
  refine x_bipush (M := M_X12_isLetter) dX12_isLetter_1 ?_
  refine x_icmp_lt (M := M_X12_isLetter) (tgt := 12) dX12_isLetter_3 (by decide) (fun q0 => ?_) (fun q0 => ?_)
  · refine x_iload_n (M := M_X12_isLetter) dX12_isLetter_12 rfl ?_
    refine x_bipush (M := M_X12_isLetter) dX12_isLetter_13 ?_
    refine x_icmp_lt (M := M_X12_isLetter) (tgt := 28) dX12_isLetter_15 (by decide) (fun q1 => ?_) (fun q1 => ?_)
    · refine x_iconst (M := M_X12_isLetter) dX12_isLetter_28 ?_
      exact x_zret (M := M_X12_isLetter) dX12_isLetter_29 rfl (Or.inl rfl) ⟨by rw [f_X12_isLetter, if_pos q0, if_pos q1], rfl⟩ (Nat.le_of_ble_eq_true rfl) (Nat.le_of_ble_eq_true rfl)
    · refine x_iload_n (M := M_X12_isLetter) dX12_isLetter_18 rfl ?_
      refine x_bipush (M := M_X12_isLetter) dX12_isLetter_19 ?_
      refine x_icmp_gt (M := M_X12_isLetter) (tgt := 28) dX12_isLetter_21 (by decide) (fun q2 => ?_) (fun q2 => ?_)
      · refine x_iconst (M := M_X12_isLetter) dX12_isLetter_28 ?_
        exact x_zret (M := M_X12_isLetter) dX12_isLetter_29 rfl (Or.inl rfl) ⟨by rw [f_X12_isLetter, if_pos q0, if_neg q1, if_pos q2], rfl⟩ (Nat.le_of_ble_eq_true rfl) (Nat.le_of_ble_eq_true rfl)
      · refine x_iconst (M := M_X12_isLetter) dX12_isLetter_24 ?_
        refine x_goto (M := M_X12_isLetter) (tgt := 29) dX12_isLetter_25 (by decide) ?_
        exact x_zret (M := M_X12_isLetter) dX12_isLetter_29 rfl (Or.inr rfl) ⟨by rw [f_X12_isLetter, if_pos q0, if_neg q1, if_neg q2], rfl⟩ (Nat.le_of_ble_eq_true rfl) (Nat.le_of_ble_eq_true rfl)
  · refine x_iload_n (M := M_X12_isLetter) dX12_isLetter_6 rfl ?_
    refine x_bipush (M := M_X12_isLetter) dX12_isLetter_7 ?_
    refine x_icmp_le (M := M_X12_isLetter) (tgt := 24) dX12_isLetter_9 (by decide) (fun q1 => ?_) (fun q1 => ?_)
    · refine x_iconst (M := M_X12_isLetter) dX12_isLetter_24 ?_
      refine x_goto (M := M_X12_isLetter) (tgt := 29) dX12_isLetter_25 (by decide) ?_
      exact x_zret (M := M_X12_isLetter) dX12_isLetter_29 rfl (Or.inr rfl) ⟨by rw [f_X12_isLetter, if_neg q0, if_pos q1], rfl⟩ (Nat.le_of_ble_eq_true rfl) (Nat.le_of_ble_eq_true rfl)
    · refine x_iload_n (M := M_X12_isLetter) dX12_isLetter_12 rfl ?_
      refine x_bipush (M := M_X12_isLetter) dX12_isLetter_13 ?_
      refine x_icmp_lt (M := M_X12_isLetter) (tgt := 28) dX12_isLetter_15 (by decide) (fun q2 => ?_) (fun q2 => ?_)
      · refine x_iconst (M := M_X12_isLetter) dX12_isLetter_28 ?_
        exact x_zret (M := M_X12_isLetter) dX12_isLetter_29 rfl (Or.inl rfl) ⟨by rw [f_X12_isLetter, if_neg q0, if_neg q1, if_pos q2], rfl⟩ (Nat.le_of_ble_eq_true rfl) (Nat.le_of_ble_eq_true rfl)
      · refine x_iload_n (M := M_X12_isLetter) dX12_isLetter_18 rfl ?_
        refine x_bipush (M := M_X12_isLetter) dX12_isLetter_19 ?_
        refine x_icmp_gt (M := M_X12_isLetter) (tgt := 28) dX12_isLetter_21 (by decide) (fun q3 => ?_) (fun q3 => ?_)
        · refine x_iconst (M := M_X12_isLetter) dX12_isLetter_28 ?_
          exact x_zret (M := M_X12_isLetter) dX12_isLetter_29 rfl (Or.inl rfl) ⟨by rw [f_X12_isLetter, if_neg q0, if_neg q1, if_neg q2, if_pos q3], rfl⟩ (Nat.le_of_ble_eq_true rfl) (Nat.le_of_ble_eq_true rfl)
        · refine x_iconst (M := M_X12_isLetter) dX12_isLetter_24 ?_
          refine x_goto (M := M_X12_isLetter) (tgt := 29) dX12_isLetter_25 (by decide) ?_
          exact x_zret (M := M_X12_isLetter) dX12_isLetter_29 rfl (Or.inr rfl) ⟨by rw [f_X12_isLetter, if_neg q0, if_neg q1, if_neg q2, if_neg q3], rfl⟩ (Nat.le_of_ble_eq_true rfl) (Nat.le_of_ble_eq_true rfl)
def f_X12_isDigit (w0 : Int32) : Int32 := if w0 < (Int8.ofInt 48).toInt32 then (Int32.ofInt 0) else (if (Int8.ofInt 57).toInt32 < w0 then (Int32.ofInt 0) else ((Int32.ofInt 1)))
theorem b_X12_isDigit (w0 : Int32) : f_X12_isDigit w0 = 0 ∨ f_X12_isDigit w0 = 1 := (ite01 (Or.inl rfl) (ite01 (Or.inl rfl) (Or.inr rfl)))
theorem p_X12_isDigit {l : Launch} {E : EE} (hl : l.stackTraces = false) {h : HP} {w0 : Int32} : en_C l E M_X12_isDigit 0 0 0 [.int w0] h (pR (some (.int (f_X12_isDigit w0))) h) := by
  refine en_mk m_X12_isDigit rfl hl (Nat.le_of_ble_eq_true rfl) ?_
  refine x_iload_n (M := M_X12_isDigit) dX12_isDigit_0 rfl ?_
  refine x_bipush (M := M_X12_isDigit) dX12_isDigit_1 ?_
  refine x_icmp_lt (M := M_X12_isDigit) (tgt := 16) dX12_isDigit_3 (by decide) (fun q0 => ?_) (fun q0 => ?_)
  · refine x_iconst (M := M_X12_isDigit) dX12_isDigit_16 ?_
    exact x_zret (M := M_X12_isDigit) dX12_isDigit_17 rfl (Or.inl rfl) ⟨by rw [f_X12_isDigit, if_pos q0], rfl⟩ (Nat.le_of_ble_eq_true rfl) (Nat.le_of_ble_eq_true rfl)
  · refine x_iload_n (M := M_X12_isDigit) dX12_isDigit_6 rfl ?_
    refine x_bipush (M := M_X12_isDigit) dX12_isDigit_7 ?_
    refine x_icmp_gt (M := M_X12_isDigit) (tgt := 16) dX12_isDigit_9 (by decide) (fun q1 => ?_) (fun q1 => ?_)
    · refine x_iconst (M := M_X12_isDigit) dX12_isDigit_16 ?_
      exact x_zret (M := M_X12_isDigit) dX12_isDigit_17 rfl (Or.inl rfl) ⟨by rw [f_X12_isDigit, if_neg q0, if_pos q1], rfl⟩ (Nat.le_of_ble_eq_true rfl) (Nat.le_of_ble_eq_true rfl)
    · refine x_iconst (M := M_X12_isDigit) dX12_isDigit_12 ?_
      refine x_goto (M := M_X12_isDigit) (tgt := 17) dX12_isDigit_13 (by decide) ?_
      exact x_zret (M := M_X12_isDigit) dX12_isDigit_17 rfl (Or.inr rfl) ⟨by rw [f_X12_isDigit, if_neg q0, if_neg q1], rfl⟩ (Nat.le_of_ble_eq_true rfl) (Nat.le_of_ble_eq_true rfl)
def f_X12_isSign (w0 : Int32) : Int32 := if w0 = (Int8.ofInt 43).toInt32 then (Int32.ofInt 1) else (if w0 = (Int8.ofInt 45).toInt32 then (Int32.ofInt 1) else ((Int32.ofInt 0)))
theorem b_X12_isSign (w0 : Int32) : f_X12_isSign w0 = 0 ∨ f_X12_isSign w0 = 1 := (ite01 (Or.inr rfl) (ite01 (Or.inr rfl) (Or.inl rfl)))
theorem p_X12_isSign {l : Launch} {E : EE} (hl : l.stackTraces = false) {h : HP} {w0 : Int32} : en_C l E M_X12_isSign 0 0 0 [.int w0] h (pR (some (.int (f_X12_isSign w0))) h) := by
  refine en_mk m_X12_isSign rfl hl (Nat.le_of_ble_eq_true rfl) ?_
  refine x_iload_n (M := M_X12_isSign) dX12_isSign_0 rfl ?_
  refine x_bipush (M := M_X12_isSign) dX12_isSign_1 ?_
  refine x_icmp_eq (M := M_X12_isSign) (tgt := 12) dX12_isSign_3 (by decide) (fun q0 => ?_) (fun q0 => ?_)
  · refine x_iconst (M := M_X12_isSign) dX12_isSign_12 ?_
    refine x_goto (M := M_X12_isSign) (tgt := 17) dX12_isSign_13 (by decide) ?_
    exact x_zret (M := M_X12_isSign) dX12_isSign_17 rfl (Or.inr rfl) ⟨by rw [f_X12_isSign, if_pos q0], rfl⟩ (Nat.le_of_ble_eq_true rfl) (Nat.le_of_ble_eq_true rfl)
  · refine x_iload_n (M := M_X12_isSign) dX12_isSign_6 rfl ?_
    refine x_bipush (M := M_X12_isSign) dX12_isSign_7 ?_
    refine x_icmp_ne (M := M_X12_isSign) (tgt := 16) dX12_isSign_9 (by decide) (fun q1 => ?_) (fun q1 => ?_)
    · refine x_iconst (M := M_X12_isSign) dX12_isSign_16 ?_
      exact x_zret (M := M_X12_isSign) dX12_isSign_17 rfl (Or.inl rfl) ⟨by rw [f_X12_isSign, if_neg q0, if_neg q1], rfl⟩ (Nat.le_of_ble_eq_true rfl) (Nat.le_of_ble_eq_true rfl)
    · refine x_iconst (M := M_X12_isSign) dX12_isSign_12 ?_
      refine x_goto (M := M_X12_isSign) (tgt := 17) dX12_isSign_13 (by decide) ?_
      exact x_zret (M := M_X12_isSign) dX12_isSign_17 rfl (Or.inr rfl) ⟨by rw [f_X12_isSign, if_neg q0, if_pos q1], rfl⟩ (Nat.le_of_ble_eq_true rfl) (Nat.le_of_ble_eq_true rfl)
def f_X12_large (w0 : Int32) : Int32 := if w0 < (Int8.ofInt 97).toInt32 then w0 else (if (Int8.ofInt 122).toInt32 < w0 then w0 else ((w0 - (Int8.ofInt 32).toInt32)))
theorem p_X12_large {l : Launch} {E : EE} (hl : l.stackTraces = false) {h : HP} {w0 : Int32} : en_C l E M_X12_large 0 0 0 [.int w0] h (pR (some (.int (f_X12_large w0))) h) := by
  refine en_mk m_X12_large rfl hl (Nat.le_of_ble_eq_true rfl) ?_
  refine x_iload_n (M := M_X12_large) dX12_large_0 rfl ?_
  refine x_bipush (M := M_X12_large) dX12_large_1 ?_
  refine x_icmp_lt (M := M_X12_large) (tgt := 19) dX12_large_3 (by decide) (fun q0 => ?_) (fun q0 => ?_)
  · refine x_iload_n (M := M_X12_large) dX12_large_19 rfl ?_
    exact x_iret (M := M_X12_large) dX12_large_20 rfl ⟨by rw [f_X12_large, if_pos q0], rfl⟩ (Nat.le_of_ble_eq_true rfl) (Nat.le_of_ble_eq_true rfl)
  · refine x_iload_n (M := M_X12_large) dX12_large_6 rfl ?_
    refine x_bipush (M := M_X12_large) dX12_large_7 ?_
    refine x_icmp_gt (M := M_X12_large) (tgt := 19) dX12_large_9 (by decide) (fun q1 => ?_) (fun q1 => ?_)
    · refine x_iload_n (M := M_X12_large) dX12_large_19 rfl ?_
      exact x_iret (M := M_X12_large) dX12_large_20 rfl ⟨by rw [f_X12_large, if_neg q0, if_pos q1], rfl⟩ (Nat.le_of_ble_eq_true rfl) (Nat.le_of_ble_eq_true rfl)
    · refine x_iload_n (M := M_X12_large) dX12_large_12 rfl ?_
      refine x_bipush (M := M_X12_large) dX12_large_13 ?_
      refine x_isub (M := M_X12_large) dX12_large_15 ?_
      refine x_goto (M := M_X12_large) (tgt := 20) dX12_large_16 (by decide) ?_
      exact x_iret (M := M_X12_large) dX12_large_20 rfl ⟨by rw [f_X12_large, if_neg q0, if_neg q1], rfl⟩ (Nat.le_of_ble_eq_true rfl) (Nat.le_of_ble_eq_true rfl)
def f_X12_there (g17 : Int32) (g18 : Int32) (w0 : Int32) : Int32 := if g18 < (g17 + w0) then (Int32.ofInt 0) else ((Int32.ofInt 1))
theorem b_X12_there (g17 : Int32) (g18 : Int32) (w0 : Int32) : f_X12_there g17 g18 w0 = 0 ∨ f_X12_there g17 g18 w0 = 1 := (ite01 (Or.inl rfl) (Or.inr rfl))
theorem p_X12_there {l : Launch} {E : EE} (hl : l.stackTraces = false) {h : HP} {g17 : Int32} {g18 : Int32} {w0 : Int32} {a : Nat} {fs : List Value} (ha : ob h a = some (.inr (15, fs))) (e17 : fs[17]? = some (.int g17)) (e18 : fs[18]? = some (.int g18)) : en_C l E M_X12_there 0 0 0 [.ref a, .int w0] h (pR (some (.int (f_X12_there g17 g18 w0))) h) := by
  refine en_mk m_X12_there rfl hl (Nat.le_of_ble_eq_true rfl) ?_
  refine x_aload_n (M := M_X12_there) dX12_there_0 rfl ?_
  refine x_getf (M := M_X12_there) (ci := 15) (C := RX12) (T := TX12) (N := 135) (ty := tyX12) cl15 dX12_there_1 ha 17 (by decide) t_2408 e17 ?_
  refine x_iload_n (M := M_X12_there) dX12_there_4 rfl ?_
  refine x_iadd (M := M_X12_there) dX12_there_5 ?_
  refine x_aload_n (M := M_X12_there) dX12_there_6 rfl ?_
  refine x_getf (M := M_X12_there) (ci := 15) (C := RX12) (T := TX12) (N := 135) (ty := tyX12) cl15 dX12_there_7 ha 18 (by decide) t_2409 e18 ?_
  refine x_icmp_gt (M := M_X12_there) (tgt := 17) dX12_there_10 (by decide) (fun q0 => ?_) (fun q0 => ?_)
  · refine x_iconst (M := M_X12_there) dX12_there_17 ?_
    exact x_zret (M := M_X12_there) dX12_there_18 rfl (Or.inl rfl) ⟨by rw [f_X12_there, if_pos q0], rfl⟩ (Nat.le_of_ble_eq_true rfl) (Nat.le_of_ble_eq_true rfl)
  · refine x_iconst (M := M_X12_there) dX12_there_13 ?_
    refine x_goto (M := M_X12_there) (tgt := 18) dX12_there_14 (by decide) ?_
    exact x_zret (M := M_X12_there) dX12_there_18 rfl (Or.inr rfl) ⟨by rw [f_X12_there, if_neg q0], rfl⟩ (Nat.le_of_ble_eq_true rfl) (Nat.le_of_ble_eq_true rfl)
def f_X12_isNoNumber (w0 : Int64) : Int32 := if (lg_cmp (((w0.toUInt64 >>> ((Int8.ofInt 52).toInt32.toInt64.toUInt64 &&& Int64.toUInt64 63)).toInt64) &&& (2047 : Int64)) (2047 : Int64)) = 0 then if (lg_cmp (w0 &&& (4503599627370495 : Int64)) (Int64.ofNat ((0 : Fin 2) : Nat))) = 0 then (Int32.ofInt 0) else ((Int32.ofInt 1)) else ((Int32.ofInt 0))
theorem b_X12_isNoNumber (w0 : Int64) : f_X12_isNoNumber w0 = 0 ∨ f_X12_isNoNumber w0 = 1 := (ite01 (ite01 (Or.inl rfl) (Or.inr rfl)) (Or.inl rfl))
theorem p_X12_isNoNumber {l : Launch} {E : EE} (hl : l.stackTraces = false) {h : HP} {w0 : Int64} : en_C l E M_X12_isNoNumber 0 0 0 [.long w0] h (pR (some (.int (f_X12_isNoNumber w0))) h) := by
  refine en_mk m_X12_isNoNumber rfl hl (Nat.le_of_ble_eq_true rfl) ?_
  refine x_lload_n (M := M_X12_isNoNumber) dX12_isNoNumber_0 rfl ?_
  refine x_bipush (M := M_X12_isNoNumber) dX12_isNoNumber_1 ?_
  refine x_lushr (M := M_X12_isNoNumber) dX12_isNoNumber_3 ?_
  refine x_ldc2 (M := M_X12_isNoNumber) dX12_isNoNumber_4 t_2994 ?_
  refine x_land (M := M_X12_isNoNumber) dX12_isNoNumber_7 ?_
  refine x_ldc2 (M := M_X12_isNoNumber) dX12_isNoNumber_8 t_2994 ?_
  refine x_lcmp (M := M_X12_isNoNumber) dX12_isNoNumber_11 ?_
  refine x_if_ne (M := M_X12_isNoNumber) (tgt := 29) dX12_isNoNumber_12 (by decide) (fun q0 => ?_) (fun q0 => ?_)
  · refine x_iconst (M := M_X12_isNoNumber) dX12_isNoNumber_29 ?_
    exact x_zret (M := M_X12_isNoNumber) dX12_isNoNumber_30 rfl (Or.inl rfl) ⟨by rw [f_X12_isNoNumber, if_neg q0], rfl⟩ (Nat.le_of_ble_eq_true rfl) (Nat.le_of_ble_eq_true rfl)
  · refine x_lload_n (M := M_X12_isNoNumber) dX12_isNoNumber_15 rfl ?_
    refine x_ldc2 (M := M_X12_isNoNumber) dX12_isNoNumber_16 t_2995 ?_
    refine x_land (M := M_X12_isNoNumber) dX12_isNoNumber_19 ?_
    refine x_lconst (M := M_X12_isNoNumber) dX12_isNoNumber_20 ?_
    refine x_lcmp (M := M_X12_isNoNumber) dX12_isNoNumber_21 ?_
    refine x_if_eq (M := M_X12_isNoNumber) (tgt := 29) dX12_isNoNumber_22 (by decide) (fun q1 => ?_) (fun q1 => ?_)
    · refine x_iconst (M := M_X12_isNoNumber) dX12_isNoNumber_29 ?_
      exact x_zret (M := M_X12_isNoNumber) dX12_isNoNumber_30 rfl (Or.inl rfl) ⟨by rw [f_X12_isNoNumber, if_pos q0, if_pos q1], rfl⟩ (Nat.le_of_ble_eq_true rfl) (Nat.le_of_ble_eq_true rfl)
    · refine x_iconst (M := M_X12_isNoNumber) dX12_isNoNumber_25 ?_
      refine x_goto (M := M_X12_isNoNumber) (tgt := 30) dX12_isNoNumber_26 (by decide) ?_
      exact x_zret (M := M_X12_isNoNumber) dX12_isNoNumber_30 rfl (Or.inr rfl) ⟨by rw [f_X12_isNoNumber, if_pos q0, if_neg q1], rfl⟩ (Nat.le_of_ble_eq_true rfl) (Nat.le_of_ble_eq_true rfl)
def f_X12_next (g30 : Int32) (c10 : Nat → Int32) : Int32 := (c10 ((g30 + (Int32.ofInt 1)) - (Int32.ofInt 1)).toNatClampNeg)
def F_X12_next (fs : List Value) (g30 : Int32) (c10 : Nat → Int32) : List Value := (fs.set 30 (.int (g30 + (Int32.ofInt 1))))
theorem p_X12_next {l : Launch} {E : EE} (hl : l.stackTraces = false) {h : HP} {g30 : Int32} {c10 : Nat → Int32} {a : Nat} {fs : List Value} (ha : ob h a = some (.inr (15, fs))) (hn : fs.length = 135) (e30 : fs[30]? = some (.int g30)) {r10 n10 : Nat} (e10 : fs[10]? = some (.ref r10)) (o10 : ob h r10 = some (.inl (0, n10, .inl c10))) (i0 : vp_in ((g30 + (Int32.ofInt 1)) - (Int32.ofInt 1)) n10) : en_C l E M_X12_next 0 0 0 [.ref a] h (pR (some (.int (f_X12_next g30 c10))) (stt h a (.inr (15, F_X12_next fs g30 c10)))) := by
  refine en_mk m_X12_next rfl hl (Nat.le_of_ble_eq_true rfl) ?_
  refine x_heap (h' := stt h a (.inr (15, fs))) (stt_id ha).symm ?_
  refine x_aload_n (M := M_X12_next) dX12_next_0 rfl ?_
  refine x_dup (M := M_X12_next) dX12_next_1 rfl ?_
  refine x_getf (M := M_X12_next) (ci := 15) (C := RX12) (T := TX12) (N := 135) (ty := tyX12) cl15 dX12_next_2 (ob_self ha) 30 (by decide) t_2421 e30 ?_
  refine x_iconst (M := M_X12_next) dX12_next_5 ?_
  refine x_iadd (M := M_X12_next) dX12_next_6 ?_
  refine x_put (M := M_X12_next) (ci := 15) (C := RX12) (T := TX12) (N := 135) (ty := tyX12) cl15 dX12_next_7 (ob_self ha) 30 (by decide) t_2421 (Or.inl rfl) (by simp only [List.length_set, hn]; decide) rfl ?_
  refine x_heap (h' := stt h a (.inr (15, (fs.set 30 (.int (g30 + (Int32.ofInt 1))))))) stt_stt ?_
  refine x_aload_n (M := M_X12_next) dX12_next_10 rfl ?_
  refine x_getf (M := M_X12_next) (ci := 15) (C := RX12) (T := TX12) (N := 135) (ty := tyX12) cl15 dX12_next_11 (ob_self ha) 10 (by decide) t_2401 (gs_ne (by decide) e10) ?_
  refine x_aload_n (M := M_X12_next) dX12_next_14 rfl ?_
  refine x_getf (M := M_X12_next) (ci := 15) (C := RX12) (T := TX12) (N := 135) (ty := tyX12) cl15 dX12_next_15 (ob_self ha) 30 (by decide) t_2421 (gs_eq (by simp only [List.length_set, hn]; decide)) ?_
  refine x_iconst (M := M_X12_next) dX12_next_18 ?_
  refine x_isub (M := M_X12_next) dX12_next_19 ?_
  refine x_iald (M := M_X12_next) dX12_next_20 (ob_oth ha o10) i0 ?_
  exact x_iret (M := M_X12_next) dX12_next_21 rfl ⟨rfl, rfl⟩ (Nat.le_of_ble_eq_true rfl) (Nat.le_of_ble_eq_true rfl)
def f_X12_isFar (w0 : Int64) : Int32 := (f_X12_in w0 (-1000000000 : Int64) (1000000000 : Int64))
theorem b_X12_isFar (w0 : Int64) : f_X12_isFar w0 = 0 ∨ f_X12_isFar w0 = 1 := (b_X12_in _ _ _)
theorem p_X12_isFar {l : Launch} {E : EE} (hl : l.stackTraces = false) {h : HP} {w0 : Int64} : en_C l E M_X12_isFar 1 0 0 [.long w0] h (pR (some (.int (f_X12_isFar w0))) h) := by
  refine en_mk m_X12_isFar rfl hl (Nat.le_of_ble_eq_true rfl) ?_
  refine x_lload_n (M := M_X12_isFar) dX12_isFar_0 rfl ?_
  refine x_ldc2 (M := M_X12_isFar) dX12_isFar_1 t_3136 ?_
  refine x_ldc2 (M := M_X12_isFar) dX12_isFar_4 t_2937 ?_
  refine x_callSR (M := M_X12_isFar) (M' := M_X12_in) rfl rfl dX12_isFar_7 m_X12_in t_2818 t_2819 (p_X12_in hl) rfl rfl (Nat.le_of_ble_eq_true rfl) (Nat.le_of_ble_eq_true rfl) (Nat.le_of_ble_eq_true rfl) (Nat.le_of_ble_eq_true rfl) ?_
  exact x_zret (M := M_X12_isFar) dX12_isFar_10 rfl (b_X12_in _ _ _) ⟨rfl, rfl⟩ (Nat.le_of_ble_eq_true rfl) (Nat.le_of_ble_eq_true rfl)
def f_X12_gap (w0 : Int64) (w1 : Int64) (w2 : Int64) : Int64 := if 0 ≤ (lg_cmp w0 w1) then if (lg_cmp w0 w2) ≤ 0 then (Int64.ofNat ((0 : Fin 2) : Nat)) else ((w0 - w2)) else ((w1 - w0))
theorem p_X12_gap {l : Launch} {E : EE} (hl : l.stackTraces = false) {h : HP} {w0 : Int64} {w1 : Int64} {w2 : Int64} : en_C l E M_X12_gap 0 0 0 [.long w0, .long w1, .long w2] h (pR (some (.long (f_X12_gap w0 w1 w2))) h) := by
  refine en_mk m_X12_gap rfl hl (Nat.le_of_ble_eq_true rfl) ?_
  refine x_lload_n (M := M_X12_gap) dX12_gap_0 rfl ?_
  refine x_lload_n (M := M_X12_gap) dX12_gap_1 rfl ?_
  refine x_lcmp (M := M_X12_gap) dX12_gap_2 ?_
  refine x_if_ge (M := M_X12_gap) (tgt := 12) dX12_gap_3 (by decide) (fun q0 => ?_) (fun q0 => ?_)
  · refine x_lload_n (M := M_X12_gap) dX12_gap_12 rfl ?_
    refine x_lload (M := M_X12_gap) dX12_gap_13 rfl ?_
    refine x_lcmp (M := M_X12_gap) dX12_gap_15 ?_
    refine x_if_le (M := M_X12_gap) (tgt := 26) dX12_gap_16 (by decide) (fun q1 => ?_) (fun q1 => ?_)
    · refine x_lconst (M := M_X12_gap) dX12_gap_26 ?_
      exact x_lret (M := M_X12_gap) dX12_gap_27 rfl ⟨by rw [f_X12_gap, if_pos q0, if_pos q1], rfl⟩ (Nat.le_of_ble_eq_true rfl) (Nat.le_of_ble_eq_true rfl)
    · refine x_lload_n (M := M_X12_gap) dX12_gap_19 rfl ?_
      refine x_lload (M := M_X12_gap) dX12_gap_20 rfl ?_
      refine x_lsub (M := M_X12_gap) dX12_gap_22 ?_
      refine x_goto (M := M_X12_gap) (tgt := 27) dX12_gap_23 (by decide) ?_
      exact x_lret (M := M_X12_gap) dX12_gap_27 rfl ⟨by rw [f_X12_gap, if_pos q0, if_neg q1], rfl⟩ (Nat.le_of_ble_eq_true rfl) (Nat.le_of_ble_eq_true rfl)
  · refine x_lload_n (M := M_X12_gap) dX12_gap_6 rfl ?_
    refine x_lload_n (M := M_X12_gap) dX12_gap_7 rfl ?_
    refine x_lsub (M := M_X12_gap) dX12_gap_8 ?_
    refine x_goto (M := M_X12_gap) (tgt := 27) dX12_gap_9 (by decide) ?_
    exact x_lret (M := M_X12_gap) dX12_gap_27 rfl ⟨by rw [f_X12_gap, if_neg q0], rfl⟩ (Nat.le_of_ble_eq_true rfl) (Nat.le_of_ble_eq_true rfl)
def f_X12_limb (c36 : Nat → Int64) (c37 : Nat → Int32) (w0 : Int32) (w1 : Int32) : Int64 := if (c37 w0.toNatClampNeg) ≤ w1 then (Int64.ofNat ((0 : Fin 2) : Nat)) else ((c36 (((Int16.ofInt 300).toInt32 * w0) + w1).toNatClampNeg))
theorem p_X12_limb {l : Launch} {E : EE} (hl : l.stackTraces = false) {h : HP} {c36 : Nat → Int64} {c37 : Nat → Int32} {w0 : Int32} {w1 : Int32} {a : Nat} {fs : List Value} (ha : ob h a = some (.inr (15, fs))) {r36 n36 : Nat} (e36 : fs[36]? = some (.ref r36)) (o36 : ob h r36 = some (.inl (1, n36, .inr (.inl c36)))) {r37 n37 : Nat} (e37 : fs[37]? = some (.ref r37)) (o37 : ob h r37 = some (.inl (0, n37, .inl c37))) (i0 : vp_in w0 n37) (i1 : (¬ (c37 w0.toNatClampNeg) ≤ w1) → vp_in (((Int16.ofInt 300).toInt32 * w0) + w1) n36) : en_C l E M_X12_limb 0 0 0 [.ref a, .int w0, .int w1] h (pR (some (.long (f_X12_limb c36 c37 w0 w1))) h) := by
  refine en_mk m_X12_limb rfl hl (Nat.le_of_ble_eq_true rfl) ?_
  refine x_iload_n (M := M_X12_limb) dX12_limb_0 rfl ?_
  refine x_aload_n (M := M_X12_limb) dX12_limb_1 rfl ?_
  refine x_getf (M := M_X12_limb) (ci := 15) (C := RX12) (T := TX12) (N := 135) (ty := tyX12) cl15 dX12_limb_2 ha 37 (by decide) t_2428 e37 ?_
  refine x_iload_n (M := M_X12_limb) dX12_limb_5 rfl ?_
  refine x_iald (M := M_X12_limb) dX12_limb_6 o37 i0 ?_
  refine x_icmp_ge (M := M_X12_limb) (tgt := 25) dX12_limb_7 (by decide) (fun q0 => ?_) (fun q0 => ?_)
  · refine x_lconst (M := M_X12_limb) dX12_limb_25 ?_
    exact x_lret (M := M_X12_limb) dX12_limb_26 rfl ⟨by rw [f_X12_limb, if_pos q0], rfl⟩ (Nat.le_of_ble_eq_true rfl) (Nat.le_of_ble_eq_true rfl)
  · refine x_aload_n (M := M_X12_limb) dX12_limb_10 rfl ?_
    refine x_getf (M := M_X12_limb) (ci := 15) (C := RX12) (T := TX12) (N := 135) (ty := tyX12) cl15 dX12_limb_11 ha 36 (by decide) t_2427 e36 ?_
    refine x_sipush (M := M_X12_limb) dX12_limb_14 ?_
    refine x_iload_n (M := M_X12_limb) dX12_limb_17 rfl ?_
    refine x_imul (M := M_X12_limb) dX12_limb_18 ?_
    refine x_iload_n (M := M_X12_limb) dX12_limb_19 rfl ?_
    refine x_iadd (M := M_X12_limb) dX12_limb_20 ?_
    refine x_lald (M := M_X12_limb) dX12_limb_21 o36 (i1 q0) ?_
    refine x_goto (M := M_X12_limb) (tgt := 26) dX12_limb_22 (by decide) ?_
    exact x_lret (M := M_X12_limb) dX12_limb_26 rfl ⟨by rw [f_X12_limb, if_neg q0], rfl⟩ (Nat.le_of_ble_eq_true rfl) (Nat.le_of_ble_eq_true rfl)
def f_X12_isPoint (w0 : Int32) : Int32 := if w0 < 0 then (Int32.ofInt 0) else (if (Int8.ofInt 32).toInt32 ≤ w0 then (Int32.ofInt 0) else ((Int32.ofInt 1)))
theorem b_X12_isPoint (w0 : Int32) : f_X12_isPoint w0 = 0 ∨ f_X12_isPoint w0 = 1 := (ite01 (Or.inl rfl) (ite01 (Or.inl rfl) (Or.inr rfl)))
theorem p_X12_isPoint {l : Launch} {E : EE} (hl : l.stackTraces = false) {h : HP} {w0 : Int32} : en_C l E M_X12_isPoint 0 0 0 [.int w0] h (pR (some (.int (f_X12_isPoint w0))) h) := by
  refine en_mk m_X12_isPoint rfl hl (Nat.le_of_ble_eq_true rfl) ?_
  refine x_iload_n (M := M_X12_isPoint) dX12_isPoint_0 rfl ?_
  refine x_if_lt (M := M_X12_isPoint) (tgt := 14) dX12_isPoint_1 (by decide) (fun q0 => ?_) (fun q0 => ?_)
  · refine x_iconst (M := M_X12_isPoint) dX12_isPoint_14 ?_
    exact x_zret (M := M_X12_isPoint) dX12_isPoint_15 rfl (Or.inl rfl) ⟨by rw [f_X12_isPoint, if_pos q0], rfl⟩ (Nat.le_of_ble_eq_true rfl) (Nat.le_of_ble_eq_true rfl)
  · refine x_iload_n (M := M_X12_isPoint) dX12_isPoint_4 rfl ?_
    refine x_bipush (M := M_X12_isPoint) dX12_isPoint_5 ?_
    refine x_icmp_ge (M := M_X12_isPoint) (tgt := 14) dX12_isPoint_7 (by decide) (fun q1 => ?_) (fun q1 => ?_)
    · refine x_iconst (M := M_X12_isPoint) dX12_isPoint_14 ?_
      exact x_zret (M := M_X12_isPoint) dX12_isPoint_15 rfl (Or.inl rfl) ⟨by rw [f_X12_isPoint, if_neg q0, if_pos q1], rfl⟩ (Nat.le_of_ble_eq_true rfl) (Nat.le_of_ble_eq_true rfl)
    · refine x_iconst (M := M_X12_isPoint) dX12_isPoint_10 ?_
      refine x_goto (M := M_X12_isPoint) (tgt := 15) dX12_isPoint_11 (by decide) ?_
      exact x_zret (M := M_X12_isPoint) dX12_isPoint_15 rfl (Or.inr rfl) ⟨by rw [f_X12_isPoint, if_neg q0, if_neg q1], rfl⟩ (Nat.le_of_ble_eq_true rfl) (Nat.le_of_ble_eq_true rfl)
def f_X12_cross (w0 : Int64) (w1 : Int64) (w2 : Int64) (w3 : Int64) : Int64 := ((w0 * w3) - (w1 * w2))
theorem p_X12_cross {l : Launch} {E : EE} (hl : l.stackTraces = false) {h : HP} {w0 : Int64} {w1 : Int64} {w2 : Int64} {w3 : Int64} : en_C l E M_X12_cross 0 0 0 [.long w0, .long w1, .long w2, .long w3] h (pR (some (.long (f_X12_cross w0 w1 w2 w3))) h) := by
  refine en_mk m_X12_cross rfl hl (Nat.le_of_ble_eq_true rfl) ?_
  refine x_lload_n (M := M_X12_cross) dX12_cross_0 rfl ?_
  refine x_lload (M := M_X12_cross) dX12_cross_1 rfl ?_
  refine x_lmul (M := M_X12_cross) dX12_cross_3 ?_
  refine x_lload_n (M := M_X12_cross) dX12_cross_4 rfl ?_
  refine x_lload (M := M_X12_cross) dX12_cross_5 rfl ?_
  refine x_lmul (M := M_X12_cross) dX12_cross_7 ?_
  refine x_lsub (M := M_X12_cross) dX12_cross_8 ?_
  exact x_lret (M := M_X12_cross) dX12_cross_9 rfl ⟨rfl, rfl⟩ (Nat.le_of_ble_eq_true rfl) (Nat.le_of_ble_eq_true rfl)
def f_X12_signOf (w0 : Int64) : Int32 := if 0 ≤ (lg_cmp w0 (Int64.ofNat ((0 : Fin 2) : Nat))) then if (lg_cmp w0 (Int64.ofNat ((0 : Fin 2) : Nat))) ≤ 0 then (Int32.ofInt 0) else ((Int32.ofInt 1)) else ((Int32.ofInt (-1)))
theorem p_X12_signOf {l : Launch} {E : EE} (hl : l.stackTraces = false) {h : HP} {w0 : Int64} : en_C l E M_X12_signOf 0 0 0 [.long w0] h (pR (some (.int (f_X12_signOf w0))) h) := by
  refine en_mk m_X12_signOf rfl hl (Nat.le_of_ble_eq_true rfl) ?_
  refine x_lload_n (M := M_X12_signOf) dX12_signOf_0 rfl ?_
  refine x_lconst (M := M_X12_signOf) dX12_signOf_1 ?_
  refine x_lcmp (M := M_X12_signOf) dX12_signOf_2 ?_
  refine x_if_ge (M := M_X12_signOf) (tgt := 10) dX12_signOf_3 (by decide) (fun q0 => ?_) (fun q0 => ?_)
  · refine x_lload_n (M := M_X12_signOf) dX12_signOf_10 rfl ?_
    refine x_lconst (M := M_X12_signOf) dX12_signOf_11 ?_
    refine x_lcmp (M := M_X12_signOf) dX12_signOf_12 ?_
    refine x_if_le (M := M_X12_signOf) (tgt := 20) dX12_signOf_13 (by decide) (fun q1 => ?_) (fun q1 => ?_)
    · refine x_iconst (M := M_X12_signOf) dX12_signOf_20 ?_
      exact x_iret (M := M_X12_signOf) dX12_signOf_21 rfl ⟨by rw [f_X12_signOf, if_pos q0, if_pos q1], rfl⟩ (Nat.le_of_ble_eq_true rfl) (Nat.le_of_ble_eq_true rfl)
    · refine x_iconst (M := M_X12_signOf) dX12_signOf_16 ?_
      refine x_goto (M := M_X12_signOf) (tgt := 21) dX12_signOf_17 (by decide) ?_
      exact x_iret (M := M_X12_signOf) dX12_signOf_21 rfl ⟨by rw [f_X12_signOf, if_pos q0, if_neg q1], rfl⟩ (Nat.le_of_ble_eq_true rfl) (Nat.le_of_ble_eq_true rfl)
  · refine x_iconst (M := M_X12_signOf) dX12_signOf_6 ?_
    refine x_goto (M := M_X12_signOf) (tgt := 21) dX12_signOf_7 (by decide) ?_
    exact x_iret (M := M_X12_signOf) dX12_signOf_21 rfl ⟨by rw [f_X12_signOf, if_neg q0], rfl⟩ (Nat.le_of_ble_eq_true rfl) (Nat.le_of_ble_eq_true rfl)
def f_X12_turn (w0 : Int64) (w1 : Int64) (w2 : Int64) (w3 : Int64) (w4 : Int64) (w5 : Int64) : Int32 := (f_X12_signOf (f_X12_cross (w2 - w0) (w3 - w1) (w4 - w0) (w5 - w1)))
theorem p_X12_turn {l : Launch} {E : EE} (hl : l.stackTraces = false) {h : HP} {w0 : Int64} {w1 : Int64} {w2 : Int64} {w3 : Int64} {w4 : Int64} {w5 : Int64} : en_C l E M_X12_turn 1 0 0 [.long w0, .long w1, .long w2, .long w3, .long w4, .long w5] h (pR (some (.int (f_X12_turn w0 w1 w2 w3 w4 w5))) h) := by
  refine en_mk m_X12_turn rfl hl (Nat.le_of_ble_eq_true rfl) ?_
  refine x_lload (M := M_X12_turn) dX12_turn_0 rfl ?_
  refine x_lload_n (M := M_X12_turn) dX12_turn_2 rfl ?_
  refine x_lsub (M := M_X12_turn) dX12_turn_3 ?_
  refine x_lload (M := M_X12_turn) dX12_turn_4 rfl ?_
  refine x_lload_n (M := M_X12_turn) dX12_turn_6 rfl ?_
  refine x_lsub (M := M_X12_turn) dX12_turn_7 ?_
  refine x_lload (M := M_X12_turn) dX12_turn_8 rfl ?_
  refine x_lload_n (M := M_X12_turn) dX12_turn_10 rfl ?_
  refine x_lsub (M := M_X12_turn) dX12_turn_11 ?_
  refine x_lload (M := M_X12_turn) dX12_turn_12 rfl ?_
  refine x_lload_n (M := M_X12_turn) dX12_turn_14 rfl ?_
  refine x_lsub (M := M_X12_turn) dX12_turn_15 ?_
  refine x_callSR (M := M_X12_turn) (M' := M_X12_cross) rfl rfl dX12_turn_16 m_X12_cross t_3265 t_3266 (p_X12_cross hl) rfl rfl (Nat.le_of_ble_eq_true rfl) (Nat.le_of_ble_eq_true rfl) (Nat.le_of_ble_eq_true rfl) (Nat.le_of_ble_eq_true rfl) ?_
  refine x_callSR (M := M_X12_turn) (M' := M_X12_signOf) rfl rfl dX12_turn_19 m_X12_signOf t_3268 t_3269 (p_X12_signOf hl) rfl rfl (Nat.le_of_ble_eq_true rfl) (Nat.le_of_ble_eq_true rfl) (Nat.le_of_ble_eq_true rfl) (Nat.le_of_ble_eq_true rfl) ?_
  exact x_iret (M := M_X12_turn) dX12_turn_22 rfl ⟨rfl, rfl⟩ (Nat.le_of_ble_eq_true rfl) (Nat.le_of_ble_eq_true rfl)
def f_X12_isAlike (c41 : Nat → Int64) (c42 : Nat → Int64) (c43 : Nat → Int64) (c44 : Nat → Int64) (w0 : Int32) : Int32 := if (lg_cmp (c41 w0.toNatClampNeg) (c43 w0.toNatClampNeg)) = 0 then if (lg_cmp (c42 w0.toNatClampNeg) (c44 w0.toNatClampNeg)) = 0 then (Int32.ofInt 1) else ((Int32.ofInt 0)) else ((Int32.ofInt 0))
theorem b_X12_isAlike (c41 : Nat → Int64) (c42 : Nat → Int64) (c43 : Nat → Int64) (c44 : Nat → Int64) (w0 : Int32) : f_X12_isAlike c41 c42 c43 c44 w0 = 0 ∨ f_X12_isAlike c41 c42 c43 c44 w0 = 1 := (ite01 (ite01 (Or.inr rfl) (Or.inl rfl)) (Or.inl rfl))
theorem p_X12_isAlike {l : Launch} {E : EE} (hl : l.stackTraces = false) {h : HP} {c41 : Nat → Int64} {c42 : Nat → Int64} {c43 : Nat → Int64} {c44 : Nat → Int64} {w0 : Int32} {a : Nat} {fs : List Value} (ha : ob h a = some (.inr (15, fs))) {r41 n41 : Nat} (e41 : fs[41]? = some (.ref r41)) (o41 : ob h r41 = some (.inl (1, n41, .inr (.inl c41)))) {r42 n42 : Nat} (e42 : fs[42]? = some (.ref r42)) (o42 : ob h r42 = some (.inl (1, n42, .inr (.inl c42)))) {r43 n43 : Nat} (e43 : fs[43]? = some (.ref r43)) (o43 : ob h r43 = some (.inl (1, n43, .inr (.inl c43)))) {r44 n44 : Nat} (e44 : fs[44]? = some (.ref r44)) (o44 : ob h r44 = some (.inl (1, n44, .inr (.inl c44)))) (i0 : vp_in w0 n41) (i1 : vp_in w0 n43) (i2 : ((lg_cmp (c41 w0.toNatClampNeg) (c43 w0.toNatClampNeg)) = 0) → vp_in w0 n42) (i3 : ((lg_cmp (c41 w0.toNatClampNeg) (c43 w0.toNatClampNeg)) = 0) → vp_in w0 n44) : en_C l E M_X12_isAlike 0 0 0 [.ref a, .int w0] h (pR (some (.int (f_X12_isAlike c41 c42 c43 c44 w0))) h) := by
  refine en_mk m_X12_isAlike rfl hl (Nat.le_of_ble_eq_true rfl) ?_
  refine x_aload_n (M := M_X12_isAlike) dX12_isAlike_0 rfl ?_
  refine x_getf (M := M_X12_isAlike) (ci := 15) (C := RX12) (T := TX12) (N := 135) (ty := tyX12) cl15 dX12_isAlike_1 ha 41 (by decide) t_2432 e41 ?_
  refine x_iload_n (M := M_X12_isAlike) dX12_isAlike_4 rfl ?_
  refine x_lald (M := M_X12_isAlike) dX12_isAlike_5 o41 i0 ?_
  refine x_aload_n (M := M_X12_isAlike) dX12_isAlike_6 rfl ?_
  refine x_getf (M := M_X12_isAlike) (ci := 15) (C := RX12) (T := TX12) (N := 135) (ty := tyX12) cl15 dX12_isAlike_7 ha 43 (by decide) t_2434 e43 ?_
  refine x_iload_n (M := M_X12_isAlike) dX12_isAlike_10 rfl ?_
  refine x_lald (M := M_X12_isAlike) dX12_isAlike_11 o43 i1 ?_
  refine x_lcmp (M := M_X12_isAlike) dX12_isAlike_12 ?_
  refine x_if_ne (M := M_X12_isAlike) (tgt := 36) dX12_isAlike_13 (by decide) (fun q0 => ?_) (fun q0 => ?_)
  · refine x_iconst (M := M_X12_isAlike) dX12_isAlike_36 ?_
    exact x_zret (M := M_X12_isAlike) dX12_isAlike_37 rfl (Or.inl rfl) ⟨by rw [f_X12_isAlike, if_neg q0], rfl⟩ (Nat.le_of_ble_eq_true rfl) (Nat.le_of_ble_eq_true rfl)
  · refine x_aload_n (M := M_X12_isAlike) dX12_isAlike_16 rfl ?_
    refine x_getf (M := M_X12_isAlike) (ci := 15) (C := RX12) (T := TX12) (N := 135) (ty := tyX12) cl15 dX12_isAlike_17 ha 42 (by decide) t_2433 e42 ?_
    refine x_iload_n (M := M_X12_isAlike) dX12_isAlike_20 rfl ?_
    refine x_lald (M := M_X12_isAlike) dX12_isAlike_21 o42 (i2 q0) ?_
    refine x_aload_n (M := M_X12_isAlike) dX12_isAlike_22 rfl ?_
    refine x_getf (M := M_X12_isAlike) (ci := 15) (C := RX12) (T := TX12) (N := 135) (ty := tyX12) cl15 dX12_isAlike_23 ha 44 (by decide) t_2435 e44 ?_
    refine x_iload_n (M := M_X12_isAlike) dX12_isAlike_26 rfl ?_
    refine x_lald (M := M_X12_isAlike) dX12_isAlike_27 o44 (i3 q0) ?_
    refine x_lcmp (M := M_X12_isAlike) dX12_isAlike_28 ?_
    refine x_if_ne (M := M_X12_isAlike) (tgt := 36) dX12_isAlike_29 (by decide) (fun q1 => ?_) (fun q1 => ?_)
    · refine x_iconst (M := M_X12_isAlike) dX12_isAlike_36 ?_
      exact x_zret (M := M_X12_isAlike) dX12_isAlike_37 rfl (Or.inl rfl) ⟨by rw [f_X12_isAlike, if_pos q0, if_neg q1], rfl⟩ (Nat.le_of_ble_eq_true rfl) (Nat.le_of_ble_eq_true rfl)
    · refine x_iconst (M := M_X12_isAlike) dX12_isAlike_32 ?_
      refine x_goto (M := M_X12_isAlike) (tgt := 37) dX12_isAlike_33 (by decide) ?_
      exact x_zret (M := M_X12_isAlike) dX12_isAlike_37 rfl (Or.inr rfl) ⟨by rw [f_X12_isAlike, if_pos q0, if_pos q1], rfl⟩ (Nat.le_of_ble_eq_true rfl) (Nat.le_of_ble_eq_true rfl)
def F_X12_meetsAt (fs : List Value) (w0 : Int64) (w1 : Int64) : List Value := (((fs.set 49 (.int (Int32.ofInt 0))).set 50 (.long w0)).set 51 (.long w1))
theorem p_X12_meetsAt {l : Launch} {E : EE} (hl : l.stackTraces = false) {h : HP} {w0 : Int64} {w1 : Int64} {a : Nat} {fs : List Value} (ha : ob h a = some (.inr (15, fs))) (hn : fs.length = 135) : en_C l E M_X12_meetsAt 0 0 0 [.ref a, .long w0, .long w1] h (pR none (stt h a (.inr (15, F_X12_meetsAt fs w0 w1)))) := by
  refine en_mk m_X12_meetsAt rfl hl (Nat.le_of_ble_eq_true rfl) ?_
  refine x_heap (h' := stt h a (.inr (15, fs))) (stt_id ha).symm ?_
  refine x_aload_n (M := M_X12_meetsAt) dX12_meetsAt_0 rfl ?_
  refine x_iconst (M := M_X12_meetsAt) dX12_meetsAt_1 ?_
  refine x_put (M := M_X12_meetsAt) (ci := 15) (C := RX12) (T := TX12) (N := 135) (ty := tyX12) cl15 dX12_meetsAt_2 (ob_self ha) 49 (by decide) t_2440 (Or.inl rfl) (by simp only [List.length_set, hn]; decide) rfl ?_
  refine x_heap (h' := stt h a (.inr (15, (fs.set 49 (.int (Int32.ofInt 0)))))) stt_stt ?_
  refine x_aload_n (M := M_X12_meetsAt) dX12_meetsAt_5 rfl ?_
  refine x_lload_n (M := M_X12_meetsAt) dX12_meetsAt_6 rfl ?_
  refine x_put (M := M_X12_meetsAt) (ci := 15) (C := RX12) (T := TX12) (N := 135) (ty := tyX12) cl15 dX12_meetsAt_7 (ob_self ha) 50 (by decide) t_2441 (Or.inl rfl) (by simp only [List.length_set, hn]; decide) rfl ?_
  refine x_heap (h' := stt h a (.inr (15, ((fs.set 49 (.int (Int32.ofInt 0))).set 50 (.long w0))))) stt_stt ?_
  refine x_aload_n (M := M_X12_meetsAt) dX12_meetsAt_10 rfl ?_
  refine x_lload_n (M := M_X12_meetsAt) dX12_meetsAt_11 rfl ?_
  refine x_put (M := M_X12_meetsAt) (ci := 15) (C := RX12) (T := TX12) (N := 135) (ty := tyX12) cl15 dX12_meetsAt_12 (ob_self ha) 51 (by decide) t_2442 (Or.inl rfl) (by simp only [List.length_set, hn]; decide) rfl ?_
  refine x_heap (h' := stt h a (.inr (15, (((fs.set 49 (.int (Int32.ofInt 0))).set 50 (.long w0)).set 51 (.long w1))))) stt_stt ?_
  exact x_vret (M := M_X12_meetsAt) dX12_meetsAt_15 rfl ⟨rfl, rfl⟩ (Nat.le_of_ble_eq_true rfl) (Nat.le_of_ble_eq_true rfl)
def f_X12_isBefore (w0 : Int64) (w1 : Int64) (w2 : Int64) (w3 : Int64) : Int32 := if (lg_cmp w0 w2) < 0 then (Int32.ofInt 1) else (if (lg_cmp w0 w2) = 0 then if 0 ≤ (lg_cmp w1 w3) then (Int32.ofInt 0) else ((Int32.ofInt 1)) else ((Int32.ofInt 0)))
theorem b_X12_isBefore (w0 : Int64) (w1 : Int64) (w2 : Int64) (w3 : Int64) : f_X12_isBefore w0 w1 w2 w3 = 0 ∨ f_X12_isBefore w0 w1 w2 w3 = 1 := (ite01 (Or.inr rfl) (ite01 (ite01 (Or.inl rfl) (Or.inr rfl)) (Or.inl rfl)))
theorem p_X12_isBefore {l : Launch} {E : EE} (hl : l.stackTraces = false) {h : HP} {w0 : Int64} {w1 : Int64} {w2 : Int64} {w3 : Int64} : en_C l E M_X12_isBefore 0 0 0 [.long w0, .long w1, .long w2, .long w3] h (pR (some (.int (f_X12_isBefore w0 w1 w2 w3))) h) := by
  refine en_mk m_X12_isBefore rfl hl (Nat.le_of_ble_eq_true rfl) ?_
  refine x_lload_n (M := M_X12_isBefore) dX12_isBefore_0 rfl ?_
  refine x_lload (M := M_X12_isBefore) dX12_isBefore_1 rfl ?_
  refine x_lcmp (M := M_X12_isBefore) dX12_isBefore_3 ?_
  refine x_if_lt (M := M_X12_isBefore) (tgt := 21) dX12_isBefore_4 (by decide) (fun q0 => ?_) (fun q0 => ?_)
  · refine x_iconst (M := M_X12_isBefore) dX12_isBefore_21 ?_
    refine x_goto (M := M_X12_isBefore) (tgt := 26) dX12_isBefore_22 (by decide) ?_
    exact x_zret (M := M_X12_isBefore) dX12_isBefore_26 rfl (Or.inr rfl) ⟨by rw [f_X12_isBefore, if_pos q0], rfl⟩ (Nat.le_of_ble_eq_true rfl) (Nat.le_of_ble_eq_true rfl)
  · refine x_lload_n (M := M_X12_isBefore) dX12_isBefore_7 rfl ?_
    refine x_lload (M := M_X12_isBefore) dX12_isBefore_8 rfl ?_
    refine x_lcmp (M := M_X12_isBefore) dX12_isBefore_10 ?_
    refine x_if_ne (M := M_X12_isBefore) (tgt := 25) dX12_isBefore_11 (by decide) (fun q1 => ?_) (fun q1 => ?_)
    · refine x_iconst (M := M_X12_isBefore) dX12_isBefore_25 ?_
      exact x_zret (M := M_X12_isBefore) dX12_isBefore_26 rfl (Or.inl rfl) ⟨by rw [f_X12_isBefore, if_neg q0, if_neg q1], rfl⟩ (Nat.le_of_ble_eq_true rfl) (Nat.le_of_ble_eq_true rfl)
    · refine x_lload_n (M := M_X12_isBefore) dX12_isBefore_14 rfl ?_
      refine x_lload (M := M_X12_isBefore) dX12_isBefore_15 rfl ?_
      refine x_lcmp (M := M_X12_isBefore) dX12_isBefore_17 ?_
      refine x_if_ge (M := M_X12_isBefore) (tgt := 25) dX12_isBefore_18 (by decide) (fun q2 => ?_) (fun q2 => ?_)
      · refine x_iconst (M := M_X12_isBefore) dX12_isBefore_25 ?_
        exact x_zret (M := M_X12_isBefore) dX12_isBefore_26 rfl (Or.inl rfl) ⟨by rw [f_X12_isBefore, if_neg q0, if_pos q1, if_pos q2], rfl⟩ (Nat.le_of_ble_eq_true rfl) (Nat.le_of_ble_eq_true rfl)
      · refine x_iconst (M := M_X12_isBefore) dX12_isBefore_21 ?_
        refine x_goto (M := M_X12_isBefore) (tgt := 26) dX12_isBefore_22 (by decide) ?_
        exact x_zret (M := M_X12_isBefore) dX12_isBefore_26 rfl (Or.inr rfl) ⟨by rw [f_X12_isBefore, if_neg q0, if_pos q1, if_neg q2], rfl⟩ (Nat.le_of_ble_eq_true rfl) (Nat.le_of_ble_eq_true rfl)
def f_X12_isOn (c41 : Nat → Int64) (c42 : Nat → Int64) (c43 : Nat → Int64) (c44 : Nat → Int64) (w0 : Int32) (w1 : Int64) (w2 : Int64) : Int32 := if (f_X12_turn (c41 w0.toNatClampNeg) (c42 w0.toNatClampNeg) (c43 w0.toNatClampNeg) (c44 w0.toNatClampNeg) w1 w2) = 0 then if 0 ≤ (lg_cmp (c41 w0.toNatClampNeg) (c43 w0.toNatClampNeg)) then if 0 ≤ (lg_cmp (c42 w0.toNatClampNeg) (c44 w0.toNatClampNeg)) then if (f_X12_in w1 (c43 w0.toNatClampNeg) (c41 w0.toNatClampNeg)) = 0 then (Int32.ofInt 0) else (if (f_X12_in w2 (c44 w0.toNatClampNeg) (c42 w0.toNatClampNeg)) = 0 then (Int32.ofInt 0) else ((Int32.ofInt 1))) else (if (f_X12_in w1 (c43 w0.toNatClampNeg) (c41 w0.toNatClampNeg)) = 0 then (Int32.ofInt 0) else (if (f_X12_in w2 (c42 w0.toNatClampNeg) (c44 w0.toNatClampNeg)) = 0 then (Int32.ofInt 0) else ((Int32.ofInt 1)))) else (if 0 ≤ (lg_cmp (c42 w0.toNatClampNeg) (c44 w0.toNatClampNeg)) then if (f_X12_in w1 (c41 w0.toNatClampNeg) (c43 w0.toNatClampNeg)) = 0 then (Int32.ofInt 0) else (if (f_X12_in w2 (c44 w0.toNatClampNeg) (c42 w0.toNatClampNeg)) = 0 then (Int32.ofInt 0) else ((Int32.ofInt 1))) else (if (f_X12_in w1 (c41 w0.toNatClampNeg) (c43 w0.toNatClampNeg)) = 0 then (Int32.ofInt 0) else (if (f_X12_in w2 (c42 w0.toNatClampNeg) (c44 w0.toNatClampNeg)) = 0 then (Int32.ofInt 0) else ((Int32.ofInt 1))))) else ((Int32.ofInt 0))
theorem b_X12_isOn (c41 : Nat → Int64) (c42 : Nat → Int64) (c43 : Nat → Int64) (c44 : Nat → Int64) (w0 : Int32) (w1 : Int64) (w2 : Int64) : f_X12_isOn c41 c42 c43 c44 w0 w1 w2 = 0 ∨ f_X12_isOn c41 c42 c43 c44 w0 w1 w2 = 1 := (ite01 (ite01 (ite01 (ite01 (Or.inl rfl) (ite01 (Or.inl rfl) (Or.inr rfl))) (ite01 (Or.inl rfl) (ite01 (Or.inl rfl) (Or.inr rfl)))) (ite01 (ite01 (Or.inl rfl) (ite01 (Or.inl rfl) (Or.inr rfl))) (ite01 (Or.inl rfl) (ite01 (Or.inl rfl) (Or.inr rfl))))) (Or.inl rfl))
set_option maxHeartbeats 8000000 in
set_option maxRecDepth 20000 in
theorem p_X12_isOn {l : Launch} {E : EE} (hl : l.stackTraces = false) {h : HP} {c41 : Nat → Int64} {c42 : Nat → Int64} {c43 : Nat → Int64} {c44 : Nat → Int64} {w0 : Int32} {w1 : Int64} {w2 : Int64} {a : Nat} {fs : List Value} (ha : ob h a = some (.inr (15, fs))) {r41 n41 : Nat} (e41 : fs[41]? = some (.ref r41)) (o41 : ob h r41 = some (.inl (1, n41, .inr (.inl c41)))) {r42 n42 : Nat} (e42 : fs[42]? = some (.ref r42)) (o42 : ob h r42 = some (.inl (1, n42, .inr (.inl c42)))) {r43 n43 : Nat} (e43 : fs[43]? = some (.ref r43)) (o43 : ob h r43 = some (.inl (1, n43, .inr (.inl c43)))) {r44 n44 : Nat} (e44 : fs[44]? = some (.ref r44)) (o44 : ob h r44 = some (.inl (1, n44, .inr (.inl c44)))) (i0 : vp_in w0 n41) (i1 : vp_in w0 n42) (i2 : vp_in w0 n43) (i3 : vp_in w0 n44) (i4 : ((f_X12_turn (c41 w0.toNatClampNeg) (c42 w0.toNatClampNeg) (c43 w0.toNatClampNeg) (c44 w0.toNatClampNeg) w1 w2) = 0) → vp_in w0 n41) (i5 : ((f_X12_turn (c41 w0.toNatClampNeg) (c42 w0.toNatClampNeg) (c43 w0.toNatClampNeg) (c44 w0.toNatClampNeg) w1 w2) = 0) → vp_in w0 n43) (i6 : ((f_X12_turn (c41 w0.toNatClampNeg) (c42 w0.toNatClampNeg) (c43 w0.toNatClampNeg) (c44 w0.toNatClampNeg) w1 w2) = 0) → (0 ≤ (lg_cmp (c41 w0.toNatClampNeg) (c43 w0.toNatClampNeg))) → vp_in w0 n43) (i7 : ((f_X12_turn (c41 w0.toNatClampNeg) (c42 w0.toNatClampNeg) (c43 w0.toNatClampNeg) (c44 w0.toNatClampNeg) w1 w2) = 0) → (0 ≤ (lg_cmp (c41 w0.toNatClampNeg) (c43 w0.toNatClampNeg))) → vp_in w0 n41) (i8 : ((f_X12_turn (c41 w0.toNatClampNeg) (c42 w0.toNatClampNeg) (c43 w0.toNatClampNeg) (c44 w0.toNatClampNeg) w1 w2) = 0) → (0 ≤ (lg_cmp (c41 w0.toNatClampNeg) (c43 w0.toNatClampNeg))) → vp_in w0 n42) (i9 : ((f_X12_turn (c41 w0.toNatClampNeg) (c42 w0.toNatClampNeg) (c43 w0.toNatClampNeg) (c44 w0.toNatClampNeg) w1 w2) = 0) → (0 ≤ (lg_cmp (c41 w0.toNatClampNeg) (c43 w0.toNatClampNeg))) → vp_in w0 n44) (i10 : ((f_X12_turn (c41 w0.toNatClampNeg) (c42 w0.toNatClampNeg) (c43 w0.toNatClampNeg) (c44 w0.toNatClampNeg) w1 w2) = 0) → (0 ≤ (lg_cmp (c41 w0.toNatClampNeg) (c43 w0.toNatClampNeg))) → (0 ≤ (lg_cmp (c42 w0.toNatClampNeg) (c44 w0.toNatClampNeg))) → vp_in w0 n44) (i11 : ((f_X12_turn (c41 w0.toNatClampNeg) (c42 w0.toNatClampNeg) (c43 w0.toNatClampNeg) (c44 w0.toNatClampNeg) w1 w2) = 0) → (0 ≤ (lg_cmp (c41 w0.toNatClampNeg) (c43 w0.toNatClampNeg))) → (0 ≤ (lg_cmp (c42 w0.toNatClampNeg) (c44 w0.toNatClampNeg))) → vp_in w0 n42) (i12 : ((f_X12_turn (c41 w0.toNatClampNeg) (c42 w0.toNatClampNeg) (c43 w0.toNatClampNeg) (c44 w0.toNatClampNeg) w1 w2) = 0) → (0 ≤ (lg_cmp (c41 w0.toNatClampNeg) (c43 w0.toNatClampNeg))) → (¬ 0 ≤ (lg_cmp (c42 w0.toNatClampNeg) (c44 w0.toNatClampNeg))) → vp_in w0 n42) (i13 : ((f_X12_turn (c41 w0.toNatClampNeg) (c42 w0.toNatClampNeg) (c43 w0.toNatClampNeg) (c44 w0.toNatClampNeg) w1 w2) = 0) → (0 ≤ (lg_cmp (c41 w0.toNatClampNeg) (c43 w0.toNatClampNeg))) → (¬ 0 ≤ (lg_cmp (c42 w0.toNatClampNeg) (c44 w0.toNatClampNeg))) → vp_in w0 n44) (i14 : ((f_X12_turn (c41 w0.toNatClampNeg) (c42 w0.toNatClampNeg) (c43 w0.toNatClampNeg) (c44 w0.toNatClampNeg) w1 w2) = 0) → (¬ 0 ≤ (lg_cmp (c41 w0.toNatClampNeg) (c43 w0.toNatClampNeg))) → vp_in w0 n41) (i15 : ((f_X12_turn (c41 w0.toNatClampNeg) (c42 w0.toNatClampNeg) (c43 w0.toNatClampNeg) (c44 w0.toNatClampNeg) w1 w2) = 0) → (¬ 0 ≤ (lg_cmp (c41 w0.toNatClampNeg) (c43 w0.toNatClampNeg))) → vp_in w0 n43) (i16 : ((f_X12_turn (c41 w0.toNatClampNeg) (c42 w0.toNatClampNeg) (c43 w0.toNatClampNeg) (c44 w0.toNatClampNeg) w1 w2) = 0) → (¬ 0 ≤ (lg_cmp (c41 w0.toNatClampNeg) (c43 w0.toNatClampNeg))) → vp_in w0 n42) (i17 : ((f_X12_turn (c41 w0.toNatClampNeg) (c42 w0.toNatClampNeg) (c43 w0.toNatClampNeg) (c44 w0.toNatClampNeg) w1 w2) = 0) → (¬ 0 ≤ (lg_cmp (c41 w0.toNatClampNeg) (c43 w0.toNatClampNeg))) → vp_in w0 n44) (i18 : ((f_X12_turn (c41 w0.toNatClampNeg) (c42 w0.toNatClampNeg) (c43 w0.toNatClampNeg) (c44 w0.toNatClampNeg) w1 w2) = 0) → (¬ 0 ≤ (lg_cmp (c41 w0.toNatClampNeg) (c43 w0.toNatClampNeg))) → (0 ≤ (lg_cmp (c42 w0.toNatClampNeg) (c44 w0.toNatClampNeg))) → vp_in w0 n44) (i19 : ((f_X12_turn (c41 w0.toNatClampNeg) (c42 w0.toNatClampNeg) (c43 w0.toNatClampNeg) (c44 w0.toNatClampNeg) w1 w2) = 0) → (¬ 0 ≤ (lg_cmp (c41 w0.toNatClampNeg) (c43 w0.toNatClampNeg))) → (0 ≤ (lg_cmp (c42 w0.toNatClampNeg) (c44 w0.toNatClampNeg))) → vp_in w0 n42) (i20 : ((f_X12_turn (c41 w0.toNatClampNeg) (c42 w0.toNatClampNeg) (c43 w0.toNatClampNeg) (c44 w0.toNatClampNeg) w1 w2) = 0) → (¬ 0 ≤ (lg_cmp (c41 w0.toNatClampNeg) (c43 w0.toNatClampNeg))) → (¬ 0 ≤ (lg_cmp (c42 w0.toNatClampNeg) (c44 w0.toNatClampNeg))) → vp_in w0 n42) (i21 : ((f_X12_turn (c41 w0.toNatClampNeg) (c42 w0.toNatClampNeg) (c43 w0.toNatClampNeg) (c44 w0.toNatClampNeg) w1 w2) = 0) → (¬ 0 ≤ (lg_cmp (c41 w0.toNatClampNeg) (c43 w0.toNatClampNeg))) → (¬ 0 ≤ (lg_cmp (c42 w0.toNatClampNeg) (c44 w0.toNatClampNeg))) → vp_in w0 n44) : en_C l E M_X12_isOn 2 0 0 [.ref a, .int w0, .long w1, .long w2] h (pR (some (.int (f_X12_isOn c41 c42 c43 c44 w0 w1 w2))) h) := by
  refine en_mk m_X12_isOn rfl hl (Nat.le_of_ble_eq_true rfl) ?_
  refine x_aload_n (M := M_X12_isOn) dX12_isOn_0 rfl ?_
  refine x_getf (M := M_X12_isOn) (ci := 15) (C := RX12) (T := TX12) (N := 135) (ty := tyX12) cl15 dX12_isOn_1 ha 41 (by decide) t_2432 e41 ?_
  refine x_iload_n (M := M_X12_isOn) dX12_isOn_4 rfl ?_
  refine x_lald (M := M_X12_isOn) dX12_isOn_5 o41 i0 ?_
  refine x_aload_n (M := M_X12_isOn) dX12_isOn_6 rfl ?_
  refine x_getf (M := M_X12_isOn) (ci := 15) (C := RX12) (T := TX12) (N := 135) (ty := tyX12) cl15 dX12_isOn_7 ha 42 (by decide) t_2433 e42 ?_
  refine x_iload_n (M := M_X12_isOn) dX12_isOn_10 rfl ?_
  refine x_lald (M := M_X12_isOn) dX12_isOn_11 o42 i1 ?_
  refine x_aload_n (M := M_X12_isOn) dX12_isOn_12 rfl ?_
  refine x_getf (M := M_X12_isOn) (ci := 15) (C := RX12) (T := TX12) (N := 135) (ty := tyX12) cl15 dX12_isOn_13 ha 43 (by decide) t_2434 e43 ?_
  refine x_iload_n (M := M_X12_isOn) dX12_isOn_16 rfl ?_
  refine x_lald (M := M_X12_isOn) dX12_isOn_17 o43 i2 ?_
  refine x_aload_n (M := M_X12_isOn) dX12_isOn_18 rfl ?_
  refine x_getf (M := M_X12_isOn) (ci := 15) (C := RX12) (T := TX12) (N := 135) (ty := tyX12) cl15 dX12_isOn_19 ha 44 (by decide) t_2435 e44 ?_
  refine x_iload_n (M := M_X12_isOn) dX12_isOn_22 rfl ?_
  refine x_lald (M := M_X12_isOn) dX12_isOn_23 o44 i3 ?_
  refine x_lload_n (M := M_X12_isOn) dX12_isOn_24 rfl ?_
  refine x_lload (M := M_X12_isOn) dX12_isOn_25 rfl ?_
  refine x_callSR (M := M_X12_isOn) (M' := M_X12_turn) rfl rfl dX12_isOn_27 m_X12_turn t_3262 t_3263 (p_X12_turn hl) rfl rfl (Nat.le_of_ble_eq_true rfl) (Nat.le_of_ble_eq_true rfl) (Nat.le_of_ble_eq_true rfl) (Nat.le_of_ble_eq_true rfl) ?_
  refine x_if_eq (M := M_X12_isOn) (tgt := 35) dX12_isOn_30 (by decide) (fun q0 => ?_) (fun q0 => ?_)
  · refine x_aload_n (M := M_X12_isOn) dX12_isOn_35 rfl ?_
    refine x_getf (M := M_X12_isOn) (ci := 15) (C := RX12) (T := TX12) (N := 135) (ty := tyX12) cl15 dX12_isOn_36 ha 41 (by decide) t_2432 e41 ?_
    refine x_iload_n (M := M_X12_isOn) dX12_isOn_39 rfl ?_
    refine x_lald (M := M_X12_isOn) dX12_isOn_40 o41 (i4 q0) ?_
    refine x_aload_n (M := M_X12_isOn) dX12_isOn_41 rfl ?_
    refine x_getf (M := M_X12_isOn) (ci := 15) (C := RX12) (T := TX12) (N := 135) (ty := tyX12) cl15 dX12_isOn_42 ha 43 (by decide) t_2434 e43 ?_
    refine x_iload_n (M := M_X12_isOn) dX12_isOn_45 rfl ?_
    refine x_lald (M := M_X12_isOn) dX12_isOn_46 o43 (i5 q0) ?_
    refine x_lcmp (M := M_X12_isOn) dX12_isOn_47 ?_
    refine x_if_ge (M := M_X12_isOn) (tgt := 70) dX12_isOn_48 (by decide) (fun q1 => ?_) (fun q1 => ?_)
    · refine x_lload_n (M := M_X12_isOn) dX12_isOn_70 rfl ?_
      refine x_aload_n (M := M_X12_isOn) dX12_isOn_71 rfl ?_
      refine x_getf (M := M_X12_isOn) (ci := 15) (C := RX12) (T := TX12) (N := 135) (ty := tyX12) cl15 dX12_isOn_72 ha 43 (by decide) t_2434 e43 ?_
      refine x_iload_n (M := M_X12_isOn) dX12_isOn_75 rfl ?_
      refine x_lald (M := M_X12_isOn) dX12_isOn_76 o43 (i6 q0 q1) ?_
      refine x_aload_n (M := M_X12_isOn) dX12_isOn_77 rfl ?_
      refine x_getf (M := M_X12_isOn) (ci := 15) (C := RX12) (T := TX12) (N := 135) (ty := tyX12) cl15 dX12_isOn_78 ha 41 (by decide) t_2432 e41 ?_
      refine x_iload_n (M := M_X12_isOn) dX12_isOn_81 rfl ?_
      refine x_lald (M := M_X12_isOn) dX12_isOn_82 o41 (i7 q0 q1) ?_
      refine x_callSR (M := M_X12_isOn) (M' := M_X12_in) rfl rfl dX12_isOn_83 m_X12_in t_2818 t_2819 (p_X12_in hl) rfl rfl (Nat.le_of_ble_eq_true rfl) (Nat.le_of_ble_eq_true rfl) (Nat.le_of_ble_eq_true rfl) (Nat.le_of_ble_eq_true rfl) ?_
      refine x_istore (M := M_X12_isOn) dX12_isOn_86 (by decide) rfl ?_
      refine x_norm (lv' := [some (.ref a), some (.int w0), some (.long w1), none, some (.long w2), none, some (.int (f_X12_in w1 (c43 w0.toNatClampNeg) (c41 w0.toNatClampNeg))), none]) rfl rfl rfl rfl rfl ?_
      refine x_aload_n (M := M_X12_isOn) dX12_isOn_88 rfl ?_
      refine x_getf (M := M_X12_isOn) (ci := 15) (C := RX12) (T := TX12) (N := 135) (ty := tyX12) cl15 dX12_isOn_89 ha 42 (by decide) t_2433 e42 ?_
      refine x_iload_n (M := M_X12_isOn) dX12_isOn_92 rfl ?_
      refine x_lald (M := M_X12_isOn) dX12_isOn_93 o42 (i8 q0 q1) ?_
      refine x_aload_n (M := M_X12_isOn) dX12_isOn_94 rfl ?_
      refine x_getf (M := M_X12_isOn) (ci := 15) (C := RX12) (T := TX12) (N := 135) (ty := tyX12) cl15 dX12_isOn_95 ha 44 (by decide) t_2435 e44 ?_
      refine x_iload_n (M := M_X12_isOn) dX12_isOn_98 rfl ?_
      refine x_lald (M := M_X12_isOn) dX12_isOn_99 o44 (i9 q0 q1) ?_
      refine x_lcmp (M := M_X12_isOn) dX12_isOn_100 ?_
      refine x_if_ge (M := M_X12_isOn) (tgt := 124) dX12_isOn_101 (by decide) (fun q2 => ?_) (fun q2 => ?_)
      · refine x_lload (M := M_X12_isOn) dX12_isOn_124 rfl ?_
        refine x_aload_n (M := M_X12_isOn) dX12_isOn_126 rfl ?_
        refine x_getf (M := M_X12_isOn) (ci := 15) (C := RX12) (T := TX12) (N := 135) (ty := tyX12) cl15 dX12_isOn_127 ha 44 (by decide) t_2435 e44 ?_
        refine x_iload_n (M := M_X12_isOn) dX12_isOn_130 rfl ?_
        refine x_lald (M := M_X12_isOn) dX12_isOn_131 o44 (i10 q0 q1 q2) ?_
        refine x_aload_n (M := M_X12_isOn) dX12_isOn_132 rfl ?_
        refine x_getf (M := M_X12_isOn) (ci := 15) (C := RX12) (T := TX12) (N := 135) (ty := tyX12) cl15 dX12_isOn_133 ha 42 (by decide) t_2433 e42 ?_
        refine x_iload_n (M := M_X12_isOn) dX12_isOn_136 rfl ?_
        refine x_lald (M := M_X12_isOn) dX12_isOn_137 o42 (i11 q0 q1 q2) ?_
        refine x_callSR (M := M_X12_isOn) (M' := M_X12_in) rfl rfl dX12_isOn_138 m_X12_in t_2818 t_2819 (p_X12_in hl) rfl rfl (Nat.le_of_ble_eq_true rfl) (Nat.le_of_ble_eq_true rfl) (Nat.le_of_ble_eq_true rfl) (Nat.le_of_ble_eq_true rfl) ?_
        refine x_istore (M := M_X12_isOn) dX12_isOn_141 (by decide) rfl ?_
        refine x_norm (lv' := [some (.ref a), some (.int w0), some (.long w1), none, some (.long w2), none, some (.int (f_X12_in w1 (c43 w0.toNatClampNeg) (c41 w0.toNatClampNeg))), some (.int (f_X12_in w2 (c44 w0.toNatClampNeg) (c42 w0.toNatClampNeg)))]) rfl rfl rfl rfl rfl ?_
        refine x_iload (M := M_X12_isOn) dX12_isOn_143 rfl ?_
        refine x_if_eq (M := M_X12_isOn) (tgt := 157) dX12_isOn_145 (by decide) (fun q3 => ?_) (fun q3 => ?_)
        · refine x_iconst (M := M_X12_isOn) dX12_isOn_157 ?_
          exact x_zret (M := M_X12_isOn) dX12_isOn_158 rfl (Or.inl rfl) ⟨by rw [f_X12_isOn, if_pos q0, if_pos q1, if_pos q2, if_pos q3], rfl⟩ (Nat.le_of_ble_eq_true rfl) (Nat.le_of_ble_eq_true rfl)
        · refine x_iload (M := M_X12_isOn) dX12_isOn_148 rfl ?_
          refine x_if_eq (M := M_X12_isOn) (tgt := 157) dX12_isOn_150 (by decide) (fun q4 => ?_) (fun q4 => ?_)
          · refine x_iconst (M := M_X12_isOn) dX12_isOn_157 ?_
            exact x_zret (M := M_X12_isOn) dX12_isOn_158 rfl (Or.inl rfl) ⟨by rw [f_X12_isOn, if_pos q0, if_pos q1, if_pos q2, if_neg q3, if_pos q4], rfl⟩ (Nat.le_of_ble_eq_true rfl) (Nat.le_of_ble_eq_true rfl)
          · refine x_iconst (M := M_X12_isOn) dX12_isOn_153 ?_
            refine x_goto (M := M_X12_isOn) (tgt := 158) dX12_isOn_154 (by decide) ?_
            exact x_zret (M := M_X12_isOn) dX12_isOn_158 rfl (Or.inr rfl) ⟨by rw [f_X12_isOn, if_pos q0, if_pos q1, if_pos q2, if_neg q3, if_neg q4], rfl⟩ (Nat.le_of_ble_eq_true rfl) (Nat.le_of_ble_eq_true rfl)
      · refine x_lload (M := M_X12_isOn) dX12_isOn_104 rfl ?_
        refine x_aload_n (M := M_X12_isOn) dX12_isOn_106 rfl ?_
        refine x_getf (M := M_X12_isOn) (ci := 15) (C := RX12) (T := TX12) (N := 135) (ty := tyX12) cl15 dX12_isOn_107 ha 42 (by decide) t_2433 e42 ?_
        refine x_iload_n (M := M_X12_isOn) dX12_isOn_110 rfl ?_
        refine x_lald (M := M_X12_isOn) dX12_isOn_111 o42 (i12 q0 q1 q2) ?_
        refine x_aload_n (M := M_X12_isOn) dX12_isOn_112 rfl ?_
        refine x_getf (M := M_X12_isOn) (ci := 15) (C := RX12) (T := TX12) (N := 135) (ty := tyX12) cl15 dX12_isOn_113 ha 44 (by decide) t_2435 e44 ?_
        refine x_iload_n (M := M_X12_isOn) dX12_isOn_116 rfl ?_
        refine x_lald (M := M_X12_isOn) dX12_isOn_117 o44 (i13 q0 q1 q2) ?_
        refine x_callSR (M := M_X12_isOn) (M' := M_X12_in) rfl rfl dX12_isOn_118 m_X12_in t_2818 t_2819 (p_X12_in hl) rfl rfl (Nat.le_of_ble_eq_true rfl) (Nat.le_of_ble_eq_true rfl) (Nat.le_of_ble_eq_true rfl) (Nat.le_of_ble_eq_true rfl) ?_
        refine x_goto (M := M_X12_isOn) (tgt := 141) dX12_isOn_121 (by decide) ?_
        refine x_istore (M := M_X12_isOn) dX12_isOn_141 (by decide) rfl ?_
        refine x_norm (lv' := [some (.ref a), some (.int w0), some (.long w1), none, some (.long w2), none, some (.int (f_X12_in w1 (c43 w0.toNatClampNeg) (c41 w0.toNatClampNeg))), some (.int (f_X12_in w2 (c42 w0.toNatClampNeg) (c44 w0.toNatClampNeg)))]) rfl rfl rfl rfl rfl ?_
        refine x_iload (M := M_X12_isOn) dX12_isOn_143 rfl ?_
        refine x_if_eq (M := M_X12_isOn) (tgt := 157) dX12_isOn_145 (by decide) (fun q3 => ?_) (fun q3 => ?_)
        · refine x_iconst (M := M_X12_isOn) dX12_isOn_157 ?_
          exact x_zret (M := M_X12_isOn) dX12_isOn_158 rfl (Or.inl rfl) ⟨by rw [f_X12_isOn, if_pos q0, if_pos q1, if_neg q2, if_pos q3], rfl⟩ (Nat.le_of_ble_eq_true rfl) (Nat.le_of_ble_eq_true rfl)
        · refine x_iload (M := M_X12_isOn) dX12_isOn_148 rfl ?_
          refine x_if_eq (M := M_X12_isOn) (tgt := 157) dX12_isOn_150 (by decide) (fun q4 => ?_) (fun q4 => ?_)
          · refine x_iconst (M := M_X12_isOn) dX12_isOn_157 ?_
            exact x_zret (M := M_X12_isOn) dX12_isOn_158 rfl (Or.inl rfl) ⟨by rw [f_X12_isOn, if_pos q0, if_pos q1, if_neg q2, if_neg q3, if_pos q4], rfl⟩ (Nat.le_of_ble_eq_true rfl) (Nat.le_of_ble_eq_true rfl)
          · refine x_iconst (M := M_X12_isOn) dX12_isOn_153 ?_
            refine x_goto (M := M_X12_isOn) (tgt := 158) dX12_isOn_154 (by decide) ?_
            exact x_zret (M := M_X12_isOn) dX12_isOn_158 rfl (Or.inr rfl) ⟨by rw [f_X12_isOn, if_pos q0, if_pos q1, if_neg q2, if_neg q3, if_neg q4], rfl⟩ (Nat.le_of_ble_eq_true rfl) (Nat.le_of_ble_eq_true rfl)
    · refine x_lload_n (M := M_X12_isOn) dX12_isOn_51 rfl ?_
      refine x_aload_n (M := M_X12_isOn) dX12_isOn_52 rfl ?_
      refine x_getf (M := M_X12_isOn) (ci := 15) (C := RX12) (T := TX12) (N := 135) (ty := tyX12) cl15 dX12_isOn_53 ha 41 (by decide) t_2432 e41 ?_
      refine x_iload_n (M := M_X12_isOn) dX12_isOn_56 rfl ?_
      refine x_lald (M := M_X12_isOn) dX12_isOn_57 o41 (i14 q0 q1) ?_
      refine x_aload_n (M := M_X12_isOn) dX12_isOn_58 rfl ?_
      refine x_getf (M := M_X12_isOn) (ci := 15) (C := RX12) (T := TX12) (N := 135) (ty := tyX12) cl15 dX12_isOn_59 ha 43 (by decide) t_2434 e43 ?_
      refine x_iload_n (M := M_X12_isOn) dX12_isOn_62 rfl ?_
      refine x_lald (M := M_X12_isOn) dX12_isOn_63 o43 (i15 q0 q1) ?_
      refine x_callSR (M := M_X12_isOn) (M' := M_X12_in) rfl rfl dX12_isOn_64 m_X12_in t_2818 t_2819 (p_X12_in hl) rfl rfl (Nat.le_of_ble_eq_true rfl) (Nat.le_of_ble_eq_true rfl) (Nat.le_of_ble_eq_true rfl) (Nat.le_of_ble_eq_true rfl) ?_
      refine x_goto (M := M_X12_isOn) (tgt := 86) dX12_isOn_67 (by decide) ?_
      refine x_istore (M := M_X12_isOn) dX12_isOn_86 (by decide) rfl ?_
      refine x_norm (lv' := [some (.ref a), some (.int w0), some (.long w1), none, some (.long w2), none, some (.int (f_X12_in w1 (c41 w0.toNatClampNeg) (c43 w0.toNatClampNeg))), none]) rfl rfl rfl rfl rfl ?_
      refine x_aload_n (M := M_X12_isOn) dX12_isOn_88 rfl ?_
      refine x_getf (M := M_X12_isOn) (ci := 15) (C := RX12) (T := TX12) (N := 135) (ty := tyX12) cl15 dX12_isOn_89 ha 42 (by decide) t_2433 e42 ?_
      refine x_iload_n (M := M_X12_isOn) dX12_isOn_92 rfl ?_
      refine x_lald (M := M_X12_isOn) dX12_isOn_93 o42 (i16 q0 q1) ?_
      refine x_aload_n (M := M_X12_isOn) dX12_isOn_94 rfl ?_
      refine x_getf (M := M_X12_isOn) (ci := 15) (C := RX12) (T := TX12) (N := 135) (ty := tyX12) cl15 dX12_isOn_95 ha 44 (by decide) t_2435 e44 ?_
      refine x_iload_n (M := M_X12_isOn) dX12_isOn_98 rfl ?_
      refine x_lald (M := M_X12_isOn) dX12_isOn_99 o44 (i17 q0 q1) ?_
      refine x_lcmp (M := M_X12_isOn) dX12_isOn_100 ?_
      refine x_if_ge (M := M_X12_isOn) (tgt := 124) dX12_isOn_101 (by decide) (fun q2 => ?_) (fun q2 => ?_)
      · refine x_lload (M := M_X12_isOn) dX12_isOn_124 rfl ?_
        refine x_aload_n (M := M_X12_isOn) dX12_isOn_126 rfl ?_
        refine x_getf (M := M_X12_isOn) (ci := 15) (C := RX12) (T := TX12) (N := 135) (ty := tyX12) cl15 dX12_isOn_127 ha 44 (by decide) t_2435 e44 ?_
        refine x_iload_n (M := M_X12_isOn) dX12_isOn_130 rfl ?_
        refine x_lald (M := M_X12_isOn) dX12_isOn_131 o44 (i18 q0 q1 q2) ?_
        refine x_aload_n (M := M_X12_isOn) dX12_isOn_132 rfl ?_
        refine x_getf (M := M_X12_isOn) (ci := 15) (C := RX12) (T := TX12) (N := 135) (ty := tyX12) cl15 dX12_isOn_133 ha 42 (by decide) t_2433 e42 ?_
        refine x_iload_n (M := M_X12_isOn) dX12_isOn_136 rfl ?_
        refine x_lald (M := M_X12_isOn) dX12_isOn_137 o42 (i19 q0 q1 q2) ?_
        refine x_callSR (M := M_X12_isOn) (M' := M_X12_in) rfl rfl dX12_isOn_138 m_X12_in t_2818 t_2819 (p_X12_in hl) rfl rfl (Nat.le_of_ble_eq_true rfl) (Nat.le_of_ble_eq_true rfl) (Nat.le_of_ble_eq_true rfl) (Nat.le_of_ble_eq_true rfl) ?_
        refine x_istore (M := M_X12_isOn) dX12_isOn_141 (by decide) rfl ?_
        refine x_norm (lv' := [some (.ref a), some (.int w0), some (.long w1), none, some (.long w2), none, some (.int (f_X12_in w1 (c41 w0.toNatClampNeg) (c43 w0.toNatClampNeg))), some (.int (f_X12_in w2 (c44 w0.toNatClampNeg) (c42 w0.toNatClampNeg)))]) rfl rfl rfl rfl rfl ?_
        refine x_iload (M := M_X12_isOn) dX12_isOn_143 rfl ?_
        refine x_if_eq (M := M_X12_isOn) (tgt := 157) dX12_isOn_145 (by decide) (fun q3 => ?_) (fun q3 => ?_)
        · refine x_iconst (M := M_X12_isOn) dX12_isOn_157 ?_
          exact x_zret (M := M_X12_isOn) dX12_isOn_158 rfl (Or.inl rfl) ⟨by rw [f_X12_isOn, if_pos q0, if_neg q1, if_pos q2, if_pos q3], rfl⟩ (Nat.le_of_ble_eq_true rfl) (Nat.le_of_ble_eq_true rfl)
        · refine x_iload (M := M_X12_isOn) dX12_isOn_148 rfl ?_
          refine x_if_eq (M := M_X12_isOn) (tgt := 157) dX12_isOn_150 (by decide) (fun q4 => ?_) (fun q4 => ?_)
          · refine x_iconst (M := M_X12_isOn) dX12_isOn_157 ?_
            exact x_zret (M := M_X12_isOn) dX12_isOn_158 rfl (Or.inl rfl) ⟨by rw [f_X12_isOn, if_pos q0, if_neg q1, if_pos q2, if_neg q3, if_pos q4], rfl⟩ (Nat.le_of_ble_eq_true rfl) (Nat.le_of_ble_eq_true rfl)
          · refine x_iconst (M := M_X12_isOn) dX12_isOn_153 ?_
            refine x_goto (M := M_X12_isOn) (tgt := 158) dX12_isOn_154 (by decide) ?_
            exact x_zret (M := M_X12_isOn) dX12_isOn_158 rfl (Or.inr rfl) ⟨by rw [f_X12_isOn, if_pos q0, if_neg q1, if_pos q2, if_neg q3, if_neg q4], rfl⟩ (Nat.le_of_ble_eq_true rfl) (Nat.le_of_ble_eq_true rfl)
      · refine x_lload (M := M_X12_isOn) dX12_isOn_104 rfl ?_
        refine x_aload_n (M := M_X12_isOn) dX12_isOn_106 rfl ?_
        refine x_getf (M := M_X12_isOn) (ci := 15) (C := RX12) (T := TX12) (N := 135) (ty := tyX12) cl15 dX12_isOn_107 ha 42 (by decide) t_2433 e42 ?_
        refine x_iload_n (M := M_X12_isOn) dX12_isOn_110 rfl ?_
        refine x_lald (M := M_X12_isOn) dX12_isOn_111 o42 (i20 q0 q1 q2) ?_
        refine x_aload_n (M := M_X12_isOn) dX12_isOn_112 rfl ?_
        refine x_getf (M := M_X12_isOn) (ci := 15) (C := RX12) (T := TX12) (N := 135) (ty := tyX12) cl15 dX12_isOn_113 ha 44 (by decide) t_2435 e44 ?_
        refine x_iload_n (M := M_X12_isOn) dX12_isOn_116 rfl ?_
        refine x_lald (M := M_X12_isOn) dX12_isOn_117 o44 (i21 q0 q1 q2) ?_
        refine x_callSR (M := M_X12_isOn) (M' := M_X12_in) rfl rfl dX12_isOn_118 m_X12_in t_2818 t_2819 (p_X12_in hl) rfl rfl (Nat.le_of_ble_eq_true rfl) (Nat.le_of_ble_eq_true rfl) (Nat.le_of_ble_eq_true rfl) (Nat.le_of_ble_eq_true rfl) ?_
        refine x_goto (M := M_X12_isOn) (tgt := 141) dX12_isOn_121 (by decide) ?_
        refine x_istore (M := M_X12_isOn) dX12_isOn_141 (by decide) rfl ?_
        refine x_norm (lv' := [some (.ref a), some (.int w0), some (.long w1), none, some (.long w2), none, some (.int (f_X12_in w1 (c41 w0.toNatClampNeg) (c43 w0.toNatClampNeg))), some (.int (f_X12_in w2 (c42 w0.toNatClampNeg) (c44 w0.toNatClampNeg)))]) rfl rfl rfl rfl rfl ?_
        refine x_iload (M := M_X12_isOn) dX12_isOn_143 rfl ?_
        refine x_if_eq (M := M_X12_isOn) (tgt := 157) dX12_isOn_145 (by decide) (fun q3 => ?_) (fun q3 => ?_)
        · refine x_iconst (M := M_X12_isOn) dX12_isOn_157 ?_
          exact x_zret (M := M_X12_isOn) dX12_isOn_158 rfl (Or.inl rfl) ⟨by rw [f_X12_isOn, if_pos q0, if_neg q1, if_neg q2, if_pos q3], rfl⟩ (Nat.le_of_ble_eq_true rfl) (Nat.le_of_ble_eq_true rfl)
        · refine x_iload (M := M_X12_isOn) dX12_isOn_148 rfl ?_
          refine x_if_eq (M := M_X12_isOn) (tgt := 157) dX12_isOn_150 (by decide) (fun q4 => ?_) (fun q4 => ?_)
          · refine x_iconst (M := M_X12_isOn) dX12_isOn_157 ?_
            exact x_zret (M := M_X12_isOn) dX12_isOn_158 rfl (Or.inl rfl) ⟨by rw [f_X12_isOn, if_pos q0, if_neg q1, if_neg q2, if_neg q3, if_pos q4], rfl⟩ (Nat.le_of_ble_eq_true rfl) (Nat.le_of_ble_eq_true rfl)
          · refine x_iconst (M := M_X12_isOn) dX12_isOn_153 ?_
            refine x_goto (M := M_X12_isOn) (tgt := 158) dX12_isOn_154 (by decide) ?_
            exact x_zret (M := M_X12_isOn) dX12_isOn_158 rfl (Or.inr rfl) ⟨by rw [f_X12_isOn, if_pos q0, if_neg q1, if_neg q2, if_neg q3, if_neg q4], rfl⟩ (Nat.le_of_ble_eq_true rfl) (Nat.le_of_ble_eq_true rfl)
  · refine x_iconst (M := M_X12_isOn) dX12_isOn_33 ?_
    exact x_zret (M := M_X12_isOn) dX12_isOn_34 rfl (Or.inl rfl) ⟨by rw [f_X12_isOn, if_neg q0], rfl⟩ (Nat.le_of_ble_eq_true rfl) (Nat.le_of_ble_eq_true rfl)
end PUR
