section PUR
def f_X5_turn (c0 : Nat → Int32) (c1 : Nat → Int32) (c2 : Nat → Int32) (c3 : Nat → Int32) (w0 : Int32) (w1 : Int32) (w2 : Int32) : Int32 := (f_X11_turnOf ((c0 w0.toNatClampNeg).toInt64) ((c1 w0.toNatClampNeg).toInt64) ((c2 w0.toNatClampNeg).toInt64) ((c3 w0.toNatClampNeg).toInt64) (w1.toInt64) (w2.toInt64))
theorem p_X5_turn {l : Launch} {E : EE} (hl : l.stackTraces = false) {h : HP} {c0 : Nat → Int32} {c1 : Nat → Int32} {c2 : Nat → Int32} {c3 : Nat → Int32} {w0 : Int32} {w1 : Int32} {w2 : Int32} {a : Nat} {fs : List Value} (ha : ob h a = some (.inr (8, fs))) {r0 n0 : Nat} (e0 : fs[0]? = some (.ref r0)) (o0 : ob h r0 = some (.inl (0, n0, .inl c0))) {r1 n1 : Nat} (e1 : fs[1]? = some (.ref r1)) (o1 : ob h r1 = some (.inl (0, n1, .inl c1))) {r2 n2 : Nat} (e2 : fs[2]? = some (.ref r2)) (o2 : ob h r2 = some (.inl (0, n2, .inl c2))) {r3 n3 : Nat} (e3 : fs[3]? = some (.ref r3)) (o3 : ob h r3 = some (.inl (0, n3, .inl c3))) (i0 : vp_in w0 n0) (i1 : vp_in w0 n1) (i2 : vp_in w0 n2) (i3 : vp_in w0 n3) : en_C l E M_X5_turn 2 0 0 [.ref a, .int w0, .int w1, .int w2] h (pR (some (.int (f_X5_turn c0 c1 c2 c3 w0 w1 w2))) h) := by
  refine en_mk m_X5_turn rfl hl (Nat.le_of_ble_eq_true rfl) ?_
  refine x_aload_n (M := M_X5_turn) dX5_turn_0 rfl ?_
  refine x_getf (M := M_X5_turn) (ci := 8) (C := RX5) (T := TX5) (N := 8) (ty := tyX5) cl8 dX5_turn_1 ha 0 (by decide) t_234 e0 ?_
  refine x_iload_n (M := M_X5_turn) dX5_turn_4 rfl ?_
  refine x_iald (M := M_X5_turn) dX5_turn_5 o0 i0 ?_
  refine x_i2l (M := M_X5_turn) dX5_turn_6 ?_
  refine x_aload_n (M := M_X5_turn) dX5_turn_7 rfl ?_
  refine x_getf (M := M_X5_turn) (ci := 8) (C := RX5) (T := TX5) (N := 8) (ty := tyX5) cl8 dX5_turn_8 ha 1 (by decide) t_238 e1 ?_
  refine x_iload_n (M := M_X5_turn) dX5_turn_11 rfl ?_
  refine x_iald (M := M_X5_turn) dX5_turn_12 o1 i1 ?_
  refine x_i2l (M := M_X5_turn) dX5_turn_13 ?_
  refine x_aload_n (M := M_X5_turn) dX5_turn_14 rfl ?_
  refine x_getf (M := M_X5_turn) (ci := 8) (C := RX5) (T := TX5) (N := 8) (ty := tyX5) cl8 dX5_turn_15 ha 2 (by decide) t_242 e2 ?_
  refine x_iload_n (M := M_X5_turn) dX5_turn_18 rfl ?_
  refine x_iald (M := M_X5_turn) dX5_turn_19 o2 i2 ?_
  refine x_i2l (M := M_X5_turn) dX5_turn_20 ?_
  refine x_aload_n (M := M_X5_turn) dX5_turn_21 rfl ?_
  refine x_getf (M := M_X5_turn) (ci := 8) (C := RX5) (T := TX5) (N := 8) (ty := tyX5) cl8 dX5_turn_22 ha 3 (by decide) t_246 e3 ?_
  refine x_iload_n (M := M_X5_turn) dX5_turn_25 rfl ?_
  refine x_iald (M := M_X5_turn) dX5_turn_26 o3 i3 ?_
  refine x_i2l (M := M_X5_turn) dX5_turn_27 ?_
  refine x_iload_n (M := M_X5_turn) dX5_turn_28 rfl ?_
  refine x_i2l (M := M_X5_turn) dX5_turn_29 ?_
  refine x_iload_n (M := M_X5_turn) dX5_turn_30 rfl ?_
  refine x_i2l (M := M_X5_turn) dX5_turn_31 ?_
  refine x_callSNR (M := M_X5_turn) (M' := M_X11_turnOf) rfl rfl dX5_turn_32 m_X11_turnOf n_1264 t_1265 (p_X11_turnOf hl) rfl rfl (Nat.le_of_ble_eq_true rfl) (Nat.le_of_ble_eq_true rfl) (Nat.le_of_ble_eq_true rfl) (Nat.le_of_ble_eq_true rfl) ?_
  exact x_iret (M := M_X5_turn) dX5_turn_35 rfl ⟨rfl, rfl⟩ (Nat.le_of_ble_eq_true rfl) (Nat.le_of_ble_eq_true rfl)
def f_X5_holds (c0 : Nat → Int32) (c1 : Nat → Int32) (c2 : Nat → Int32) (c3 : Nat → Int32) (w0 : Int32) (w1 : Int32) (w2 : Int32) : Int32 := (f_X11_isOnSegment (c0 w0.toNatClampNeg) (c1 w0.toNatClampNeg) (c2 w0.toNatClampNeg) (c3 w0.toNatClampNeg) w1 w2)
theorem b_X5_holds (c0 : Nat → Int32) (c1 : Nat → Int32) (c2 : Nat → Int32) (c3 : Nat → Int32) (w0 : Int32) (w1 : Int32) (w2 : Int32) : f_X5_holds c0 c1 c2 c3 w0 w1 w2 = 0 ∨ f_X5_holds c0 c1 c2 c3 w0 w1 w2 = 1 := (b_X11_isOnSegment _ _ _ _ _ _)
theorem p_X5_holds {l : Launch} {E : EE} (hl : l.stackTraces = false) {h : HP} {c0 : Nat → Int32} {c1 : Nat → Int32} {c2 : Nat → Int32} {c3 : Nat → Int32} {w0 : Int32} {w1 : Int32} {w2 : Int32} {a : Nat} {fs : List Value} (ha : ob h a = some (.inr (8, fs))) {r0 n0 : Nat} (e0 : fs[0]? = some (.ref r0)) (o0 : ob h r0 = some (.inl (0, n0, .inl c0))) {r1 n1 : Nat} (e1 : fs[1]? = some (.ref r1)) (o1 : ob h r1 = some (.inl (0, n1, .inl c1))) {r2 n2 : Nat} (e2 : fs[2]? = some (.ref r2)) (o2 : ob h r2 = some (.inl (0, n2, .inl c2))) {r3 n3 : Nat} (e3 : fs[3]? = some (.ref r3)) (o3 : ob h r3 = some (.inl (0, n3, .inl c3))) (i0 : vp_in w0 n0) (i1 : vp_in w0 n1) (i2 : vp_in w0 n2) (i3 : vp_in w0 n3) : en_C l E M_X5_holds 3 0 0 [.ref a, .int w0, .int w1, .int w2] h (pR (some (.int (f_X5_holds c0 c1 c2 c3 w0 w1 w2))) h) := by
  refine en_mk m_X5_holds rfl hl (Nat.le_of_ble_eq_true rfl) ?_
  refine x_aload_n (M := M_X5_holds) dX5_holds_0 rfl ?_
  refine x_getf (M := M_X5_holds) (ci := 8) (C := RX5) (T := TX5) (N := 8) (ty := tyX5) cl8 dX5_holds_1 ha 0 (by decide) t_234 e0 ?_
  refine x_iload_n (M := M_X5_holds) dX5_holds_4 rfl ?_
  refine x_iald (M := M_X5_holds) dX5_holds_5 o0 i0 ?_
  refine x_aload_n (M := M_X5_holds) dX5_holds_6 rfl ?_
  refine x_getf (M := M_X5_holds) (ci := 8) (C := RX5) (T := TX5) (N := 8) (ty := tyX5) cl8 dX5_holds_7 ha 1 (by decide) t_238 e1 ?_
  refine x_iload_n (M := M_X5_holds) dX5_holds_10 rfl ?_
  refine x_iald (M := M_X5_holds) dX5_holds_11 o1 i1 ?_
  refine x_aload_n (M := M_X5_holds) dX5_holds_12 rfl ?_
  refine x_getf (M := M_X5_holds) (ci := 8) (C := RX5) (T := TX5) (N := 8) (ty := tyX5) cl8 dX5_holds_13 ha 2 (by decide) t_242 e2 ?_
  refine x_iload_n (M := M_X5_holds) dX5_holds_16 rfl ?_
  refine x_iald (M := M_X5_holds) dX5_holds_17 o2 i2 ?_
  refine x_aload_n (M := M_X5_holds) dX5_holds_18 rfl ?_
  refine x_getf (M := M_X5_holds) (ci := 8) (C := RX5) (T := TX5) (N := 8) (ty := tyX5) cl8 dX5_holds_19 ha 3 (by decide) t_246 e3 ?_
  refine x_iload_n (M := M_X5_holds) dX5_holds_22 rfl ?_
  refine x_iald (M := M_X5_holds) dX5_holds_23 o3 i3 ?_
  refine x_iload_n (M := M_X5_holds) dX5_holds_24 rfl ?_
  refine x_iload_n (M := M_X5_holds) dX5_holds_25 rfl ?_
  refine x_callSNR (M := M_X5_holds) (M' := M_X11_isOnSegment) rfl rfl dX5_holds_26 m_X11_isOnSegment n_1959 t_1320 (p_X11_isOnSegment hl) rfl rfl (Nat.le_of_ble_eq_true rfl) (Nat.le_of_ble_eq_true rfl) (Nat.le_of_ble_eq_true rfl) (Nat.le_of_ble_eq_true rfl) ?_
  exact x_zret (M := M_X5_holds) dX5_holds_29 rfl (b_X11_isOnSegment _ _ _ _ _ _) ⟨rfl, rfl⟩ (Nat.le_of_ble_eq_true rfl) (Nat.le_of_ble_eq_true rfl)
end PUR
