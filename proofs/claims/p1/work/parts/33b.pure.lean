section PUR
theorem ite01 {c : Prop} [Decidable c] {x y : Int32} (hx : x = 0 ∨ x = 1) (hy : y = 0 ∨ y = 1) : (if c then x else y) = 0 ∨ (if c then x else y) = 1 := by split <;> assumption
theorem gs_ne {fs : List Value} {i k : Nat} {v w : Value} (h : i ≠ k) (e : fs[k]? = some w) : (fs.set i v)[k]? = some w := by rw [List.getElem?_set_ne h]; exact e
theorem gs_eq {fs : List Value} {k : Nat} {v : Value} (h : k < fs.length) : (fs.set k v)[k]? = some v := List.getElem?_set_self h
theorem ob_oth {h : HP} {a r : Nat} {x : Nat × List Value} {y : Nat × vp_A} {e : PEnt} (ha : ob h a = some (.inr x)) (ho : ob h r = some (.inl y)) : ob (stt h a e) r = some (.inl y) := by
  have : a ≠ r := by
    intro q
    subst q
    rw [ha] at ho
    cases ho
  rw [ob_ne this (ob_at ha).1]
  exact ho
theorem ob_df {h : HP} {a r : Nat} {x : Nat × List Value} {y : Nat × vp_A} (ha : ob h a = some (.inr x)) (ho : ob h r = some (.inl y)) : a ≠ r := by
  intro q
  subst q
  rw [ha] at ho
  cases ho
theorem ob_up {h : HP} {x b : Nat} {v e : PEnt} (n : x ≠ b) (hx : ¬ x < 32) (o : ob h b = some v) : ob (stt h x e) b = some v := by
  rw [ob_ne n hx]
  exact o
theorem stt_sw {h : HP} {x y : Nat} {e e' : PEnt} (n : x ≠ y) (hx : ¬ x < 32) (hy : ¬ y < 32) : stt (stt h x e) y e' = stt (stt h y e') x e := by
  unfold stt
  exact List.set_comm _ _ (by omega)
theorem gi {c : Prop} [Decidable c] {X Y : List Value} {k : Nat} {x y : Int32} (h1 : X[k]? = some (.int x)) (h2 : Y[k]? = some (.int y)) : (if c then X else Y)[k]? = some (.int (if c then x else y)) := by split <;> assumption
theorem gj {c : Prop} [Decidable c] {X Y : List Value} {k : Nat} {x y : Int64} (h1 : X[k]? = some (.long x)) (h2 : Y[k]? = some (.long y)) : (if c then X else Y)[k]? = some (.long (if c then x else y)) := by split <;> assumption
def f_X0_fail (g6 : Int32) (w0 : Int32) : Int32 := (Int32.ofInt 0)
theorem b_X0_fail (g6 : Int32) (w0 : Int32) : f_X0_fail g6 w0 = 0 ∨ f_X0_fail g6 w0 = 1 := (Or.inl rfl)
def F_X0_fail (fs : List Value) (g6 : Int32) (w0 : Int32) : List Value := ((fs.set 11 (.int w0)).set 12 (.int g6))
theorem l_X0_fail {fs : List Value} {g6 : Int32} {w0 : Int32} : (F_X0_fail fs g6 w0).length = fs.length := by
  unfold F_X0_fail
  first | rfl | simp only [List.length_set]
theorem k_X0_fail {fs : List Value} {g6 : Int32} {w0 : Int32} {k : Nat} (hk : k ∉ ([11, 12] : List Nat)) : (F_X0_fail fs g6 w0)[k]? = fs[k]? := by
  simp only [List.mem_cons, List.not_mem_nil, or_false, not_or] at hk
  unfold F_X0_fail
  first | rfl | simp only [List.getElem?_set_ne (by omega : 11 ≠ k), List.getElem?_set_ne (by omega : 12 ≠ k)]
def V11_X0_fail (g6 : Int32) (w0 : Int32) : Int32 := w0
theorem v11_X0_fail {fs : List Value} {g6 : Int32} {w0 : Int32} (hn : fs.length = 13) (e6 : fs[6]? = some (.int g6)) : (F_X0_fail fs g6 w0)[11]? = some (.int (V11_X0_fail g6 w0)) := by
  unfold F_X0_fail V11_X0_fail
  exact (gs_ne (by decide) (gs_eq (by simp only [List.length_set, hn]; decide)))
def V12_X0_fail (g6 : Int32) (w0 : Int32) : Int32 := g6
theorem v12_X0_fail {fs : List Value} {g6 : Int32} {w0 : Int32} (hn : fs.length = 13) (e6 : fs[6]? = some (.int g6)) : (F_X0_fail fs g6 w0)[12]? = some (.int (V12_X0_fail g6 w0)) := by
  unfold F_X0_fail V12_X0_fail
  exact (gs_eq (by simp only [List.length_set, hn]; decide))
theorem p_X0_fail {l : Launch} {E : EE} (hl : l.stackTraces = false) {h : HP} {g6 : Int32} {w0 : Int32} {a : Nat} {fs : List Value} (ha : ob h a = some (.inr (3, fs))) (hn : fs.length = 13) (e6 : fs[6]? = some (.int g6)) : en_C l E M_X0_fail 0 0 0 [.ref a, .int w0] h (pR (some (.int (f_X0_fail g6 w0))) (stt h a (.inr (3, F_X0_fail fs g6 w0)))) := by
  refine en_mk m_X0_fail rfl hl (Nat.le_of_ble_eq_true rfl) ?_
  refine x_heap (h' := (stt h a (.inr (3, fs)))) (by rw [stt_id ha]) ?_
  refine x_aload_n (M := M_X0_fail) dX0_fail_0 rfl ?_
  refine x_iload_n (M := M_X0_fail) dX0_fail_1 rfl ?_
  refine x_put (M := M_X0_fail) (ci := 3) (C := RX0) (T := TX0) (N := 13) (ty := tyX0) cl3 dX0_fail_2 (ob_self ha) 11 (by decide) t_162 (Or.inl rfl) (by simp only [List.length_set, hn]; decide) rfl ?_
  refine x_heap (h' := (stt h a (.inr (3, (fs.set 11 (.int w0)))))) (by rw [stt_stt (a := a)]) ?_
  refine x_aload_n (M := M_X0_fail) dX0_fail_5 rfl ?_
  refine x_aload_n (M := M_X0_fail) dX0_fail_6 rfl ?_
  refine x_getf (M := M_X0_fail) (ci := 3) (C := RX0) (T := TX0) (N := 13) (ty := tyX0) cl3 dX0_fail_7 (ob_self ha) 6 (by decide) t_157 (gs_ne (by decide) e6) ?_
  refine x_put (M := M_X0_fail) (ci := 3) (C := RX0) (T := TX0) (N := 13) (ty := tyX0) cl3 dX0_fail_10 (ob_self ha) 12 (by decide) t_164 (Or.inl rfl) (by simp only [List.length_set, hn]; decide) rfl ?_
  refine x_heap (h' := (stt h a (.inr (3, ((fs.set 11 (.int w0)).set 12 (.int g6)))))) (by rw [stt_stt (a := a)]) ?_
  refine x_iconst (M := M_X0_fail) dX0_fail_13 ?_
  exact x_zret (M := M_X0_fail) dX0_fail_14 rfl (Or.inl rfl) ⟨rfl, by rw [F_X0_fail]⟩ (Nat.le_of_ble_eq_true rfl) (Nat.le_of_ble_eq_true rfl)
def f_X0_has (g5 : Int32) (g6 : Int32) (w0 : Int32) : Int32 := if (g5 - g6) < w0 then (Int32.ofInt 0) else ((Int32.ofInt 1))
theorem b_X0_has (g5 : Int32) (g6 : Int32) (w0 : Int32) : f_X0_has g5 g6 w0 = 0 ∨ f_X0_has g5 g6 w0 = 1 := (ite01 (Or.inl rfl) (Or.inr rfl))
theorem p_X0_has {l : Launch} {E : EE} (hl : l.stackTraces = false) {h : HP} {g5 : Int32} {g6 : Int32} {w0 : Int32} {a : Nat} {fs : List Value} (ha : ob h a = some (.inr (3, fs))) (e5 : fs[5]? = some (.int g5)) (e6 : fs[6]? = some (.int g6)) : en_C l E M_X0_has 0 0 0 [.ref a, .int w0] h (pR (some (.int (f_X0_has g5 g6 w0))) h) := by
  refine en_mk m_X0_has rfl hl (Nat.le_of_ble_eq_true rfl) ?_
  refine x_aload_n (M := M_X0_has) dX0_has_0 rfl ?_
  refine x_getf (M := M_X0_has) (ci := 3) (C := RX0) (T := TX0) (N := 13) (ty := tyX0) cl3 dX0_has_1 ha 5 (by decide) t_156 e5 ?_
  refine x_aload_n (M := M_X0_has) dX0_has_4 rfl ?_
  refine x_getf (M := M_X0_has) (ci := 3) (C := RX0) (T := TX0) (N := 13) (ty := tyX0) cl3 dX0_has_5 ha 6 (by decide) t_157 e6 ?_
  refine x_isub (M := M_X0_has) dX0_has_8 ?_
  refine x_iload_n (M := M_X0_has) dX0_has_9 rfl ?_
  refine x_icmp_lt (M := M_X0_has) (tgt := 17) dX0_has_10 (by decide) (fun q0 => ?_) (fun q0 => ?_)
  · refine x_iconst (M := M_X0_has) dX0_has_17 ?_
    exact x_zret (M := M_X0_has) dX0_has_18 rfl (Or.inl rfl) ⟨by rw [f_X0_has, if_pos q0], rfl⟩ (Nat.le_of_ble_eq_true rfl) (Nat.le_of_ble_eq_true rfl)
  · refine x_iconst (M := M_X0_has) dX0_has_13 ?_
    refine x_goto (M := M_X0_has) (tgt := 18) dX0_has_14 (by decide) ?_
    exact x_zret (M := M_X0_has) dX0_has_18 rfl (Or.inr rfl) ⟨by rw [f_X0_has, if_neg q0], rfl⟩ (Nat.le_of_ble_eq_true rfl) (Nat.le_of_ble_eq_true rfl)
def f_X0_openLevel (g6 : Int32) (g7 : Int32) (g8 : Int32) (g11 : Int32) (g12 : Int32) (c2 : Nat → Int64) (c3 : Nat → Int32) (w0 : Int32) (w1 : Int64) : Int32 := if g7 < (Int8.ofInt 64).toInt32 then if w0 = (Int8.ofInt 7).toInt32 then (Int32.ofInt 1) else ((Int32.ofInt 1)) else ((f_X0_fail g6 ((Int8.ofInt 6).toInt32)))
theorem b_X0_openLevel (g6 : Int32) (g7 : Int32) (g8 : Int32) (g11 : Int32) (g12 : Int32) (c2 : Nat → Int64) (c3 : Nat → Int32) (w0 : Int32) (w1 : Int64) : f_X0_openLevel g6 g7 g8 g11 g12 c2 c3 w0 w1 = 0 ∨ f_X0_openLevel g6 g7 g8 g11 g12 c2 c3 w0 w1 = 1 := (ite01 (ite01 (Or.inr rfl) (Or.inr rfl)) (b_X0_fail _ _))
def F_X0_openLevel (fs : List Value) (g6 : Int32) (g7 : Int32) (g8 : Int32) (g11 : Int32) (g12 : Int32) (c2 : Nat → Int64) (c3 : Nat → Int32) (w0 : Int32) (w1 : Int64) : List Value := if g7 < (Int8.ofInt 64).toInt32 then if w0 = (Int8.ofInt 7).toInt32 then ((fs.set 7 (.int (g7 + (Int32.ofInt 1)))).set 8 (.int (g8 + (Int32.ofInt 1)))) else ((fs.set 7 (.int (g7 + (Int32.ofInt 1))))) else ((F_X0_fail fs g6 ((Int8.ofInt 6).toInt32)))
def A2_X0_openLevel (g6 : Int32) (g7 : Int32) (g8 : Int32) (g11 : Int32) (g12 : Int32) (c2 : Nat → Int64) (c3 : Nat → Int32) (w0 : Int32) (w1 : Int64) : Nat → Int64 := if g7 < (Int8.ofInt 64).toInt32 then if w0 = (Int8.ofInt 7).toInt32 then (vp_updL c2 g7.toNatClampNeg w1) else ((vp_updL c2 g7.toNatClampNeg w1)) else (c2)
def A3_X0_openLevel (g6 : Int32) (g7 : Int32) (g8 : Int32) (g11 : Int32) (g12 : Int32) (c2 : Nat → Int64) (c3 : Nat → Int32) (w0 : Int32) (w1 : Int64) : Nat → Int32 := if g7 < (Int8.ofInt 64).toInt32 then if w0 = (Int8.ofInt 7).toInt32 then (upd c3 g7.toNatClampNeg w0) else ((upd c3 g7.toNatClampNeg w0)) else (c3)
theorem l_X0_openLevel {fs : List Value} {g6 : Int32} {g7 : Int32} {g8 : Int32} {g11 : Int32} {g12 : Int32} {c2 : Nat → Int64} {c3 : Nat → Int32} {w0 : Int32} {w1 : Int64} : (F_X0_openLevel fs g6 g7 g8 g11 g12 c2 c3 w0 w1).length = fs.length := by
  unfold F_X0_openLevel
  repeat' split
  all_goals first | rfl | simp only [List.length_set, l_X0_fail]
theorem k_X0_openLevel {fs : List Value} {g6 : Int32} {g7 : Int32} {g8 : Int32} {g11 : Int32} {g12 : Int32} {c2 : Nat → Int64} {c3 : Nat → Int32} {w0 : Int32} {w1 : Int64} {k : Nat} (hk : k ∉ ([7, 8, 11, 12] : List Nat)) : (F_X0_openLevel fs g6 g7 g8 g11 g12 c2 c3 w0 w1)[k]? = fs[k]? := by
  simp only [List.mem_cons, List.not_mem_nil, or_false, not_or] at hk
  unfold F_X0_openLevel
  repeat' split
  all_goals first | rfl | simp only [List.getElem?_set_ne (by omega : 7 ≠ k), List.getElem?_set_ne (by omega : 8 ≠ k), List.getElem?_set_ne (by omega : 11 ≠ k), List.getElem?_set_ne (by omega : 12 ≠ k), k_X0_fail (k := k) (by simp <;> omega)]
def V7_X0_openLevel (g6 : Int32) (g7 : Int32) (g8 : Int32) (g11 : Int32) (g12 : Int32) (c2 : Nat → Int64) (c3 : Nat → Int32) (w0 : Int32) (w1 : Int64) : Int32 := if g7 < (Int8.ofInt 64).toInt32 then if w0 = (Int8.ofInt 7).toInt32 then (g7 + (Int32.ofInt 1)) else ((g7 + (Int32.ofInt 1))) else (g7)
theorem v7_X0_openLevel {fs : List Value} {g6 : Int32} {g7 : Int32} {g8 : Int32} {g11 : Int32} {g12 : Int32} {c2 : Nat → Int64} {c3 : Nat → Int32} {w0 : Int32} {w1 : Int64} (hn : fs.length = 13) (e6 : fs[6]? = some (.int g6)) (e7 : fs[7]? = some (.int g7)) (e8 : fs[8]? = some (.int g8)) (e11 : fs[11]? = some (.int g11)) (e12 : fs[12]? = some (.int g12)) : (F_X0_openLevel fs g6 g7 g8 g11 g12 c2 c3 w0 w1)[7]? = some (.int (V7_X0_openLevel g6 g7 g8 g11 g12 c2 c3 w0 w1)) := by
  unfold F_X0_openLevel V7_X0_openLevel
  exact (gi (gi (gs_ne (by decide) (gs_eq (by simp only [List.length_set, hn, l_X0_fail]; decide))) (gs_eq (by simp only [List.length_set, hn, l_X0_fail]; decide))) ((k_X0_fail (by decide)).trans e7))
def V8_X0_openLevel (g6 : Int32) (g7 : Int32) (g8 : Int32) (g11 : Int32) (g12 : Int32) (c2 : Nat → Int64) (c3 : Nat → Int32) (w0 : Int32) (w1 : Int64) : Int32 := if g7 < (Int8.ofInt 64).toInt32 then if w0 = (Int8.ofInt 7).toInt32 then (g8 + (Int32.ofInt 1)) else (g8) else (g8)
theorem v8_X0_openLevel {fs : List Value} {g6 : Int32} {g7 : Int32} {g8 : Int32} {g11 : Int32} {g12 : Int32} {c2 : Nat → Int64} {c3 : Nat → Int32} {w0 : Int32} {w1 : Int64} (hn : fs.length = 13) (e6 : fs[6]? = some (.int g6)) (e7 : fs[7]? = some (.int g7)) (e8 : fs[8]? = some (.int g8)) (e11 : fs[11]? = some (.int g11)) (e12 : fs[12]? = some (.int g12)) : (F_X0_openLevel fs g6 g7 g8 g11 g12 c2 c3 w0 w1)[8]? = some (.int (V8_X0_openLevel g6 g7 g8 g11 g12 c2 c3 w0 w1)) := by
  unfold F_X0_openLevel V8_X0_openLevel
  exact (gi (gi (gs_eq (by simp only [List.length_set, hn, l_X0_fail]; decide)) (gs_ne (by decide) e8)) ((k_X0_fail (by decide)).trans e8))
def V11_X0_openLevel (g6 : Int32) (g7 : Int32) (g8 : Int32) (g11 : Int32) (g12 : Int32) (c2 : Nat → Int64) (c3 : Nat → Int32) (w0 : Int32) (w1 : Int64) : Int32 := if g7 < (Int8.ofInt 64).toInt32 then if w0 = (Int8.ofInt 7).toInt32 then g11 else (g11) else ((V11_X0_fail g6 ((Int8.ofInt 6).toInt32)))
theorem v11_X0_openLevel {fs : List Value} {g6 : Int32} {g7 : Int32} {g8 : Int32} {g11 : Int32} {g12 : Int32} {c2 : Nat → Int64} {c3 : Nat → Int32} {w0 : Int32} {w1 : Int64} (hn : fs.length = 13) (e6 : fs[6]? = some (.int g6)) (e7 : fs[7]? = some (.int g7)) (e8 : fs[8]? = some (.int g8)) (e11 : fs[11]? = some (.int g11)) (e12 : fs[12]? = some (.int g12)) : (F_X0_openLevel fs g6 g7 g8 g11 g12 c2 c3 w0 w1)[11]? = some (.int (V11_X0_openLevel g6 g7 g8 g11 g12 c2 c3 w0 w1)) := by
  unfold F_X0_openLevel V11_X0_openLevel
  exact (gi (gi (gs_ne (by decide) (gs_ne (by decide) e11)) (gs_ne (by decide) e11)) (v11_X0_fail hn e6))
def V12_X0_openLevel (g6 : Int32) (g7 : Int32) (g8 : Int32) (g11 : Int32) (g12 : Int32) (c2 : Nat → Int64) (c3 : Nat → Int32) (w0 : Int32) (w1 : Int64) : Int32 := if g7 < (Int8.ofInt 64).toInt32 then if w0 = (Int8.ofInt 7).toInt32 then g12 else (g12) else ((V12_X0_fail g6 ((Int8.ofInt 6).toInt32)))
theorem v12_X0_openLevel {fs : List Value} {g6 : Int32} {g7 : Int32} {g8 : Int32} {g11 : Int32} {g12 : Int32} {c2 : Nat → Int64} {c3 : Nat → Int32} {w0 : Int32} {w1 : Int64} (hn : fs.length = 13) (e6 : fs[6]? = some (.int g6)) (e7 : fs[7]? = some (.int g7)) (e8 : fs[8]? = some (.int g8)) (e11 : fs[11]? = some (.int g11)) (e12 : fs[12]? = some (.int g12)) : (F_X0_openLevel fs g6 g7 g8 g11 g12 c2 c3 w0 w1)[12]? = some (.int (V12_X0_openLevel g6 g7 g8 g11 g12 c2 c3 w0 w1)) := by
  unfold F_X0_openLevel V12_X0_openLevel
  exact (gi (gi (gs_ne (by decide) (gs_ne (by decide) e12)) (gs_ne (by decide) e12)) (v12_X0_fail hn e6))
theorem p_X0_openLevel {l : Launch} {E : EE} (hl : l.stackTraces = false) {h : HP} {g6 : Int32} {g7 : Int32} {g8 : Int32} {g11 : Int32} {g12 : Int32} {c2 : Nat → Int64} {c3 : Nat → Int32} {w0 : Int32} {w1 : Int64} {a : Nat} {fs : List Value} (ha : ob h a = some (.inr (3, fs))) (hn : fs.length = 13) (e6 : fs[6]? = some (.int g6)) (e7 : fs[7]? = some (.int g7)) (e8 : fs[8]? = some (.int g8)) (e11 : fs[11]? = some (.int g11)) (e12 : fs[12]? = some (.int g12)) {r2 n2 : Nat} (e2 : fs[2]? = some (.ref r2)) (o2 : ob h r2 = some (.inl (1, n2, .inr (.inl c2)))) {r3 n3 : Nat} (e3 : fs[3]? = some (.ref r3)) (o3 : ob h r3 = some (.inl (0, n3, .inl c3))) (d2_3 : r2 ≠ r3) (i0 : (g7 < (Int8.ofInt 64).toInt32) → vp_in g7 n3) (i1 : (g7 < (Int8.ofInt 64).toInt32) → vp_in g7 n2) : en_C l E M_X0_openLevel 1 0 0 [.ref a, .int w0, .long w1] h (pR (some (.int (f_X0_openLevel g6 g7 g8 g11 g12 c2 c3 w0 w1))) (stt (stt (stt h a (.inr (3, F_X0_openLevel fs g6 g7 g8 g11 g12 c2 c3 w0 w1))) r2 (.inl (1, n2, .inr (.inl (A2_X0_openLevel g6 g7 g8 g11 g12 c2 c3 w0 w1))))) r3 (.inl (0, n3, .inl (A3_X0_openLevel g6 g7 g8 g11 g12 c2 c3 w0 w1))))) := by
  refine en_mk m_X0_openLevel rfl hl (Nat.le_of_ble_eq_true rfl) ?_
  refine x_heap (h' := (stt (stt (stt h a (.inr (3, fs))) r2 (.inl (1, n2, .inr (.inl c2)))) r3 (.inl (0, n3, .inl c3)))) (by rw [stt_id ha, stt_id o2, stt_id o3]) ?_
  refine x_aload_n (M := M_X0_openLevel) dX0_openLevel_0 rfl ?_
  refine x_getf (M := M_X0_openLevel) (ci := 3) (C := RX0) (T := TX0) (N := 13) (ty := tyX0) cl3 dX0_openLevel_1 (ob_up (ob_df ha o3).symm (ob_at o3).1 (ob_up (ob_df ha o2).symm (ob_at o2).1 (ob_self ha))) 7 (by decide) t_158 e7 ?_
  refine x_bipush (M := M_X0_openLevel) dX0_openLevel_4 ?_
  refine x_icmp_lt (M := M_X0_openLevel) (tgt := 16) dX0_openLevel_6 (by decide) (fun q0 => ?_) (fun q0 => ?_)
  · refine x_aload_n (M := M_X0_openLevel) dX0_openLevel_16 rfl ?_
    refine x_getf (M := M_X0_openLevel) (ci := 3) (C := RX0) (T := TX0) (N := 13) (ty := tyX0) cl3 dX0_openLevel_17 (ob_up (ob_df ha o3).symm (ob_at o3).1 (ob_up (ob_df ha o2).symm (ob_at o2).1 (ob_self ha))) 3 (by decide) t_154 e3 ?_
    refine x_aload_n (M := M_X0_openLevel) dX0_openLevel_20 rfl ?_
    refine x_getf (M := M_X0_openLevel) (ci := 3) (C := RX0) (T := TX0) (N := 13) (ty := tyX0) cl3 dX0_openLevel_21 (ob_up (ob_df ha o3).symm (ob_at o3).1 (ob_up (ob_df ha o2).symm (ob_at o2).1 (ob_self ha))) 7 (by decide) t_158 e7 ?_
    refine x_iload_n (M := M_X0_openLevel) dX0_openLevel_24 rfl ?_
    refine x_iast (M := M_X0_openLevel) dX0_openLevel_25 (ob_self (ob_up d2_3 (ob_at o2).1 (ob_oth ha o3))) (i0 q0) ?_
    refine x_heap (h' := (stt (stt (stt h a (.inr (3, fs))) r2 (.inl (1, n2, .inr (.inl c2)))) r3 (.inl (0, n3, .inl (upd c3 g7.toNatClampNeg w0))))) (by rw [stt_stt (a := r3)]) ?_
    refine x_aload_n (M := M_X0_openLevel) dX0_openLevel_26 rfl ?_
    refine x_getf (M := M_X0_openLevel) (ci := 3) (C := RX0) (T := TX0) (N := 13) (ty := tyX0) cl3 dX0_openLevel_27 (ob_up (ob_df ha o3).symm (ob_at o3).1 (ob_up (ob_df ha o2).symm (ob_at o2).1 (ob_self ha))) 2 (by decide) t_153 e2 ?_
    refine x_aload_n (M := M_X0_openLevel) dX0_openLevel_30 rfl ?_
    refine x_getf (M := M_X0_openLevel) (ci := 3) (C := RX0) (T := TX0) (N := 13) (ty := tyX0) cl3 dX0_openLevel_31 (ob_up (ob_df ha o3).symm (ob_at o3).1 (ob_up (ob_df ha o2).symm (ob_at o2).1 (ob_self ha))) 7 (by decide) t_158 e7 ?_
    refine x_lload_n (M := M_X0_openLevel) dX0_openLevel_34 rfl ?_
    refine x_last (M := M_X0_openLevel) dX0_openLevel_35 (ob_up d2_3.symm (ob_at o3).1 (ob_self (ob_oth ha o2))) (i1 q0) ?_
    refine x_heap (h' := (stt (stt (stt h a (.inr (3, fs))) r2 (.inl (1, n2, .inr (.inl (vp_updL c2 g7.toNatClampNeg w1))))) r3 (.inl (0, n3, .inl (upd c3 g7.toNatClampNeg w0))))) (by rw [stt_sw (x := r3) (y := r2) d2_3.symm (ob_at o3).1 (ob_at o2).1, stt_stt (a := r2)]) ?_
    refine x_aload_n (M := M_X0_openLevel) dX0_openLevel_36 rfl ?_
    refine x_dup (M := M_X0_openLevel) dX0_openLevel_37 rfl ?_
    refine x_getf (M := M_X0_openLevel) (ci := 3) (C := RX0) (T := TX0) (N := 13) (ty := tyX0) cl3 dX0_openLevel_38 (ob_up (ob_df ha o3).symm (ob_at o3).1 (ob_up (ob_df ha o2).symm (ob_at o2).1 (ob_self ha))) 7 (by decide) t_158 e7 ?_
    refine x_iconst (M := M_X0_openLevel) dX0_openLevel_41 ?_
    refine x_iadd (M := M_X0_openLevel) dX0_openLevel_42 ?_
    refine x_put (M := M_X0_openLevel) (ci := 3) (C := RX0) (T := TX0) (N := 13) (ty := tyX0) cl3 dX0_openLevel_43 (ob_up (ob_df ha o3).symm (ob_at o3).1 (ob_up (ob_df ha o2).symm (ob_at o2).1 (ob_self ha))) 7 (by decide) t_158 (Or.inl rfl) (by simp only [List.length_set, hn]; decide) rfl ?_
    refine x_heap (h' := (stt (stt (stt h a (.inr (3, (fs.set 7 (.int (g7 + (Int32.ofInt 1))))))) r2 (.inl (1, n2, .inr (.inl (vp_updL c2 g7.toNatClampNeg w1))))) r3 (.inl (0, n3, .inl (upd c3 g7.toNatClampNeg w0))))) (by rw [stt_sw (x := r3) (y := a) (ob_df ha o3).symm (ob_at o3).1 (ob_at ha).1, stt_sw (x := r2) (y := a) (ob_df ha o2).symm (ob_at o2).1 (ob_at ha).1, stt_stt (a := a)]) ?_
    refine x_iload_n (M := M_X0_openLevel) dX0_openLevel_46 rfl ?_
    refine x_bipush (M := M_X0_openLevel) dX0_openLevel_47 ?_
    refine x_icmp_ne (M := M_X0_openLevel) (tgt := 62) dX0_openLevel_49 (by decide) (fun q1 => ?_) (fun q1 => ?_)
    · refine x_iconst (M := M_X0_openLevel) dX0_openLevel_62 ?_
      exact x_zret (M := M_X0_openLevel) dX0_openLevel_63 rfl (Or.inr rfl) ⟨by rw [f_X0_openLevel, if_pos q0, if_neg q1], by rw [F_X0_openLevel, if_pos q0, if_neg q1, A2_X0_openLevel, if_pos q0, if_neg q1, A3_X0_openLevel, if_pos q0, if_neg q1]⟩ (Nat.le_of_ble_eq_true rfl) (Nat.le_of_ble_eq_true rfl)
    · refine x_aload_n (M := M_X0_openLevel) dX0_openLevel_52 rfl ?_
      refine x_dup (M := M_X0_openLevel) dX0_openLevel_53 rfl ?_
      refine x_getf (M := M_X0_openLevel) (ci := 3) (C := RX0) (T := TX0) (N := 13) (ty := tyX0) cl3 dX0_openLevel_54 (ob_up (ob_df ha o3).symm (ob_at o3).1 (ob_up (ob_df ha o2).symm (ob_at o2).1 (ob_self ha))) 8 (by decide) t_159 (gs_ne (by decide) e8) ?_
      refine x_iconst (M := M_X0_openLevel) dX0_openLevel_57 ?_
      refine x_iadd (M := M_X0_openLevel) dX0_openLevel_58 ?_
      refine x_put (M := M_X0_openLevel) (ci := 3) (C := RX0) (T := TX0) (N := 13) (ty := tyX0) cl3 dX0_openLevel_59 (ob_up (ob_df ha o3).symm (ob_at o3).1 (ob_up (ob_df ha o2).symm (ob_at o2).1 (ob_self ha))) 8 (by decide) t_159 (Or.inl rfl) (by simp only [List.length_set, hn]; decide) rfl ?_
      refine x_heap (h' := (stt (stt (stt h a (.inr (3, ((fs.set 7 (.int (g7 + (Int32.ofInt 1)))).set 8 (.int (g8 + (Int32.ofInt 1))))))) r2 (.inl (1, n2, .inr (.inl (vp_updL c2 g7.toNatClampNeg w1))))) r3 (.inl (0, n3, .inl (upd c3 g7.toNatClampNeg w0))))) (by rw [stt_sw (x := r3) (y := a) (ob_df ha o3).symm (ob_at o3).1 (ob_at ha).1, stt_sw (x := r2) (y := a) (ob_df ha o2).symm (ob_at o2).1 (ob_at ha).1, stt_stt (a := a)]) ?_
      refine x_iconst (M := M_X0_openLevel) dX0_openLevel_62 ?_
      exact x_zret (M := M_X0_openLevel) dX0_openLevel_63 rfl (Or.inr rfl) ⟨by rw [f_X0_openLevel, if_pos q0, if_pos q1], by rw [F_X0_openLevel, if_pos q0, if_pos q1, A2_X0_openLevel, if_pos q0, if_pos q1, A3_X0_openLevel, if_pos q0, if_pos q1]⟩ (Nat.le_of_ble_eq_true rfl) (Nat.le_of_ble_eq_true rfl)
  · refine x_aload_n (M := M_X0_openLevel) dX0_openLevel_9 rfl ?_
    refine x_bipush (M := M_X0_openLevel) dX0_openLevel_10 ?_
    refine x_callVR (M := M_X0_openLevel) (M' := M_X0_fail) rfl rfl dX0_openLevel_12 m_X0_fail t_975 t_977 s_25 (p_X0_fail hl (ob_up (ob_df ha o3).symm (ob_at o3).1 (ob_up (ob_df ha o2).symm (ob_at o2).1 (ob_self ha))) hn e6) rfl rfl (ob_up (ob_df ha o3).symm (ob_at o3).1 (ob_up (ob_df ha o2).symm (ob_at o2).1 (ob_self ha))) rfl (Nat.le_of_ble_eq_true rfl) (Nat.le_of_ble_eq_true rfl) (Nat.le_of_ble_eq_true rfl) (Nat.le_of_ble_eq_true rfl) ?_
    refine x_heap (h' := (stt (stt (stt h a (.inr (3, (F_X0_fail fs g6 ((Int8.ofInt 6).toInt32))))) r2 (.inl (1, n2, .inr (.inl c2)))) r3 (.inl (0, n3, .inl c3)))) (by rw [stt_sw (x := r3) (y := a) (ob_df ha o3).symm (ob_at o3).1 (ob_at ha).1, stt_sw (x := r2) (y := a) (ob_df ha o2).symm (ob_at o2).1 (ob_at ha).1, stt_stt (a := a)]) ?_
    exact x_zret (M := M_X0_openLevel) dX0_openLevel_15 rfl (b_X0_fail _ _) ⟨by rw [f_X0_openLevel, if_neg q0], by rw [F_X0_openLevel, if_neg q0, A2_X0_openLevel, if_neg q0, A3_X0_openLevel, if_neg q0]⟩ (Nat.le_of_ble_eq_true rfl) (Nat.le_of_ble_eq_true rfl)
def f_X0_isNoNumber (w0 : Int64) : Int32 := if (lg_cmp (((w0.toUInt64 >>> ((Int8.ofInt 52).toInt32.toInt64.toUInt64 &&& Int64.toUInt64 63)).toInt64) &&& (2047 : Int64)) (2047 : Int64)) = 0 then if (lg_cmp (w0 &&& (4503599627370495 : Int64)) (Int64.ofNat ((0 : Fin 2) : Nat))) = 0 then (Int32.ofInt 0) else ((Int32.ofInt 1)) else ((Int32.ofInt 0))
theorem b_X0_isNoNumber (w0 : Int64) : f_X0_isNoNumber w0 = 0 ∨ f_X0_isNoNumber w0 = 1 := (ite01 (ite01 (Or.inl rfl) (Or.inr rfl)) (Or.inl rfl))
theorem p_X0_isNoNumber {l : Launch} {E : EE} (hl : l.stackTraces = false) {h : HP} {w0 : Int64} : en_C l E M_X0_isNoNumber 0 0 0 [.long w0] h (pR (some (.int (f_X0_isNoNumber w0))) h) := by
  refine en_mk m_X0_isNoNumber rfl hl (Nat.le_of_ble_eq_true rfl) ?_
  refine x_lload_n (M := M_X0_isNoNumber) dX0_isNoNumber_0 rfl ?_
  refine x_bipush (M := M_X0_isNoNumber) dX0_isNoNumber_1 ?_
  refine x_lushr (M := M_X0_isNoNumber) dX0_isNoNumber_3 ?_
  refine x_ldc2 (M := M_X0_isNoNumber) dX0_isNoNumber_4 t_997 ?_
  refine x_land (M := M_X0_isNoNumber) dX0_isNoNumber_7 ?_
  refine x_ldc2 (M := M_X0_isNoNumber) dX0_isNoNumber_8 t_997 ?_
  refine x_lcmp (M := M_X0_isNoNumber) dX0_isNoNumber_11 ?_
  refine x_if_ne (M := M_X0_isNoNumber) (tgt := 29) dX0_isNoNumber_12 (by decide) (fun q0 => ?_) (fun q0 => ?_)
  · refine x_iconst (M := M_X0_isNoNumber) dX0_isNoNumber_29 ?_
    exact x_zret (M := M_X0_isNoNumber) dX0_isNoNumber_30 rfl (Or.inl rfl) ⟨by rw [f_X0_isNoNumber, if_neg q0], rfl⟩ (Nat.le_of_ble_eq_true rfl) (Nat.le_of_ble_eq_true rfl)
  · refine x_lload_n (M := M_X0_isNoNumber) dX0_isNoNumber_15 rfl ?_
    refine x_ldc2 (M := M_X0_isNoNumber) dX0_isNoNumber_16 t_998 ?_
    refine x_land (M := M_X0_isNoNumber) dX0_isNoNumber_19 ?_
    refine x_lconst (M := M_X0_isNoNumber) dX0_isNoNumber_20 ?_
    refine x_lcmp (M := M_X0_isNoNumber) dX0_isNoNumber_21 ?_
    refine x_if_eq (M := M_X0_isNoNumber) (tgt := 29) dX0_isNoNumber_22 (by decide) (fun q1 => ?_) (fun q1 => ?_)
    · refine x_iconst (M := M_X0_isNoNumber) dX0_isNoNumber_29 ?_
      exact x_zret (M := M_X0_isNoNumber) dX0_isNoNumber_30 rfl (Or.inl rfl) ⟨by rw [f_X0_isNoNumber, if_pos q0, if_pos q1], rfl⟩ (Nat.le_of_ble_eq_true rfl) (Nat.le_of_ble_eq_true rfl)
    · refine x_iconst (M := M_X0_isNoNumber) dX0_isNoNumber_25 ?_
      refine x_goto (M := M_X0_isNoNumber) (tgt := 30) dX0_isNoNumber_26 (by decide) ?_
      exact x_zret (M := M_X0_isNoNumber) dX0_isNoNumber_30 rfl (Or.inr rfl) ⟨by rw [f_X0_isNoNumber, if_pos q0, if_neg q1], rfl⟩ (Nat.le_of_ble_eq_true rfl) (Nat.le_of_ble_eq_true rfl)
def f_X1_tell (c0 : Nat → Int32) (w0 : Int32) (w1 : Int32) (w2 : Int32) : Int32 := w0
def F_X1_tell (fs : List Value) (c0 : Nat → Int32) (w0 : Int32) (w1 : Int32) (w2 : Int32) : List Value := fs
def A0_X1_tell (c0 : Nat → Int32) (w0 : Int32) (w1 : Int32) (w2 : Int32) : Nat → Int32 := (upd (upd c0 (Int32.ofInt 1).toNatClampNeg w1) (Int32.ofInt 2).toNatClampNeg w2)
theorem l_X1_tell {fs : List Value} {c0 : Nat → Int32} {w0 : Int32} {w1 : Int32} {w2 : Int32} : (F_X1_tell fs c0 w0 w1 w2).length = fs.length := by
  unfold F_X1_tell
  first | rfl | simp only [List.length_set]
theorem k_X1_tell {fs : List Value} {c0 : Nat → Int32} {w0 : Int32} {w1 : Int32} {w2 : Int32} {k : Nat} (hk : k ∉ ([] : List Nat)) : (F_X1_tell fs c0 w0 w1 w2)[k]? = fs[k]? := by
  clear hk
  unfold F_X1_tell
  first | rfl | simp only []
theorem p_X1_tell {l : Launch} {E : EE} (hl : l.stackTraces = false) {h : HP} {c0 : Nat → Int32} {w0 : Int32} {w1 : Int32} {w2 : Int32} {a : Nat} {fs : List Value} (ha : ob h a = some (.inr (4, fs))) {r0 n0 : Nat} (e0 : fs[0]? = some (.ref r0)) (o0 : ob h r0 = some (.inl (0, n0, .inl c0))) (i0 : vp_in (Int32.ofInt 1) n0) (i1 : vp_in (Int32.ofInt 2) n0) : en_C l E M_X1_tell 0 0 0 [.ref a, .int w0, .int w1, .int w2] h (pR (some (.int (f_X1_tell c0 w0 w1 w2))) (stt (stt h a (.inr (4, F_X1_tell fs c0 w0 w1 w2))) r0 (.inl (0, n0, .inl (A0_X1_tell c0 w0 w1 w2))))) := by
  refine en_mk m_X1_tell rfl hl (Nat.le_of_ble_eq_true rfl) ?_
  refine x_heap (h' := (stt (stt h a (.inr (4, fs))) r0 (.inl (0, n0, .inl c0)))) (by rw [stt_id ha, stt_id o0]) ?_
  refine x_aload_n (M := M_X1_tell) dX1_tell_0 rfl ?_
  refine x_getf (M := M_X1_tell) (ci := 4) (C := RX1) (T := TX1) (N := 11) (ty := tyX1) cl4 dX1_tell_1 (ob_up (ob_df ha o0).symm (ob_at o0).1 (ob_self ha)) 0 (by decide) t_284 e0 ?_
  refine x_iconst (M := M_X1_tell) dX1_tell_4 ?_
  refine x_iload_n (M := M_X1_tell) dX1_tell_5 rfl ?_
  refine x_iast (M := M_X1_tell) dX1_tell_6 (ob_self (ob_oth ha o0)) i0 ?_
  refine x_heap (h' := (stt (stt h a (.inr (4, fs))) r0 (.inl (0, n0, .inl (upd c0 (Int32.ofInt 1).toNatClampNeg w1))))) (by rw [stt_stt (a := r0)]) ?_
  refine x_aload_n (M := M_X1_tell) dX1_tell_7 rfl ?_
  refine x_getf (M := M_X1_tell) (ci := 4) (C := RX1) (T := TX1) (N := 11) (ty := tyX1) cl4 dX1_tell_8 (ob_up (ob_df ha o0).symm (ob_at o0).1 (ob_self ha)) 0 (by decide) t_284 e0 ?_
  refine x_iconst (M := M_X1_tell) dX1_tell_11 ?_
  refine x_iload_n (M := M_X1_tell) dX1_tell_12 rfl ?_
  refine x_iast (M := M_X1_tell) dX1_tell_13 (ob_self (ob_oth ha o0)) i1 ?_
  refine x_heap (h' := (stt (stt h a (.inr (4, fs))) r0 (.inl (0, n0, .inl (upd (upd c0 (Int32.ofInt 1).toNatClampNeg w1) (Int32.ofInt 2).toNatClampNeg w2))))) (by rw [stt_stt (a := r0)]) ?_
  refine x_iload_n (M := M_X1_tell) dX1_tell_14 rfl ?_
  exact x_iret (M := M_X1_tell) dX1_tell_15 rfl ⟨rfl, by rw [F_X1_tell, A0_X1_tell]⟩ (Nat.le_of_ble_eq_true rfl) (Nat.le_of_ble_eq_true rfl)
def f_X1_isEmpty (c8 : Nat → Int32) (c9 : Nat → Int32) (w0 : Int32) : Int32 := if (c8 w0.toNatClampNeg) < (c9 w0.toNatClampNeg) then (Int32.ofInt 0) else ((Int32.ofInt 1))
theorem b_X1_isEmpty (c8 : Nat → Int32) (c9 : Nat → Int32) (w0 : Int32) : f_X1_isEmpty c8 c9 w0 = 0 ∨ f_X1_isEmpty c8 c9 w0 = 1 := (ite01 (Or.inl rfl) (Or.inr rfl))
theorem p_X1_isEmpty {l : Launch} {E : EE} (hl : l.stackTraces = false) {h : HP} {c8 : Nat → Int32} {c9 : Nat → Int32} {w0 : Int32} {a : Nat} {fs : List Value} (ha : ob h a = some (.inr (4, fs))) {r8 n8 : Nat} (e8 : fs[8]? = some (.ref r8)) (o8 : ob h r8 = some (.inl (0, n8, .inl c8))) {r9 n9 : Nat} (e9 : fs[9]? = some (.ref r9)) (o9 : ob h r9 = some (.inl (0, n9, .inl c9))) (i0 : vp_in w0 n8) (i1 : vp_in w0 n9) : en_C l E M_X1_isEmpty 0 0 0 [.ref a, .int w0] h (pR (some (.int (f_X1_isEmpty c8 c9 w0))) h) := by
  refine en_mk m_X1_isEmpty rfl hl (Nat.le_of_ble_eq_true rfl) ?_
  refine x_aload_n (M := M_X1_isEmpty) dX1_isEmpty_0 rfl ?_
  refine x_getf (M := M_X1_isEmpty) (ci := 4) (C := RX1) (T := TX1) (N := 11) (ty := tyX1) cl4 dX1_isEmpty_1 ha 8 (by decide) t_293 e8 ?_
  refine x_iload_n (M := M_X1_isEmpty) dX1_isEmpty_4 rfl ?_
  refine x_iald (M := M_X1_isEmpty) dX1_isEmpty_5 o8 i0 ?_
  refine x_aload_n (M := M_X1_isEmpty) dX1_isEmpty_6 rfl ?_
  refine x_getf (M := M_X1_isEmpty) (ci := 4) (C := RX1) (T := TX1) (N := 11) (ty := tyX1) cl4 dX1_isEmpty_7 ha 9 (by decide) t_294 e9 ?_
  refine x_iload_n (M := M_X1_isEmpty) dX1_isEmpty_10 rfl ?_
  refine x_iald (M := M_X1_isEmpty) dX1_isEmpty_11 o9 i1 ?_
  refine x_icmp_lt (M := M_X1_isEmpty) (tgt := 19) dX1_isEmpty_12 (by decide) (fun q0 => ?_) (fun q0 => ?_)
  · refine x_iconst (M := M_X1_isEmpty) dX1_isEmpty_19 ?_
    exact x_zret (M := M_X1_isEmpty) dX1_isEmpty_20 rfl (Or.inl rfl) ⟨by rw [f_X1_isEmpty, if_pos q0], rfl⟩ (Nat.le_of_ble_eq_true rfl) (Nat.le_of_ble_eq_true rfl)
  · refine x_iconst (M := M_X1_isEmpty) dX1_isEmpty_15 ?_
    refine x_goto (M := M_X1_isEmpty) (tgt := 20) dX1_isEmpty_16 (by decide) ?_
    exact x_zret (M := M_X1_isEmpty) dX1_isEmpty_20 rfl (Or.inr rfl) ⟨by rw [f_X1_isEmpty, if_neg q0], rfl⟩ (Nat.le_of_ble_eq_true rfl) (Nat.le_of_ble_eq_true rfl)
def f_X2_isTold (g3 : Int32) (c7 : Nat → Int64) (w0 : Int32) (w1 : Int32) : Int32 := if (lg_cmp (((c7 (((w0 * g3) + w1) >>> ((Int8.ofInt 6).toInt32 &&& 31)).toNatClampNeg) >>> ((((w0 * g3) + w1) &&& (Int8.ofInt 63).toInt32).toInt64 &&& 63)) &&& (Int64.ofNat ((1 : Fin 2) : Nat))) (Int64.ofNat ((0 : Fin 2) : Nat))) = 0 then (Int32.ofInt 0) else ((Int32.ofInt 1))
theorem b_X2_isTold (g3 : Int32) (c7 : Nat → Int64) (w0 : Int32) (w1 : Int32) : f_X2_isTold g3 c7 w0 w1 = 0 ∨ f_X2_isTold g3 c7 w0 w1 = 1 := (ite01 (Or.inl rfl) (Or.inr rfl))
theorem p_X2_isTold {l : Launch} {E : EE} (hl : l.stackTraces = false) {h : HP} {g3 : Int32} {c7 : Nat → Int64} {w0 : Int32} {w1 : Int32} {a : Nat} {fs : List Value} (ha : ob h a = some (.inr (5, fs))) (e3 : fs[3]? = some (.int g3)) {r7 n7 : Nat} (e7 : fs[7]? = some (.ref r7)) (o7 : ob h r7 = some (.inl (1, n7, .inr (.inl c7)))) (i0 : vp_in (((w0 * g3) + w1) >>> ((Int8.ofInt 6).toInt32 &&& 31)) n7) : en_C l E M_X2_isTold 0 0 0 [.ref a, .int w0, .int w1] h (pR (some (.int (f_X2_isTold g3 c7 w0 w1))) h) := by
  refine en_mk m_X2_isTold rfl hl (Nat.le_of_ble_eq_true rfl) ?_
  refine x_iload_n (M := M_X2_isTold) dX2_isTold_0 rfl ?_
  refine x_aload_n (M := M_X2_isTold) dX2_isTold_1 rfl ?_
  refine x_getf (M := M_X2_isTold) (ci := 5) (C := RX2) (T := TX2) (N := 17) (ty := tyX2) cl5 dX2_isTold_2 ha 3 (by decide) t_488 e3 ?_
  refine x_imul (M := M_X2_isTold) dX2_isTold_5 ?_
  refine x_iload_n (M := M_X2_isTold) dX2_isTold_6 rfl ?_
  refine x_iadd (M := M_X2_isTold) dX2_isTold_7 ?_
  refine x_istore_n (M := M_X2_isTold) dX2_isTold_8 (by decide) rfl ?_
  refine x_norm (lv' := [some (.ref a), some (.int w0), some (.int w1), some (.int ((w0 * g3) + w1))]) rfl rfl rfl rfl rfl ?_
  refine x_aload_n (M := M_X2_isTold) dX2_isTold_9 rfl ?_
  refine x_getf (M := M_X2_isTold) (ci := 5) (C := RX2) (T := TX2) (N := 17) (ty := tyX2) cl5 dX2_isTold_10 ha 7 (by decide) t_492 e7 ?_
  refine x_iload_n (M := M_X2_isTold) dX2_isTold_13 rfl ?_
  refine x_bipush (M := M_X2_isTold) dX2_isTold_14 ?_
  refine x_ishr (M := M_X2_isTold) dX2_isTold_16 ?_
  refine x_lald (M := M_X2_isTold) dX2_isTold_17 o7 i0 ?_
  refine x_iload_n (M := M_X2_isTold) dX2_isTold_18 rfl ?_
  refine x_bipush (M := M_X2_isTold) dX2_isTold_19 ?_
  refine x_iand (M := M_X2_isTold) dX2_isTold_21 ?_
  refine x_lshr (M := M_X2_isTold) dX2_isTold_22 ?_
  refine x_lconst (M := M_X2_isTold) dX2_isTold_23 ?_
  refine x_land (M := M_X2_isTold) dX2_isTold_24 ?_
  refine x_lconst (M := M_X2_isTold) dX2_isTold_25 ?_
  refine x_lcmp (M := M_X2_isTold) dX2_isTold_26 ?_
  refine x_if_eq (M := M_X2_isTold) (tgt := 34) dX2_isTold_27 (by decide) (fun q0 => ?_) (fun q0 => ?_)
  · refine x_iconst (M := M_X2_isTold) dX2_isTold_34 ?_
    exact x_zret (M := M_X2_isTold) dX2_isTold_35 rfl (Or.inl rfl) ⟨by rw [f_X2_isTold, if_pos q0], rfl⟩ (Nat.le_of_ble_eq_true rfl) (Nat.le_of_ble_eq_true rfl)
  · refine x_iconst (M := M_X2_isTold) dX2_isTold_30 ?_
    refine x_goto (M := M_X2_isTold) (tgt := 35) dX2_isTold_31 (by decide) ?_
    exact x_zret (M := M_X2_isTold) dX2_isTold_35 rfl (Or.inr rfl) ⟨by rw [f_X2_isTold, if_neg q0], rfl⟩ (Nat.le_of_ble_eq_true rfl) (Nat.le_of_ble_eq_true rfl)
def F_X2_setTold (fs : List Value) (g3 : Int32) (c7 : Nat → Int64) (w0 : Int32) (w1 : Int32) : List Value := fs
def A7_X2_setTold (g3 : Int32) (c7 : Nat → Int64) (w0 : Int32) (w1 : Int32) : Nat → Int64 := (vp_updL c7 (((w0 * g3) + w1) >>> ((Int8.ofInt 6).toInt32 &&& 31)).toNatClampNeg ((c7 (((w0 * g3) + w1) >>> ((Int8.ofInt 6).toInt32 &&& 31)).toNatClampNeg) ||| ((Int64.ofNat ((1 : Fin 2) : Nat)) <<< ((((w0 * g3) + w1) &&& (Int8.ofInt 63).toInt32).toInt64 &&& 63))))
theorem l_X2_setTold {fs : List Value} {g3 : Int32} {c7 : Nat → Int64} {w0 : Int32} {w1 : Int32} : (F_X2_setTold fs g3 c7 w0 w1).length = fs.length := by
  unfold F_X2_setTold
  first | rfl | simp only [List.length_set]
theorem k_X2_setTold {fs : List Value} {g3 : Int32} {c7 : Nat → Int64} {w0 : Int32} {w1 : Int32} {k : Nat} (hk : k ∉ ([] : List Nat)) : (F_X2_setTold fs g3 c7 w0 w1)[k]? = fs[k]? := by
  clear hk
  unfold F_X2_setTold
  first | rfl | simp only []
theorem p_X2_setTold {l : Launch} {E : EE} (hl : l.stackTraces = false) {h : HP} {g3 : Int32} {c7 : Nat → Int64} {w0 : Int32} {w1 : Int32} {a : Nat} {fs : List Value} (ha : ob h a = some (.inr (5, fs))) (e3 : fs[3]? = some (.int g3)) {r7 n7 : Nat} (e7 : fs[7]? = some (.ref r7)) (o7 : ob h r7 = some (.inl (1, n7, .inr (.inl c7)))) (i0 : vp_in (((w0 * g3) + w1) >>> ((Int8.ofInt 6).toInt32 &&& 31)) n7) (i1 : vp_in (((w0 * g3) + w1) >>> ((Int8.ofInt 6).toInt32 &&& 31)) n7) : en_C l E M_X2_setTold 0 0 0 [.ref a, .int w0, .int w1] h (pR none (stt (stt h a (.inr (5, F_X2_setTold fs g3 c7 w0 w1))) r7 (.inl (1, n7, .inr (.inl (A7_X2_setTold g3 c7 w0 w1)))))) := by
  refine en_mk m_X2_setTold rfl hl (Nat.le_of_ble_eq_true rfl) ?_
  refine x_heap (h' := (stt (stt h a (.inr (5, fs))) r7 (.inl (1, n7, .inr (.inl c7))))) (by rw [stt_id ha, stt_id o7]) ?_
  refine x_iload_n (M := M_X2_setTold) dX2_setTold_0 rfl ?_
  refine x_aload_n (M := M_X2_setTold) dX2_setTold_1 rfl ?_
  refine x_getf (M := M_X2_setTold) (ci := 5) (C := RX2) (T := TX2) (N := 17) (ty := tyX2) cl5 dX2_setTold_2 (ob_up (ob_df ha o7).symm (ob_at o7).1 (ob_self ha)) 3 (by decide) t_488 e3 ?_
  refine x_imul (M := M_X2_setTold) dX2_setTold_5 ?_
  refine x_iload_n (M := M_X2_setTold) dX2_setTold_6 rfl ?_
  refine x_iadd (M := M_X2_setTold) dX2_setTold_7 ?_
  refine x_istore_n (M := M_X2_setTold) dX2_setTold_8 (by decide) rfl ?_
  refine x_norm (lv' := [some (.ref a), some (.int w0), some (.int w1), some (.int ((w0 * g3) + w1))]) rfl rfl rfl rfl rfl ?_
  refine x_aload_n (M := M_X2_setTold) dX2_setTold_9 rfl ?_
  refine x_getf (M := M_X2_setTold) (ci := 5) (C := RX2) (T := TX2) (N := 17) (ty := tyX2) cl5 dX2_setTold_10 (ob_up (ob_df ha o7).symm (ob_at o7).1 (ob_self ha)) 7 (by decide) t_492 e7 ?_
  refine x_iload_n (M := M_X2_setTold) dX2_setTold_13 rfl ?_
  refine x_bipush (M := M_X2_setTold) dX2_setTold_14 ?_
  refine x_ishr (M := M_X2_setTold) dX2_setTold_16 ?_
  refine x_dup2 (M := M_X2_setTold) dX2_setTold_17 rfl rfl ?_
  refine x_lald (M := M_X2_setTold) dX2_setTold_18 (ob_self (ob_oth ha o7)) i0 ?_
  refine x_lconst (M := M_X2_setTold) dX2_setTold_19 ?_
  refine x_iload_n (M := M_X2_setTold) dX2_setTold_20 rfl ?_
  refine x_bipush (M := M_X2_setTold) dX2_setTold_21 ?_
  refine x_iand (M := M_X2_setTold) dX2_setTold_23 ?_
  refine x_lshl (M := M_X2_setTold) dX2_setTold_24 ?_
  refine x_lor (M := M_X2_setTold) dX2_setTold_25 ?_
  refine x_last (M := M_X2_setTold) dX2_setTold_26 (ob_self (ob_oth ha o7)) i1 ?_
  refine x_heap (h' := (stt (stt h a (.inr (5, fs))) r7 (.inl (1, n7, .inr (.inl (vp_updL c7 (((w0 * g3) + w1) >>> ((Int8.ofInt 6).toInt32 &&& 31)).toNatClampNeg ((c7 (((w0 * g3) + w1) >>> ((Int8.ofInt 6).toInt32 &&& 31)).toNatClampNeg) ||| ((Int64.ofNat ((1 : Fin 2) : Nat)) <<< ((((w0 * g3) + w1) &&& (Int8.ofInt 63).toInt32).toInt64 &&& 63))))))))) (by rw [stt_stt (a := r7)]) ?_
  exact x_vret (M := M_X2_setTold) dX2_setTold_27 rfl ⟨rfl, by rw [F_X2_setTold, A7_X2_setTold]⟩ (Nat.le_of_ble_eq_true rfl) (Nat.le_of_ble_eq_true rfl)
def f_X2_triangleKeyFrom (w0 : Int64) (w1 : Int64) (w2 : Int64) : Int64 := ((((w0 <<< ((Int8.ofInt 10).toInt32.toInt64 &&& 63)) ||| w1) <<< ((Int8.ofInt 10).toInt32.toInt64 &&& 63)) ||| w2)
theorem p_X2_triangleKeyFrom {l : Launch} {E : EE} (hl : l.stackTraces = false) {h : HP} {w0 : Int64} {w1 : Int64} {w2 : Int64} : en_C l E M_X2_triangleKeyFrom 0 0 0 [.long w0, .long w1, .long w2] h (pR (some (.long (f_X2_triangleKeyFrom w0 w1 w2))) h) := by
  refine en_mk m_X2_triangleKeyFrom rfl hl (Nat.le_of_ble_eq_true rfl) ?_
  refine x_lload_n (M := M_X2_triangleKeyFrom) dX2_triangleKeyFrom_0 rfl ?_
  refine x_bipush (M := M_X2_triangleKeyFrom) dX2_triangleKeyFrom_1 ?_
  refine x_lshl (M := M_X2_triangleKeyFrom) dX2_triangleKeyFrom_3 ?_
  refine x_lload_n (M := M_X2_triangleKeyFrom) dX2_triangleKeyFrom_4 rfl ?_
  refine x_lor (M := M_X2_triangleKeyFrom) dX2_triangleKeyFrom_5 ?_
  refine x_bipush (M := M_X2_triangleKeyFrom) dX2_triangleKeyFrom_6 ?_
  refine x_lshl (M := M_X2_triangleKeyFrom) dX2_triangleKeyFrom_8 ?_
  refine x_lload (M := M_X2_triangleKeyFrom) dX2_triangleKeyFrom_9 rfl ?_
  refine x_lor (M := M_X2_triangleKeyFrom) dX2_triangleKeyFrom_11 ?_
  exact x_lret (M := M_X2_triangleKeyFrom) dX2_triangleKeyFrom_12 rfl ⟨rfl, rfl⟩ (Nat.le_of_ble_eq_true rfl) (Nat.le_of_ble_eq_true rfl)
def F_X3_raise (fs : List Value) (c1 : Nat → Int32) (w0 : Int32) (w1 : Int32) (w2 : Int32) : List Value := fs
def A1_X3_raise (c1 : Nat → Int32) (w0 : Int32) (w1 : Int32) (w2 : Int32) : Nat → Int32 := (upd c1 (((Int32.ofInt 3) * w0) + w1).toNatClampNeg (if (c1 (((Int32.ofInt 3) * w0) + w1).toNatClampNeg) < w2 then w2 else (c1 (((Int32.ofInt 3) * w0) + w1).toNatClampNeg)))
theorem l_X3_raise {fs : List Value} {c1 : Nat → Int32} {w0 : Int32} {w1 : Int32} {w2 : Int32} : (F_X3_raise fs c1 w0 w1 w2).length = fs.length := by
  unfold F_X3_raise
  first | rfl | simp only [List.length_set]
theorem k_X3_raise {fs : List Value} {c1 : Nat → Int32} {w0 : Int32} {w1 : Int32} {w2 : Int32} {k : Nat} (hk : k ∉ ([] : List Nat)) : (F_X3_raise fs c1 w0 w1 w2)[k]? = fs[k]? := by
  clear hk
  unfold F_X3_raise
  first | rfl | simp only []
theorem p_X3_raise {l : Launch} {E : EE} (hl : l.stackTraces = false) {h : HP} {c1 : Nat → Int32} {w0 : Int32} {w1 : Int32} {w2 : Int32} {a : Nat} {fs : List Value} (ha : ob h a = some (.inr (6, fs))) {r1 n1 : Nat} (e1 : fs[1]? = some (.ref r1)) (o1 : ob h r1 = some (.inl (0, n1, .inl c1))) (i0 : vp_in (((Int32.ofInt 3) * w0) + w1) n1) (i1 : vp_in (((Int32.ofInt 3) * w0) + w1) n1) : en_C l E M_X3_raise 1 0 0 [.ref a, .int w0, .int w1, .int w2] h (pR none (stt (stt h a (.inr (6, F_X3_raise fs c1 w0 w1 w2))) r1 (.inl (0, n1, .inl (A1_X3_raise c1 w0 w1 w2))))) := by
  refine en_mk m_X3_raise rfl hl (Nat.le_of_ble_eq_true rfl) ?_
  refine x_heap (h' := (stt (stt h a (.inr (6, fs))) r1 (.inl (0, n1, .inl c1)))) (by rw [stt_id ha, stt_id o1]) ?_
  refine x_iconst (M := M_X3_raise) dX3_raise_0 ?_
  refine x_iload_n (M := M_X3_raise) dX3_raise_1 rfl ?_
  refine x_imul (M := M_X3_raise) dX3_raise_2 ?_
  refine x_iload_n (M := M_X3_raise) dX3_raise_3 rfl ?_
  refine x_iadd (M := M_X3_raise) dX3_raise_4 ?_
  refine x_istore (M := M_X3_raise) dX3_raise_5 (by decide) rfl ?_
  refine x_norm (lv' := [some (.ref a), some (.int w0), some (.int w1), some (.int w2), some (.int (((Int32.ofInt 3) * w0) + w1))]) rfl rfl rfl rfl rfl ?_
  refine x_aload_n (M := M_X3_raise) dX3_raise_7 rfl ?_
  refine x_getf (M := M_X3_raise) (ci := 6) (C := RX3) (T := TX3) (N := 12) (ty := tyX3) cl6 dX3_raise_8 (ob_up (ob_df ha o1).symm (ob_at o1).1 (ob_self ha)) 1 (by decide) t_443 e1 ?_
  refine x_iload (M := M_X3_raise) dX3_raise_11 rfl ?_
  refine x_aload_n (M := M_X3_raise) dX3_raise_13 rfl ?_
  refine x_getf (M := M_X3_raise) (ci := 6) (C := RX3) (T := TX3) (N := 12) (ty := tyX3) cl6 dX3_raise_14 (ob_up (ob_df ha o1).symm (ob_at o1).1 (ob_self ha)) 1 (by decide) t_443 e1 ?_
  refine x_iload (M := M_X3_raise) dX3_raise_17 rfl ?_
  refine x_iald (M := M_X3_raise) dX3_raise_19 (ob_self (ob_oth ha o1)) i0 ?_
  refine x_iload_n (M := M_X3_raise) dX3_raise_20 rfl ?_
  refine x_mmax (M := M_X3_raise) dX3_raise_21 t_2002 t_1013 t_20 t_1014 (Nat.le_of_ble_eq_true rfl) (Nat.le_of_ble_eq_true rfl) (Nat.le_of_ble_eq_true rfl) (Nat.le_of_ble_eq_true rfl) ?_
  refine x_iast (M := M_X3_raise) dX3_raise_24 (ob_self (ob_oth ha o1)) i1 ?_
  refine x_heap (h' := (stt (stt h a (.inr (6, fs))) r1 (.inl (0, n1, .inl (upd c1 (((Int32.ofInt 3) * w0) + w1).toNatClampNeg (if (c1 (((Int32.ofInt 3) * w0) + w1).toNatClampNeg) < w2 then w2 else (c1 (((Int32.ofInt 3) * w0) + w1).toNatClampNeg))))))) (by rw [stt_stt (a := r1)]) ?_
  exact x_vret (M := M_X3_raise) dX3_raise_25 rfl ⟨rfl, by rw [F_X3_raise, A1_X3_raise]⟩ (Nat.le_of_ble_eq_true rfl) (Nat.le_of_ble_eq_true rfl)
def f_X3_has (c1 : Nat → Int32) (w0 : Int32) (w1 : Int32) : Int32 := if (c1 (((Int32.ofInt 3) * w0) + w1).toNatClampNeg) < 0 then (Int32.ofInt 0) else ((Int32.ofInt 1))
theorem b_X3_has (c1 : Nat → Int32) (w0 : Int32) (w1 : Int32) : f_X3_has c1 w0 w1 = 0 ∨ f_X3_has c1 w0 w1 = 1 := (ite01 (Or.inl rfl) (Or.inr rfl))
theorem p_X3_has {l : Launch} {E : EE} (hl : l.stackTraces = false) {h : HP} {c1 : Nat → Int32} {w0 : Int32} {w1 : Int32} {a : Nat} {fs : List Value} (ha : ob h a = some (.inr (6, fs))) {r1 n1 : Nat} (e1 : fs[1]? = some (.ref r1)) (o1 : ob h r1 = some (.inl (0, n1, .inl c1))) (i0 : vp_in (((Int32.ofInt 3) * w0) + w1) n1) : en_C l E M_X3_has 0 0 0 [.ref a, .int w0, .int w1] h (pR (some (.int (f_X3_has c1 w0 w1))) h) := by
  refine en_mk m_X3_has rfl hl (Nat.le_of_ble_eq_true rfl) ?_
  refine x_aload_n (M := M_X3_has) dX3_has_0 rfl ?_
  refine x_getf (M := M_X3_has) (ci := 6) (C := RX3) (T := TX3) (N := 12) (ty := tyX3) cl6 dX3_has_1 ha 1 (by decide) t_443 e1 ?_
  refine x_iconst (M := M_X3_has) dX3_has_4 ?_
  refine x_iload_n (M := M_X3_has) dX3_has_5 rfl ?_
  refine x_imul (M := M_X3_has) dX3_has_6 ?_
  refine x_iload_n (M := M_X3_has) dX3_has_7 rfl ?_
  refine x_iadd (M := M_X3_has) dX3_has_8 ?_
  refine x_iald (M := M_X3_has) dX3_has_9 o1 i0 ?_
  refine x_if_lt (M := M_X3_has) (tgt := 17) dX3_has_10 (by decide) (fun q0 => ?_) (fun q0 => ?_)
  · refine x_iconst (M := M_X3_has) dX3_has_17 ?_
    exact x_zret (M := M_X3_has) dX3_has_18 rfl (Or.inl rfl) ⟨by rw [f_X3_has, if_pos q0], rfl⟩ (Nat.le_of_ble_eq_true rfl) (Nat.le_of_ble_eq_true rfl)
  · refine x_iconst (M := M_X3_has) dX3_has_13 ?_
    refine x_goto (M := M_X3_has) (tgt := 18) dX3_has_14 (by decide) ?_
    exact x_zret (M := M_X3_has) dX3_has_18 rfl (Or.inr rfl) ⟨by rw [f_X3_has, if_neg q0], rfl⟩ (Nat.le_of_ble_eq_true rfl) (Nat.le_of_ble_eq_true rfl)
def f_X3_haveCommonPlace (c1 : Nat → Int32) : Int32 := if (f_X3_has c1 (Int32.ofInt 0) (Int32.ofInt 0)) = 0 then if (f_X3_has c1 (Int32.ofInt 0) (Int32.ofInt 1)) = 0 then if (f_X3_has c1 (Int32.ofInt 1) (Int32.ofInt 0)) = 0 then if (f_X3_has c1 (Int32.ofInt 1) (Int32.ofInt 1)) = 0 then (Int32.ofInt 0) else ((Int32.ofInt 1)) else ((Int32.ofInt 1)) else ((Int32.ofInt 1)) else ((Int32.ofInt 1))
theorem b_X3_haveCommonPlace (c1 : Nat → Int32) : f_X3_haveCommonPlace c1 = 0 ∨ f_X3_haveCommonPlace c1 = 1 := (ite01 (ite01 (ite01 (ite01 (Or.inl rfl) (Or.inr rfl)) (Or.inr rfl)) (Or.inr rfl)) (Or.inr rfl))
theorem p_X3_haveCommonPlace {l : Launch} {E : EE} (hl : l.stackTraces = false) {h : HP} {c1 : Nat → Int32} {a : Nat} {fs : List Value} (ha : ob h a = some (.inr (6, fs))) {r1 n1 : Nat} (e1 : fs[1]? = some (.ref r1)) (o1 : ob h r1 = some (.inl (0, n1, .inl c1))) (i0 : (vp_in (((Int32.ofInt 3) * (Int32.ofInt 0)) + (Int32.ofInt 0)) n1)) (i1 : ((f_X3_has c1 (Int32.ofInt 0) (Int32.ofInt 0)) = 0) → (vp_in (((Int32.ofInt 3) * (Int32.ofInt 0)) + (Int32.ofInt 1)) n1)) (i2 : ((f_X3_has c1 (Int32.ofInt 0) (Int32.ofInt 0)) = 0) → ((f_X3_has c1 (Int32.ofInt 0) (Int32.ofInt 1)) = 0) → (vp_in (((Int32.ofInt 3) * (Int32.ofInt 1)) + (Int32.ofInt 0)) n1)) (i3 : ((f_X3_has c1 (Int32.ofInt 0) (Int32.ofInt 0)) = 0) → ((f_X3_has c1 (Int32.ofInt 0) (Int32.ofInt 1)) = 0) → ((f_X3_has c1 (Int32.ofInt 1) (Int32.ofInt 0)) = 0) → (vp_in (((Int32.ofInt 3) * (Int32.ofInt 1)) + (Int32.ofInt 1)) n1)) : en_C l E M_X3_haveCommonPlace 1 0 0 [.ref a] h (pR (some (.int (f_X3_haveCommonPlace c1))) h) := by
  refine en_mk m_X3_haveCommonPlace rfl hl (Nat.le_of_ble_eq_true rfl) ?_
  refine x_aload_n (M := M_X3_haveCommonPlace) dX3_haveCommonPlace_0 rfl ?_
  refine x_iconst (M := M_X3_haveCommonPlace) dX3_haveCommonPlace_1 ?_
  refine x_iconst (M := M_X3_haveCommonPlace) dX3_haveCommonPlace_2 ?_
  refine x_callVR (M := M_X3_haveCommonPlace) (M' := M_X3_has) rfl rfl dX3_haveCommonPlace_3 m_X3_has t_2046 t_2048 s_123 (p_X3_has hl ha e1 o1 i0) rfl rfl ha rfl (Nat.le_of_ble_eq_true rfl) (Nat.le_of_ble_eq_true rfl) (Nat.le_of_ble_eq_true rfl) (Nat.le_of_ble_eq_true rfl) ?_
  refine x_if_ne (M := M_X3_haveCommonPlace) (tgt := 36) dX3_haveCommonPlace_6 (by decide) (fun q0 => ?_) (fun q0 => ?_)
  · refine x_iconst (M := M_X3_haveCommonPlace) dX3_haveCommonPlace_36 ?_
    refine x_goto (M := M_X3_haveCommonPlace) (tgt := 41) dX3_haveCommonPlace_37 (by decide) ?_
    exact x_zret (M := M_X3_haveCommonPlace) dX3_haveCommonPlace_41 rfl (Or.inr rfl) ⟨by rw [f_X3_haveCommonPlace, if_neg q0], rfl⟩ (Nat.le_of_ble_eq_true rfl) (Nat.le_of_ble_eq_true rfl)
  · refine x_aload_n (M := M_X3_haveCommonPlace) dX3_haveCommonPlace_9 rfl ?_
    refine x_iconst (M := M_X3_haveCommonPlace) dX3_haveCommonPlace_10 ?_
    refine x_iconst (M := M_X3_haveCommonPlace) dX3_haveCommonPlace_11 ?_
    refine x_callVR (M := M_X3_haveCommonPlace) (M' := M_X3_has) rfl rfl dX3_haveCommonPlace_12 m_X3_has t_2046 t_2048 s_123 (p_X3_has hl ha e1 o1 (i1 q0)) rfl rfl ha rfl (Nat.le_of_ble_eq_true rfl) (Nat.le_of_ble_eq_true rfl) (Nat.le_of_ble_eq_true rfl) (Nat.le_of_ble_eq_true rfl) ?_
    refine x_if_ne (M := M_X3_haveCommonPlace) (tgt := 36) dX3_haveCommonPlace_15 (by decide) (fun q1 => ?_) (fun q1 => ?_)
    · refine x_iconst (M := M_X3_haveCommonPlace) dX3_haveCommonPlace_36 ?_
      refine x_goto (M := M_X3_haveCommonPlace) (tgt := 41) dX3_haveCommonPlace_37 (by decide) ?_
      exact x_zret (M := M_X3_haveCommonPlace) dX3_haveCommonPlace_41 rfl (Or.inr rfl) ⟨by rw [f_X3_haveCommonPlace, if_pos q0, if_neg q1], rfl⟩ (Nat.le_of_ble_eq_true rfl) (Nat.le_of_ble_eq_true rfl)
    · refine x_aload_n (M := M_X3_haveCommonPlace) dX3_haveCommonPlace_18 rfl ?_
      refine x_iconst (M := M_X3_haveCommonPlace) dX3_haveCommonPlace_19 ?_
      refine x_iconst (M := M_X3_haveCommonPlace) dX3_haveCommonPlace_20 ?_
      refine x_callVR (M := M_X3_haveCommonPlace) (M' := M_X3_has) rfl rfl dX3_haveCommonPlace_21 m_X3_has t_2046 t_2048 s_123 (p_X3_has hl ha e1 o1 (i2 q0 q1)) rfl rfl ha rfl (Nat.le_of_ble_eq_true rfl) (Nat.le_of_ble_eq_true rfl) (Nat.le_of_ble_eq_true rfl) (Nat.le_of_ble_eq_true rfl) ?_
      refine x_if_ne (M := M_X3_haveCommonPlace) (tgt := 36) dX3_haveCommonPlace_24 (by decide) (fun q2 => ?_) (fun q2 => ?_)
      · refine x_iconst (M := M_X3_haveCommonPlace) dX3_haveCommonPlace_36 ?_
        refine x_goto (M := M_X3_haveCommonPlace) (tgt := 41) dX3_haveCommonPlace_37 (by decide) ?_
        exact x_zret (M := M_X3_haveCommonPlace) dX3_haveCommonPlace_41 rfl (Or.inr rfl) ⟨by rw [f_X3_haveCommonPlace, if_pos q0, if_pos q1, if_neg q2], rfl⟩ (Nat.le_of_ble_eq_true rfl) (Nat.le_of_ble_eq_true rfl)
      · refine x_aload_n (M := M_X3_haveCommonPlace) dX3_haveCommonPlace_27 rfl ?_
        refine x_iconst (M := M_X3_haveCommonPlace) dX3_haveCommonPlace_28 ?_
        refine x_iconst (M := M_X3_haveCommonPlace) dX3_haveCommonPlace_29 ?_
        refine x_callVR (M := M_X3_haveCommonPlace) (M' := M_X3_has) rfl rfl dX3_haveCommonPlace_30 m_X3_has t_2046 t_2048 s_123 (p_X3_has hl ha e1 o1 (i3 q0 q1 q2)) rfl rfl ha rfl (Nat.le_of_ble_eq_true rfl) (Nat.le_of_ble_eq_true rfl) (Nat.le_of_ble_eq_true rfl) (Nat.le_of_ble_eq_true rfl) ?_
        refine x_if_eq (M := M_X3_haveCommonPlace) (tgt := 40) dX3_haveCommonPlace_33 (by decide) (fun q3 => ?_) (fun q3 => ?_)
        · refine x_iconst (M := M_X3_haveCommonPlace) dX3_haveCommonPlace_40 ?_
          exact x_zret (M := M_X3_haveCommonPlace) dX3_haveCommonPlace_41 rfl (Or.inl rfl) ⟨by rw [f_X3_haveCommonPlace, if_pos q0, if_pos q1, if_pos q2, if_pos q3], rfl⟩ (Nat.le_of_ble_eq_true rfl) (Nat.le_of_ble_eq_true rfl)
        · refine x_iconst (M := M_X3_haveCommonPlace) dX3_haveCommonPlace_36 ?_
          refine x_goto (M := M_X3_haveCommonPlace) (tgt := 41) dX3_haveCommonPlace_37 (by decide) ?_
          exact x_zret (M := M_X3_haveCommonPlace) dX3_haveCommonPlace_41 rfl (Or.inr rfl) ⟨by rw [f_X3_haveCommonPlace, if_pos q0, if_pos q1, if_pos q2, if_neg q3], rfl⟩ (Nat.le_of_ble_eq_true rfl) (Nat.le_of_ble_eq_true rfl)
def f_X3_isFirstOutside (c1 : Nat → Int32) : Int32 := if (f_X3_has c1 (Int32.ofInt 0) (Int32.ofInt 2)) = 0 then if (f_X3_has c1 (Int32.ofInt 1) (Int32.ofInt 2)) = 0 then (Int32.ofInt 0) else ((Int32.ofInt 1)) else ((Int32.ofInt 1))
theorem b_X3_isFirstOutside (c1 : Nat → Int32) : f_X3_isFirstOutside c1 = 0 ∨ f_X3_isFirstOutside c1 = 1 := (ite01 (ite01 (Or.inl rfl) (Or.inr rfl)) (Or.inr rfl))
theorem p_X3_isFirstOutside {l : Launch} {E : EE} (hl : l.stackTraces = false) {h : HP} {c1 : Nat → Int32} {a : Nat} {fs : List Value} (ha : ob h a = some (.inr (6, fs))) {r1 n1 : Nat} (e1 : fs[1]? = some (.ref r1)) (o1 : ob h r1 = some (.inl (0, n1, .inl c1))) (i0 : (vp_in (((Int32.ofInt 3) * (Int32.ofInt 0)) + (Int32.ofInt 2)) n1)) (i1 : ((f_X3_has c1 (Int32.ofInt 0) (Int32.ofInt 2)) = 0) → (vp_in (((Int32.ofInt 3) * (Int32.ofInt 1)) + (Int32.ofInt 2)) n1)) : en_C l E M_X3_isFirstOutside 1 0 0 [.ref a] h (pR (some (.int (f_X3_isFirstOutside c1))) h) := by
  refine en_mk m_X3_isFirstOutside rfl hl (Nat.le_of_ble_eq_true rfl) ?_
  refine x_aload_n (M := M_X3_isFirstOutside) dX3_isFirstOutside_0 rfl ?_
  refine x_iconst (M := M_X3_isFirstOutside) dX3_isFirstOutside_1 ?_
  refine x_iconst (M := M_X3_isFirstOutside) dX3_isFirstOutside_2 ?_
  refine x_callVR (M := M_X3_isFirstOutside) (M' := M_X3_has) rfl rfl dX3_isFirstOutside_3 m_X3_has t_2046 t_2048 s_123 (p_X3_has hl ha e1 o1 i0) rfl rfl ha rfl (Nat.le_of_ble_eq_true rfl) (Nat.le_of_ble_eq_true rfl) (Nat.le_of_ble_eq_true rfl) (Nat.le_of_ble_eq_true rfl) ?_
  refine x_if_ne (M := M_X3_isFirstOutside) (tgt := 18) dX3_isFirstOutside_6 (by decide) (fun q0 => ?_) (fun q0 => ?_)
  · refine x_iconst (M := M_X3_isFirstOutside) dX3_isFirstOutside_18 ?_
    refine x_goto (M := M_X3_isFirstOutside) (tgt := 23) dX3_isFirstOutside_19 (by decide) ?_
    exact x_zret (M := M_X3_isFirstOutside) dX3_isFirstOutside_23 rfl (Or.inr rfl) ⟨by rw [f_X3_isFirstOutside, if_neg q0], rfl⟩ (Nat.le_of_ble_eq_true rfl) (Nat.le_of_ble_eq_true rfl)
  · refine x_aload_n (M := M_X3_isFirstOutside) dX3_isFirstOutside_9 rfl ?_
    refine x_iconst (M := M_X3_isFirstOutside) dX3_isFirstOutside_10 ?_
    refine x_iconst (M := M_X3_isFirstOutside) dX3_isFirstOutside_11 ?_
    refine x_callVR (M := M_X3_isFirstOutside) (M' := M_X3_has) rfl rfl dX3_isFirstOutside_12 m_X3_has t_2046 t_2048 s_123 (p_X3_has hl ha e1 o1 (i1 q0)) rfl rfl ha rfl (Nat.le_of_ble_eq_true rfl) (Nat.le_of_ble_eq_true rfl) (Nat.le_of_ble_eq_true rfl) (Nat.le_of_ble_eq_true rfl) ?_
    refine x_if_eq (M := M_X3_isFirstOutside) (tgt := 22) dX3_isFirstOutside_15 (by decide) (fun q1 => ?_) (fun q1 => ?_)
    · refine x_iconst (M := M_X3_isFirstOutside) dX3_isFirstOutside_22 ?_
      exact x_zret (M := M_X3_isFirstOutside) dX3_isFirstOutside_23 rfl (Or.inl rfl) ⟨by rw [f_X3_isFirstOutside, if_pos q0, if_pos q1], rfl⟩ (Nat.le_of_ble_eq_true rfl) (Nat.le_of_ble_eq_true rfl)
    · refine x_iconst (M := M_X3_isFirstOutside) dX3_isFirstOutside_18 ?_
      refine x_goto (M := M_X3_isFirstOutside) (tgt := 23) dX3_isFirstOutside_19 (by decide) ?_
      exact x_zret (M := M_X3_isFirstOutside) dX3_isFirstOutside_23 rfl (Or.inr rfl) ⟨by rw [f_X3_isFirstOutside, if_pos q0, if_neg q1], rfl⟩ (Nat.le_of_ble_eq_true rfl) (Nat.le_of_ble_eq_true rfl)
def f_X3_isSecondOutside (c1 : Nat → Int32) : Int32 := if (f_X3_has c1 (Int32.ofInt 2) (Int32.ofInt 0)) = 0 then if (f_X3_has c1 (Int32.ofInt 2) (Int32.ofInt 1)) = 0 then (Int32.ofInt 0) else ((Int32.ofInt 1)) else ((Int32.ofInt 1))
theorem b_X3_isSecondOutside (c1 : Nat → Int32) : f_X3_isSecondOutside c1 = 0 ∨ f_X3_isSecondOutside c1 = 1 := (ite01 (ite01 (Or.inl rfl) (Or.inr rfl)) (Or.inr rfl))
theorem p_X3_isSecondOutside {l : Launch} {E : EE} (hl : l.stackTraces = false) {h : HP} {c1 : Nat → Int32} {a : Nat} {fs : List Value} (ha : ob h a = some (.inr (6, fs))) {r1 n1 : Nat} (e1 : fs[1]? = some (.ref r1)) (o1 : ob h r1 = some (.inl (0, n1, .inl c1))) (i0 : (vp_in (((Int32.ofInt 3) * (Int32.ofInt 2)) + (Int32.ofInt 0)) n1)) (i1 : ((f_X3_has c1 (Int32.ofInt 2) (Int32.ofInt 0)) = 0) → (vp_in (((Int32.ofInt 3) * (Int32.ofInt 2)) + (Int32.ofInt 1)) n1)) : en_C l E M_X3_isSecondOutside 1 0 0 [.ref a] h (pR (some (.int (f_X3_isSecondOutside c1))) h) := by
  refine en_mk m_X3_isSecondOutside rfl hl (Nat.le_of_ble_eq_true rfl) ?_
  refine x_aload_n (M := M_X3_isSecondOutside) dX3_isSecondOutside_0 rfl ?_
  refine x_iconst (M := M_X3_isSecondOutside) dX3_isSecondOutside_1 ?_
  refine x_iconst (M := M_X3_isSecondOutside) dX3_isSecondOutside_2 ?_
  refine x_callVR (M := M_X3_isSecondOutside) (M' := M_X3_has) rfl rfl dX3_isSecondOutside_3 m_X3_has t_2046 t_2048 s_123 (p_X3_has hl ha e1 o1 i0) rfl rfl ha rfl (Nat.le_of_ble_eq_true rfl) (Nat.le_of_ble_eq_true rfl) (Nat.le_of_ble_eq_true rfl) (Nat.le_of_ble_eq_true rfl) ?_
  refine x_if_ne (M := M_X3_isSecondOutside) (tgt := 18) dX3_isSecondOutside_6 (by decide) (fun q0 => ?_) (fun q0 => ?_)
  · refine x_iconst (M := M_X3_isSecondOutside) dX3_isSecondOutside_18 ?_
    refine x_goto (M := M_X3_isSecondOutside) (tgt := 23) dX3_isSecondOutside_19 (by decide) ?_
    exact x_zret (M := M_X3_isSecondOutside) dX3_isSecondOutside_23 rfl (Or.inr rfl) ⟨by rw [f_X3_isSecondOutside, if_neg q0], rfl⟩ (Nat.le_of_ble_eq_true rfl) (Nat.le_of_ble_eq_true rfl)
  · refine x_aload_n (M := M_X3_isSecondOutside) dX3_isSecondOutside_9 rfl ?_
    refine x_iconst (M := M_X3_isSecondOutside) dX3_isSecondOutside_10 ?_
    refine x_iconst (M := M_X3_isSecondOutside) dX3_isSecondOutside_11 ?_
    refine x_callVR (M := M_X3_isSecondOutside) (M' := M_X3_has) rfl rfl dX3_isSecondOutside_12 m_X3_has t_2046 t_2048 s_123 (p_X3_has hl ha e1 o1 (i1 q0)) rfl rfl ha rfl (Nat.le_of_ble_eq_true rfl) (Nat.le_of_ble_eq_true rfl) (Nat.le_of_ble_eq_true rfl) (Nat.le_of_ble_eq_true rfl) ?_
    refine x_if_eq (M := M_X3_isSecondOutside) (tgt := 22) dX3_isSecondOutside_15 (by decide) (fun q1 => ?_) (fun q1 => ?_)
    · refine x_iconst (M := M_X3_isSecondOutside) dX3_isSecondOutside_22 ?_
      exact x_zret (M := M_X3_isSecondOutside) dX3_isSecondOutside_23 rfl (Or.inl rfl) ⟨by rw [f_X3_isSecondOutside, if_pos q0, if_pos q1], rfl⟩ (Nat.le_of_ble_eq_true rfl) (Nat.le_of_ble_eq_true rfl)
    · refine x_iconst (M := M_X3_isSecondOutside) dX3_isSecondOutside_18 ?_
      refine x_goto (M := M_X3_isSecondOutside) (tgt := 23) dX3_isSecondOutside_19 (by decide) ?_
      exact x_zret (M := M_X3_isSecondOutside) dX3_isSecondOutside_23 rfl (Or.inr rfl) ⟨by rw [f_X3_isSecondOutside, if_pos q0, if_neg q1], rfl⟩ (Nat.le_of_ble_eq_true rfl) (Nat.le_of_ble_eq_true rfl)
def f_X3_lieAcross (c1 : Nat → Int32) (w0 : Int32) (w1 : Int32) : Int32 := if w1 ≤ w0 then if w0 ≤ w1 then if w0 = (Int32.ofInt 1) then if (c1 (Int32.ofInt 0).toNatClampNeg) = 0 then (Int32.ofInt 1) else ((Int32.ofInt 0)) else ((Int32.ofInt 0)) else (if (f_X3_has c1 (Int32.ofInt 0) (Int32.ofInt 0)) = 0 then (Int32.ofInt 0) else (if (f_X3_has c1 (Int32.ofInt 2) (Int32.ofInt 0)) = 0 then (Int32.ofInt 0) else ((Int32.ofInt 1)))) else (if (f_X3_has c1 (Int32.ofInt 0) (Int32.ofInt 0)) = 0 then (Int32.ofInt 0) else (if (f_X3_has c1 (Int32.ofInt 0) (Int32.ofInt 2)) = 0 then (Int32.ofInt 0) else ((Int32.ofInt 1))))
theorem b_X3_lieAcross (c1 : Nat → Int32) (w0 : Int32) (w1 : Int32) : f_X3_lieAcross c1 w0 w1 = 0 ∨ f_X3_lieAcross c1 w0 w1 = 1 := (ite01 (ite01 (ite01 (ite01 (Or.inr rfl) (Or.inl rfl)) (Or.inl rfl)) (ite01 (Or.inl rfl) (ite01 (Or.inl rfl) (Or.inr rfl)))) (ite01 (Or.inl rfl) (ite01 (Or.inl rfl) (Or.inr rfl))))
theorem p_X3_lieAcross {l : Launch} {E : EE} (hl : l.stackTraces = false) {h : HP} {c1 : Nat → Int32} {w0 : Int32} {w1 : Int32} {a : Nat} {fs : List Value} (ha : ob h a = some (.inr (6, fs))) {r1 n1 : Nat} (e1 : fs[1]? = some (.ref r1)) (o1 : ob h r1 = some (.inl (0, n1, .inl c1))) (i0 : (w1 ≤ w0) → (w0 ≤ w1) → (w0 = (Int32.ofInt 1)) → vp_in (Int32.ofInt 0) n1) (i1 : (w1 ≤ w0) → (¬ w0 ≤ w1) → (vp_in (((Int32.ofInt 3) * (Int32.ofInt 0)) + (Int32.ofInt 0)) n1)) (i2 : (w1 ≤ w0) → (¬ w0 ≤ w1) → (¬ (f_X3_has c1 (Int32.ofInt 0) (Int32.ofInt 0)) = 0) → (vp_in (((Int32.ofInt 3) * (Int32.ofInt 2)) + (Int32.ofInt 0)) n1)) (i3 : (¬ w1 ≤ w0) → (vp_in (((Int32.ofInt 3) * (Int32.ofInt 0)) + (Int32.ofInt 0)) n1)) (i4 : (¬ w1 ≤ w0) → (¬ (f_X3_has c1 (Int32.ofInt 0) (Int32.ofInt 0)) = 0) → (vp_in (((Int32.ofInt 3) * (Int32.ofInt 0)) + (Int32.ofInt 2)) n1)) : en_C l E M_X3_lieAcross 1 0 0 [.ref a, .int w0, .int w1] h (pR (some (.int (f_X3_lieAcross c1 w0 w1))) h) := by
  refine en_mk m_X3_lieAcross rfl hl (Nat.le_of_ble_eq_true rfl) ?_
  refine x_iload_n (M := M_X3_lieAcross) dX3_lieAcross_0 rfl ?_
  refine x_iload_n (M := M_X3_lieAcross) dX3_lieAcross_1 rfl ?_
  refine x_icmp_ge (M := M_X3_lieAcross) (tgt := 29) dX3_lieAcross_2 (by decide) (fun q0 => ?_) (fun q0 => ?_)
  · refine x_iload_n (M := M_X3_lieAcross) dX3_lieAcross_29 rfl ?_
    refine x_iload_n (M := M_X3_lieAcross) dX3_lieAcross_30 rfl ?_
    refine x_icmp_le (M := M_X3_lieAcross) (tgt := 58) dX3_lieAcross_31 (by decide) (fun q1 => ?_) (fun q1 => ?_)
    · refine x_iload_n (M := M_X3_lieAcross) dX3_lieAcross_58 rfl ?_
      refine x_iconst (M := M_X3_lieAcross) dX3_lieAcross_59 ?_
      refine x_icmp_ne (M := M_X3_lieAcross) (tgt := 76) dX3_lieAcross_60 (by decide) (fun q2 => ?_) (fun q2 => ?_)
      · refine x_iconst (M := M_X3_lieAcross) dX3_lieAcross_76 ?_
        exact x_zret (M := M_X3_lieAcross) dX3_lieAcross_77 rfl (Or.inl rfl) ⟨by rw [f_X3_lieAcross, if_pos q0, if_pos q1, if_neg q2], rfl⟩ (Nat.le_of_ble_eq_true rfl) (Nat.le_of_ble_eq_true rfl)
      · refine x_aload_n (M := M_X3_lieAcross) dX3_lieAcross_63 rfl ?_
        refine x_getf (M := M_X3_lieAcross) (ci := 6) (C := RX3) (T := TX3) (N := 12) (ty := tyX3) cl6 dX3_lieAcross_64 ha 1 (by decide) t_443 e1 ?_
        refine x_iconst (M := M_X3_lieAcross) dX3_lieAcross_67 ?_
        refine x_iald (M := M_X3_lieAcross) dX3_lieAcross_68 o1 (i0 q0 q1 q2) ?_
        refine x_if_ne (M := M_X3_lieAcross) (tgt := 76) dX3_lieAcross_69 (by decide) (fun q3 => ?_) (fun q3 => ?_)
        · refine x_iconst (M := M_X3_lieAcross) dX3_lieAcross_76 ?_
          exact x_zret (M := M_X3_lieAcross) dX3_lieAcross_77 rfl (Or.inl rfl) ⟨by rw [f_X3_lieAcross, if_pos q0, if_pos q1, if_pos q2, if_neg q3], rfl⟩ (Nat.le_of_ble_eq_true rfl) (Nat.le_of_ble_eq_true rfl)
        · refine x_iconst (M := M_X3_lieAcross) dX3_lieAcross_72 ?_
          refine x_goto (M := M_X3_lieAcross) (tgt := 77) dX3_lieAcross_73 (by decide) ?_
          exact x_zret (M := M_X3_lieAcross) dX3_lieAcross_77 rfl (Or.inr rfl) ⟨by rw [f_X3_lieAcross, if_pos q0, if_pos q1, if_pos q2, if_pos q3], rfl⟩ (Nat.le_of_ble_eq_true rfl) (Nat.le_of_ble_eq_true rfl)
    · refine x_aload_n (M := M_X3_lieAcross) dX3_lieAcross_34 rfl ?_
      refine x_iconst (M := M_X3_lieAcross) dX3_lieAcross_35 ?_
      refine x_iconst (M := M_X3_lieAcross) dX3_lieAcross_36 ?_
      refine x_callVR (M := M_X3_lieAcross) (M' := M_X3_has) rfl rfl dX3_lieAcross_37 m_X3_has t_2046 t_2048 s_123 (p_X3_has hl ha e1 o1 (i1 q0 q1)) rfl rfl ha rfl (Nat.le_of_ble_eq_true rfl) (Nat.le_of_ble_eq_true rfl) (Nat.le_of_ble_eq_true rfl) (Nat.le_of_ble_eq_true rfl) ?_
      refine x_if_eq (M := M_X3_lieAcross) (tgt := 56) dX3_lieAcross_40 (by decide) (fun q2 => ?_) (fun q2 => ?_)
      · refine x_iconst (M := M_X3_lieAcross) dX3_lieAcross_56 ?_
        exact x_zret (M := M_X3_lieAcross) dX3_lieAcross_57 rfl (Or.inl rfl) ⟨by rw [f_X3_lieAcross, if_pos q0, if_neg q1, if_pos q2], rfl⟩ (Nat.le_of_ble_eq_true rfl) (Nat.le_of_ble_eq_true rfl)
      · refine x_aload_n (M := M_X3_lieAcross) dX3_lieAcross_43 rfl ?_
        refine x_iconst (M := M_X3_lieAcross) dX3_lieAcross_44 ?_
        refine x_iconst (M := M_X3_lieAcross) dX3_lieAcross_45 ?_
        refine x_callVR (M := M_X3_lieAcross) (M' := M_X3_has) rfl rfl dX3_lieAcross_46 m_X3_has t_2046 t_2048 s_123 (p_X3_has hl ha e1 o1 (i2 q0 q1 q2)) rfl rfl ha rfl (Nat.le_of_ble_eq_true rfl) (Nat.le_of_ble_eq_true rfl) (Nat.le_of_ble_eq_true rfl) (Nat.le_of_ble_eq_true rfl) ?_
        refine x_if_eq (M := M_X3_lieAcross) (tgt := 56) dX3_lieAcross_49 (by decide) (fun q3 => ?_) (fun q3 => ?_)
        · refine x_iconst (M := M_X3_lieAcross) dX3_lieAcross_56 ?_
          exact x_zret (M := M_X3_lieAcross) dX3_lieAcross_57 rfl (Or.inl rfl) ⟨by rw [f_X3_lieAcross, if_pos q0, if_neg q1, if_neg q2, if_pos q3], rfl⟩ (Nat.le_of_ble_eq_true rfl) (Nat.le_of_ble_eq_true rfl)
        · refine x_iconst (M := M_X3_lieAcross) dX3_lieAcross_52 ?_
          refine x_goto (M := M_X3_lieAcross) (tgt := 57) dX3_lieAcross_53 (by decide) ?_
          exact x_zret (M := M_X3_lieAcross) dX3_lieAcross_57 rfl (Or.inr rfl) ⟨by rw [f_X3_lieAcross, if_pos q0, if_neg q1, if_neg q2, if_neg q3], rfl⟩ (Nat.le_of_ble_eq_true rfl) (Nat.le_of_ble_eq_true rfl)
  · refine x_aload_n (M := M_X3_lieAcross) dX3_lieAcross_5 rfl ?_
    refine x_iconst (M := M_X3_lieAcross) dX3_lieAcross_6 ?_
    refine x_iconst (M := M_X3_lieAcross) dX3_lieAcross_7 ?_
    refine x_callVR (M := M_X3_lieAcross) (M' := M_X3_has) rfl rfl dX3_lieAcross_8 m_X3_has t_2046 t_2048 s_123 (p_X3_has hl ha e1 o1 (i3 q0)) rfl rfl ha rfl (Nat.le_of_ble_eq_true rfl) (Nat.le_of_ble_eq_true rfl) (Nat.le_of_ble_eq_true rfl) (Nat.le_of_ble_eq_true rfl) ?_
    refine x_if_eq (M := M_X3_lieAcross) (tgt := 27) dX3_lieAcross_11 (by decide) (fun q1 => ?_) (fun q1 => ?_)
    · refine x_iconst (M := M_X3_lieAcross) dX3_lieAcross_27 ?_
      exact x_zret (M := M_X3_lieAcross) dX3_lieAcross_28 rfl (Or.inl rfl) ⟨by rw [f_X3_lieAcross, if_neg q0, if_pos q1], rfl⟩ (Nat.le_of_ble_eq_true rfl) (Nat.le_of_ble_eq_true rfl)
    · refine x_aload_n (M := M_X3_lieAcross) dX3_lieAcross_14 rfl ?_
      refine x_iconst (M := M_X3_lieAcross) dX3_lieAcross_15 ?_
      refine x_iconst (M := M_X3_lieAcross) dX3_lieAcross_16 ?_
      refine x_callVR (M := M_X3_lieAcross) (M' := M_X3_has) rfl rfl dX3_lieAcross_17 m_X3_has t_2046 t_2048 s_123 (p_X3_has hl ha e1 o1 (i4 q0 q1)) rfl rfl ha rfl (Nat.le_of_ble_eq_true rfl) (Nat.le_of_ble_eq_true rfl) (Nat.le_of_ble_eq_true rfl) (Nat.le_of_ble_eq_true rfl) ?_
      refine x_if_eq (M := M_X3_lieAcross) (tgt := 27) dX3_lieAcross_20 (by decide) (fun q2 => ?_) (fun q2 => ?_)
      · refine x_iconst (M := M_X3_lieAcross) dX3_lieAcross_27 ?_
        exact x_zret (M := M_X3_lieAcross) dX3_lieAcross_28 rfl (Or.inl rfl) ⟨by rw [f_X3_lieAcross, if_neg q0, if_neg q1, if_pos q2], rfl⟩ (Nat.le_of_ble_eq_true rfl) (Nat.le_of_ble_eq_true rfl)
      · refine x_iconst (M := M_X3_lieAcross) dX3_lieAcross_23 ?_
        refine x_goto (M := M_X3_lieAcross) (tgt := 28) dX3_lieAcross_24 (by decide) ?_
        exact x_zret (M := M_X3_lieAcross) dX3_lieAcross_28 rfl (Or.inr rfl) ⟨by rw [f_X3_lieAcross, if_neg q0, if_neg q1, if_neg q2], rfl⟩ (Nat.le_of_ble_eq_true rfl) (Nat.le_of_ble_eq_true rfl)
def F_X4_addIncident (fs : List Value) (c6 : Nat → Int32) (c7 : Nat → Int32) (w0 : Int32) (w1 : Int32) : List Value := fs
def A6_X4_addIncident (c6 : Nat → Int32) (c7 : Nat → Int32) (w0 : Int32) (w1 : Int32) : Nat → Int32 := (upd c6 (w0 + (Int32.ofInt 1)).toNatClampNeg ((c6 (w0 + (Int32.ofInt 1)).toNatClampNeg) + (Int32.ofInt 1)))
def A7_X4_addIncident (c6 : Nat → Int32) (c7 : Nat → Int32) (w0 : Int32) (w1 : Int32) : Nat → Int32 := (upd c7 (c6 (w0 + (Int32.ofInt 1)).toNatClampNeg).toNatClampNeg w1)
theorem l_X4_addIncident {fs : List Value} {c6 : Nat → Int32} {c7 : Nat → Int32} {w0 : Int32} {w1 : Int32} : (F_X4_addIncident fs c6 c7 w0 w1).length = fs.length := by
  unfold F_X4_addIncident
  first | rfl | simp only [List.length_set]
theorem k_X4_addIncident {fs : List Value} {c6 : Nat → Int32} {c7 : Nat → Int32} {w0 : Int32} {w1 : Int32} {k : Nat} (hk : k ∉ ([] : List Nat)) : (F_X4_addIncident fs c6 c7 w0 w1)[k]? = fs[k]? := by
  clear hk
  unfold F_X4_addIncident
  first | rfl | simp only []
theorem p_X4_addIncident {l : Launch} {E : EE} (hl : l.stackTraces = false) {h : HP} {c6 : Nat → Int32} {c7 : Nat → Int32} {w0 : Int32} {w1 : Int32} {a : Nat} {fs : List Value} (ha : ob h a = some (.inr (7, fs))) {r6 n6 : Nat} (e6 : fs[6]? = some (.ref r6)) (o6 : ob h r6 = some (.inl (0, n6, .inl c6))) {r7 n7 : Nat} (e7 : fs[7]? = some (.ref r7)) (o7 : ob h r7 = some (.inl (0, n7, .inl c7))) (d6_7 : r6 ≠ r7) (i0 : vp_in (w0 + (Int32.ofInt 1)) n6) (i1 : vp_in (c6 (w0 + (Int32.ofInt 1)).toNatClampNeg) n7) (i2 : vp_in (w0 + (Int32.ofInt 1)) n6) (i3 : vp_in (w0 + (Int32.ofInt 1)) n6) : en_C l E M_X4_addIncident 0 0 0 [.ref a, .int w0, .int w1] h (pR none (stt (stt (stt h a (.inr (7, F_X4_addIncident fs c6 c7 w0 w1))) r6 (.inl (0, n6, .inl (A6_X4_addIncident c6 c7 w0 w1)))) r7 (.inl (0, n7, .inl (A7_X4_addIncident c6 c7 w0 w1))))) := by
  refine en_mk m_X4_addIncident rfl hl (Nat.le_of_ble_eq_true rfl) ?_
  refine x_heap (h' := (stt (stt (stt h a (.inr (7, fs))) r6 (.inl (0, n6, .inl c6))) r7 (.inl (0, n7, .inl c7)))) (by rw [stt_id ha, stt_id o6, stt_id o7]) ?_
  refine x_aload_n (M := M_X4_addIncident) dX4_addIncident_0 rfl ?_
  refine x_getf (M := M_X4_addIncident) (ci := 7) (C := RX4) (T := TX4) (N := 17) (ty := tyX4) cl7 dX4_addIncident_1 (ob_up (ob_df ha o7).symm (ob_at o7).1 (ob_up (ob_df ha o6).symm (ob_at o6).1 (ob_self ha))) 7 (by decide) t_388 e7 ?_
  refine x_aload_n (M := M_X4_addIncident) dX4_addIncident_4 rfl ?_
  refine x_getf (M := M_X4_addIncident) (ci := 7) (C := RX4) (T := TX4) (N := 17) (ty := tyX4) cl7 dX4_addIncident_5 (ob_up (ob_df ha o7).symm (ob_at o7).1 (ob_up (ob_df ha o6).symm (ob_at o6).1 (ob_self ha))) 6 (by decide) t_387 e6 ?_
  refine x_iload_n (M := M_X4_addIncident) dX4_addIncident_8 rfl ?_
  refine x_iconst (M := M_X4_addIncident) dX4_addIncident_9 ?_
  refine x_iadd (M := M_X4_addIncident) dX4_addIncident_10 ?_
  refine x_iald (M := M_X4_addIncident) dX4_addIncident_11 (ob_up d6_7.symm (ob_at o7).1 (ob_self (ob_oth ha o6))) i0 ?_
  refine x_iload_n (M := M_X4_addIncident) dX4_addIncident_12 rfl ?_
  refine x_iast (M := M_X4_addIncident) dX4_addIncident_13 (ob_self (ob_up d6_7 (ob_at o6).1 (ob_oth ha o7))) i1 ?_
  refine x_heap (h' := (stt (stt (stt h a (.inr (7, fs))) r6 (.inl (0, n6, .inl c6))) r7 (.inl (0, n7, .inl (upd c7 (c6 (w0 + (Int32.ofInt 1)).toNatClampNeg).toNatClampNeg w1))))) (by rw [stt_stt (a := r7)]) ?_
  refine x_aload_n (M := M_X4_addIncident) dX4_addIncident_14 rfl ?_
  refine x_getf (M := M_X4_addIncident) (ci := 7) (C := RX4) (T := TX4) (N := 17) (ty := tyX4) cl7 dX4_addIncident_15 (ob_up (ob_df ha o7).symm (ob_at o7).1 (ob_up (ob_df ha o6).symm (ob_at o6).1 (ob_self ha))) 6 (by decide) t_387 e6 ?_
  refine x_iload_n (M := M_X4_addIncident) dX4_addIncident_18 rfl ?_
  refine x_iconst (M := M_X4_addIncident) dX4_addIncident_19 ?_
  refine x_iadd (M := M_X4_addIncident) dX4_addIncident_20 ?_
  refine x_dup2 (M := M_X4_addIncident) dX4_addIncident_21 rfl rfl ?_
  refine x_iald (M := M_X4_addIncident) dX4_addIncident_22 (ob_up d6_7.symm (ob_at o7).1 (ob_self (ob_oth ha o6))) i2 ?_
  refine x_iconst (M := M_X4_addIncident) dX4_addIncident_23 ?_
  refine x_iadd (M := M_X4_addIncident) dX4_addIncident_24 ?_
  refine x_iast (M := M_X4_addIncident) dX4_addIncident_25 (ob_up d6_7.symm (ob_at o7).1 (ob_self (ob_oth ha o6))) i3 ?_
  refine x_heap (h' := (stt (stt (stt h a (.inr (7, fs))) r6 (.inl (0, n6, .inl (upd c6 (w0 + (Int32.ofInt 1)).toNatClampNeg ((c6 (w0 + (Int32.ofInt 1)).toNatClampNeg) + (Int32.ofInt 1)))))) r7 (.inl (0, n7, .inl (upd c7 (c6 (w0 + (Int32.ofInt 1)).toNatClampNeg).toNatClampNeg w1))))) (by rw [stt_sw (x := r7) (y := r6) d6_7.symm (ob_at o7).1 (ob_at o6).1, stt_stt (a := r6)]) ?_
  exact x_vret (M := M_X4_addIncident) dX4_addIncident_26 rfl ⟨rfl, by rw [F_X4_addIncident, A6_X4_addIncident, A7_X4_addIncident]⟩ (Nat.le_of_ble_eq_true rfl) (Nat.le_of_ble_eq_true rfl)
def f_X4_isShell (c13 : Nat → Int64) (w0 : Int32) : Int32 := if (lg_cmp (c13 w0.toNatClampNeg) (Int64.ofNat ((0 : Fin 2) : Nat))) ≤ 0 then (Int32.ofInt 0) else ((Int32.ofInt 1))
theorem b_X4_isShell (c13 : Nat → Int64) (w0 : Int32) : f_X4_isShell c13 w0 = 0 ∨ f_X4_isShell c13 w0 = 1 := (ite01 (Or.inl rfl) (Or.inr rfl))
theorem p_X4_isShell {l : Launch} {E : EE} (hl : l.stackTraces = false) {h : HP} {c13 : Nat → Int64} {w0 : Int32} {a : Nat} {fs : List Value} (ha : ob h a = some (.inr (7, fs))) {r13 n13 : Nat} (e13 : fs[13]? = some (.ref r13)) (o13 : ob h r13 = some (.inl (1, n13, .inr (.inl c13)))) (i0 : vp_in w0 n13) : en_C l E M_X4_isShell 0 0 0 [.ref a, .int w0] h (pR (some (.int (f_X4_isShell c13 w0))) h) := by
  refine en_mk m_X4_isShell rfl hl (Nat.le_of_ble_eq_true rfl) ?_
  refine x_aload_n (M := M_X4_isShell) dX4_isShell_0 rfl ?_
  refine x_getf (M := M_X4_isShell) (ci := 7) (C := RX4) (T := TX4) (N := 17) (ty := tyX4) cl7 dX4_isShell_1 ha 13 (by decide) t_394 e13 ?_
  refine x_iload_n (M := M_X4_isShell) dX4_isShell_4 rfl ?_
  refine x_lald (M := M_X4_isShell) dX4_isShell_5 o13 i0 ?_
  refine x_lconst (M := M_X4_isShell) dX4_isShell_6 ?_
  refine x_lcmp (M := M_X4_isShell) dX4_isShell_7 ?_
  refine x_if_le (M := M_X4_isShell) (tgt := 15) dX4_isShell_8 (by decide) (fun q0 => ?_) (fun q0 => ?_)
  · refine x_iconst (M := M_X4_isShell) dX4_isShell_15 ?_
    exact x_zret (M := M_X4_isShell) dX4_isShell_16 rfl (Or.inl rfl) ⟨by rw [f_X4_isShell, if_pos q0], rfl⟩ (Nat.le_of_ble_eq_true rfl) (Nat.le_of_ble_eq_true rfl)
  · refine x_iconst (M := M_X4_isShell) dX4_isShell_11 ?_
    refine x_goto (M := M_X4_isShell) (tgt := 16) dX4_isShell_12 (by decide) ?_
    exact x_zret (M := M_X4_isShell) dX4_isShell_16 rfl (Or.inr rfl) ⟨by rw [f_X4_isShell, if_neg q0], rfl⟩ (Nat.le_of_ble_eq_true rfl) (Nat.le_of_ble_eq_true rfl)
def f_X4_ringInOrder (c15 : Nat → Int64) (w0 : Int32) : Int32 := (((c15 w0.toNatClampNeg) &&& (511 : Int64)).toInt32)
theorem p_X4_ringInOrder {l : Launch} {E : EE} (hl : l.stackTraces = false) {h : HP} {c15 : Nat → Int64} {w0 : Int32} {a : Nat} {fs : List Value} (ha : ob h a = some (.inr (7, fs))) {r15 n15 : Nat} (e15 : fs[15]? = some (.ref r15)) (o15 : ob h r15 = some (.inl (1, n15, .inr (.inl c15)))) (i0 : vp_in w0 n15) : en_C l E M_X4_ringInOrder 0 0 0 [.ref a, .int w0] h (pR (some (.int (f_X4_ringInOrder c15 w0))) h) := by
  refine en_mk m_X4_ringInOrder rfl hl (Nat.le_of_ble_eq_true rfl) ?_
  refine x_aload_n (M := M_X4_ringInOrder) dX4_ringInOrder_0 rfl ?_
  refine x_getf (M := M_X4_ringInOrder) (ci := 7) (C := RX4) (T := TX4) (N := 17) (ty := tyX4) cl7 dX4_ringInOrder_1 ha 15 (by decide) t_396 e15 ?_
  refine x_iload_n (M := M_X4_ringInOrder) dX4_ringInOrder_4 rfl ?_
  refine x_lald (M := M_X4_ringInOrder) dX4_ringInOrder_5 o15 i0 ?_
  refine x_ldc2 (M := M_X4_ringInOrder) dX4_ringInOrder_6 t_1850 ?_
  refine x_land (M := M_X4_ringInOrder) dX4_ringInOrder_9 ?_
  refine x_l2i (M := M_X4_ringInOrder) dX4_ringInOrder_10 ?_
  exact x_iret (M := M_X4_ringInOrder) dX4_ringInOrder_11 rfl ⟨rfl, rfl⟩ (Nat.le_of_ble_eq_true rfl) (Nat.le_of_ble_eq_true rfl)
def f_X5_lowX (c0 : Nat → Int32) (c2 : Nat → Int32) (w0 : Int32) : Int32 := (if (c2 w0.toNatClampNeg) < (c0 w0.toNatClampNeg) then (c2 w0.toNatClampNeg) else (c0 w0.toNatClampNeg))
theorem p_X5_lowX {l : Launch} {E : EE} (hl : l.stackTraces = false) {h : HP} {c0 : Nat → Int32} {c2 : Nat → Int32} {w0 : Int32} {a : Nat} {fs : List Value} (ha : ob h a = some (.inr (8, fs))) {r0 n0 : Nat} (e0 : fs[0]? = some (.ref r0)) (o0 : ob h r0 = some (.inl (0, n0, .inl c0))) {r2 n2 : Nat} (e2 : fs[2]? = some (.ref r2)) (o2 : ob h r2 = some (.inl (0, n2, .inl c2))) (i0 : vp_in w0 n0) (i1 : vp_in w0 n2) : en_C l E M_X5_lowX 1 0 0 [.ref a, .int w0] h (pR (some (.int (f_X5_lowX c0 c2 w0))) h) := by
  refine en_mk m_X5_lowX rfl hl (Nat.le_of_ble_eq_true rfl) ?_
  refine x_aload_n (M := M_X5_lowX) dX5_lowX_0 rfl ?_
  refine x_getf (M := M_X5_lowX) (ci := 8) (C := RX5) (T := TX5) (N := 8) (ty := tyX5) cl8 dX5_lowX_1 ha 0 (by decide) t_234 e0 ?_
  refine x_iload_n (M := M_X5_lowX) dX5_lowX_4 rfl ?_
  refine x_iald (M := M_X5_lowX) dX5_lowX_5 o0 i0 ?_
  refine x_aload_n (M := M_X5_lowX) dX5_lowX_6 rfl ?_
  refine x_getf (M := M_X5_lowX) (ci := 8) (C := RX5) (T := TX5) (N := 8) (ty := tyX5) cl8 dX5_lowX_7 ha 2 (by decide) t_242 e2 ?_
  refine x_iload_n (M := M_X5_lowX) dX5_lowX_10 rfl ?_
  refine x_iald (M := M_X5_lowX) dX5_lowX_11 o2 i1 ?_
  refine x_mmin (M := M_X5_lowX) dX5_lowX_12 t_1237 t_626 t_20 t_627 (Nat.le_of_ble_eq_true rfl) (Nat.le_of_ble_eq_true rfl) (Nat.le_of_ble_eq_true rfl) (Nat.le_of_ble_eq_true rfl) ?_
  exact x_iret (M := M_X5_lowX) dX5_lowX_15 rfl ⟨rfl, rfl⟩ (Nat.le_of_ble_eq_true rfl) (Nat.le_of_ble_eq_true rfl)
def f_X5_highX (c0 : Nat → Int32) (c2 : Nat → Int32) (w0 : Int32) : Int32 := (if (c0 w0.toNatClampNeg) < (c2 w0.toNatClampNeg) then (c2 w0.toNatClampNeg) else (c0 w0.toNatClampNeg))
theorem p_X5_highX {l : Launch} {E : EE} (hl : l.stackTraces = false) {h : HP} {c0 : Nat → Int32} {c2 : Nat → Int32} {w0 : Int32} {a : Nat} {fs : List Value} (ha : ob h a = some (.inr (8, fs))) {r0 n0 : Nat} (e0 : fs[0]? = some (.ref r0)) (o0 : ob h r0 = some (.inl (0, n0, .inl c0))) {r2 n2 : Nat} (e2 : fs[2]? = some (.ref r2)) (o2 : ob h r2 = some (.inl (0, n2, .inl c2))) (i0 : vp_in w0 n0) (i1 : vp_in w0 n2) : en_C l E M_X5_highX 1 0 0 [.ref a, .int w0] h (pR (some (.int (f_X5_highX c0 c2 w0))) h) := by
  refine en_mk m_X5_highX rfl hl (Nat.le_of_ble_eq_true rfl) ?_
  refine x_aload_n (M := M_X5_highX) dX5_highX_0 rfl ?_
  refine x_getf (M := M_X5_highX) (ci := 8) (C := RX5) (T := TX5) (N := 8) (ty := tyX5) cl8 dX5_highX_1 ha 0 (by decide) t_234 e0 ?_
  refine x_iload_n (M := M_X5_highX) dX5_highX_4 rfl ?_
  refine x_iald (M := M_X5_highX) dX5_highX_5 o0 i0 ?_
  refine x_aload_n (M := M_X5_highX) dX5_highX_6 rfl ?_
  refine x_getf (M := M_X5_highX) (ci := 8) (C := RX5) (T := TX5) (N := 8) (ty := tyX5) cl8 dX5_highX_7 ha 2 (by decide) t_242 e2 ?_
  refine x_iload_n (M := M_X5_highX) dX5_highX_10 rfl ?_
  refine x_iald (M := M_X5_highX) dX5_highX_11 o2 i1 ?_
  refine x_mmax (M := M_X5_highX) dX5_highX_12 t_1242 t_1013 t_20 t_1014 (Nat.le_of_ble_eq_true rfl) (Nat.le_of_ble_eq_true rfl) (Nat.le_of_ble_eq_true rfl) (Nat.le_of_ble_eq_true rfl) ?_
  exact x_iret (M := M_X5_highX) dX5_highX_15 rfl ⟨rfl, rfl⟩ (Nat.le_of_ble_eq_true rfl) (Nat.le_of_ble_eq_true rfl)
def f_X5_lowY (c1 : Nat → Int32) (c3 : Nat → Int32) (w0 : Int32) : Int32 := (if (c3 w0.toNatClampNeg) < (c1 w0.toNatClampNeg) then (c3 w0.toNatClampNeg) else (c1 w0.toNatClampNeg))
theorem p_X5_lowY {l : Launch} {E : EE} (hl : l.stackTraces = false) {h : HP} {c1 : Nat → Int32} {c3 : Nat → Int32} {w0 : Int32} {a : Nat} {fs : List Value} (ha : ob h a = some (.inr (8, fs))) {r1 n1 : Nat} (e1 : fs[1]? = some (.ref r1)) (o1 : ob h r1 = some (.inl (0, n1, .inl c1))) {r3 n3 : Nat} (e3 : fs[3]? = some (.ref r3)) (o3 : ob h r3 = some (.inl (0, n3, .inl c3))) (i0 : vp_in w0 n1) (i1 : vp_in w0 n3) : en_C l E M_X5_lowY 1 0 0 [.ref a, .int w0] h (pR (some (.int (f_X5_lowY c1 c3 w0))) h) := by
  refine en_mk m_X5_lowY rfl hl (Nat.le_of_ble_eq_true rfl) ?_
  refine x_aload_n (M := M_X5_lowY) dX5_lowY_0 rfl ?_
  refine x_getf (M := M_X5_lowY) (ci := 8) (C := RX5) (T := TX5) (N := 8) (ty := tyX5) cl8 dX5_lowY_1 ha 1 (by decide) t_238 e1 ?_
  refine x_iload_n (M := M_X5_lowY) dX5_lowY_4 rfl ?_
  refine x_iald (M := M_X5_lowY) dX5_lowY_5 o1 i0 ?_
  refine x_aload_n (M := M_X5_lowY) dX5_lowY_6 rfl ?_
  refine x_getf (M := M_X5_lowY) (ci := 8) (C := RX5) (T := TX5) (N := 8) (ty := tyX5) cl8 dX5_lowY_7 ha 3 (by decide) t_246 e3 ?_
  refine x_iload_n (M := M_X5_lowY) dX5_lowY_10 rfl ?_
  refine x_iald (M := M_X5_lowY) dX5_lowY_11 o3 i1 ?_
  refine x_mmin (M := M_X5_lowY) dX5_lowY_12 t_1237 t_626 t_20 t_627 (Nat.le_of_ble_eq_true rfl) (Nat.le_of_ble_eq_true rfl) (Nat.le_of_ble_eq_true rfl) (Nat.le_of_ble_eq_true rfl) ?_
  exact x_iret (M := M_X5_lowY) dX5_lowY_15 rfl ⟨rfl, rfl⟩ (Nat.le_of_ble_eq_true rfl) (Nat.le_of_ble_eq_true rfl)
def f_X5_highY (c1 : Nat → Int32) (c3 : Nat → Int32) (w0 : Int32) : Int32 := (if (c1 w0.toNatClampNeg) < (c3 w0.toNatClampNeg) then (c3 w0.toNatClampNeg) else (c1 w0.toNatClampNeg))
theorem p_X5_highY {l : Launch} {E : EE} (hl : l.stackTraces = false) {h : HP} {c1 : Nat → Int32} {c3 : Nat → Int32} {w0 : Int32} {a : Nat} {fs : List Value} (ha : ob h a = some (.inr (8, fs))) {r1 n1 : Nat} (e1 : fs[1]? = some (.ref r1)) (o1 : ob h r1 = some (.inl (0, n1, .inl c1))) {r3 n3 : Nat} (e3 : fs[3]? = some (.ref r3)) (o3 : ob h r3 = some (.inl (0, n3, .inl c3))) (i0 : vp_in w0 n1) (i1 : vp_in w0 n3) : en_C l E M_X5_highY 1 0 0 [.ref a, .int w0] h (pR (some (.int (f_X5_highY c1 c3 w0))) h) := by
  refine en_mk m_X5_highY rfl hl (Nat.le_of_ble_eq_true rfl) ?_
  refine x_aload_n (M := M_X5_highY) dX5_highY_0 rfl ?_
  refine x_getf (M := M_X5_highY) (ci := 8) (C := RX5) (T := TX5) (N := 8) (ty := tyX5) cl8 dX5_highY_1 ha 1 (by decide) t_238 e1 ?_
  refine x_iload_n (M := M_X5_highY) dX5_highY_4 rfl ?_
  refine x_iald (M := M_X5_highY) dX5_highY_5 o1 i0 ?_
  refine x_aload_n (M := M_X5_highY) dX5_highY_6 rfl ?_
  refine x_getf (M := M_X5_highY) (ci := 8) (C := RX5) (T := TX5) (N := 8) (ty := tyX5) cl8 dX5_highY_7 ha 3 (by decide) t_246 e3 ?_
  refine x_iload_n (M := M_X5_highY) dX5_highY_10 rfl ?_
  refine x_iald (M := M_X5_highY) dX5_highY_11 o3 i1 ?_
  refine x_mmax (M := M_X5_highY) dX5_highY_12 t_1242 t_1013 t_20 t_1014 (Nat.le_of_ble_eq_true rfl) (Nat.le_of_ble_eq_true rfl) (Nat.le_of_ble_eq_true rfl) (Nat.le_of_ble_eq_true rfl) ?_
  exact x_iret (M := M_X5_highY) dX5_highY_15 rfl ⟨rfl, rfl⟩ (Nat.le_of_ble_eq_true rfl) (Nat.le_of_ble_eq_true rfl)
def f_X5_begins (c0 : Nat → Int32) (c1 : Nat → Int32) (w0 : Int32) (w1 : Int32) (w2 : Int32) : Int32 := if (c0 w0.toNatClampNeg) = w1 then if (c1 w0.toNatClampNeg) = w2 then (Int32.ofInt 1) else ((Int32.ofInt 0)) else ((Int32.ofInt 0))
theorem b_X5_begins (c0 : Nat → Int32) (c1 : Nat → Int32) (w0 : Int32) (w1 : Int32) (w2 : Int32) : f_X5_begins c0 c1 w0 w1 w2 = 0 ∨ f_X5_begins c0 c1 w0 w1 w2 = 1 := (ite01 (ite01 (Or.inr rfl) (Or.inl rfl)) (Or.inl rfl))
theorem p_X5_begins {l : Launch} {E : EE} (hl : l.stackTraces = false) {h : HP} {c0 : Nat → Int32} {c1 : Nat → Int32} {w0 : Int32} {w1 : Int32} {w2 : Int32} {a : Nat} {fs : List Value} (ha : ob h a = some (.inr (8, fs))) {r0 n0 : Nat} (e0 : fs[0]? = some (.ref r0)) (o0 : ob h r0 = some (.inl (0, n0, .inl c0))) {r1 n1 : Nat} (e1 : fs[1]? = some (.ref r1)) (o1 : ob h r1 = some (.inl (0, n1, .inl c1))) (i0 : vp_in w0 n0) (i1 : ((c0 w0.toNatClampNeg) = w1) → vp_in w0 n1) : en_C l E M_X5_begins 0 0 0 [.ref a, .int w0, .int w1, .int w2] h (pR (some (.int (f_X5_begins c0 c1 w0 w1 w2))) h) := by
  refine en_mk m_X5_begins rfl hl (Nat.le_of_ble_eq_true rfl) ?_
  refine x_aload_n (M := M_X5_begins) dX5_begins_0 rfl ?_
  refine x_getf (M := M_X5_begins) (ci := 8) (C := RX5) (T := TX5) (N := 8) (ty := tyX5) cl8 dX5_begins_1 ha 0 (by decide) t_234 e0 ?_
  refine x_iload_n (M := M_X5_begins) dX5_begins_4 rfl ?_
  refine x_iald (M := M_X5_begins) dX5_begins_5 o0 i0 ?_
  refine x_iload_n (M := M_X5_begins) dX5_begins_6 rfl ?_
  refine x_icmp_ne (M := M_X5_begins) (tgt := 24) dX5_begins_7 (by decide) (fun q0 => ?_) (fun q0 => ?_)
  · refine x_iconst (M := M_X5_begins) dX5_begins_24 ?_
    exact x_zret (M := M_X5_begins) dX5_begins_25 rfl (Or.inl rfl) ⟨by rw [f_X5_begins, if_neg q0], rfl⟩ (Nat.le_of_ble_eq_true rfl) (Nat.le_of_ble_eq_true rfl)
  · refine x_aload_n (M := M_X5_begins) dX5_begins_10 rfl ?_
    refine x_getf (M := M_X5_begins) (ci := 8) (C := RX5) (T := TX5) (N := 8) (ty := tyX5) cl8 dX5_begins_11 ha 1 (by decide) t_238 e1 ?_
    refine x_iload_n (M := M_X5_begins) dX5_begins_14 rfl ?_
    refine x_iald (M := M_X5_begins) dX5_begins_15 o1 (i1 q0) ?_
    refine x_iload_n (M := M_X5_begins) dX5_begins_16 rfl ?_
    refine x_icmp_ne (M := M_X5_begins) (tgt := 24) dX5_begins_17 (by decide) (fun q1 => ?_) (fun q1 => ?_)
    · refine x_iconst (M := M_X5_begins) dX5_begins_24 ?_
      exact x_zret (M := M_X5_begins) dX5_begins_25 rfl (Or.inl rfl) ⟨by rw [f_X5_begins, if_pos q0, if_neg q1], rfl⟩ (Nat.le_of_ble_eq_true rfl) (Nat.le_of_ble_eq_true rfl)
    · refine x_iconst (M := M_X5_begins) dX5_begins_20 ?_
      refine x_goto (M := M_X5_begins) (tgt := 25) dX5_begins_21 (by decide) ?_
      exact x_zret (M := M_X5_begins) dX5_begins_25 rfl (Or.inr rfl) ⟨by rw [f_X5_begins, if_pos q0, if_pos q1], rfl⟩ (Nat.le_of_ble_eq_true rfl) (Nat.le_of_ble_eq_true rfl)
def f_X5_ends (c2 : Nat → Int32) (c3 : Nat → Int32) (w0 : Int32) (w1 : Int32) (w2 : Int32) : Int32 := if (c2 w0.toNatClampNeg) = w1 then if (c3 w0.toNatClampNeg) = w2 then (Int32.ofInt 1) else ((Int32.ofInt 0)) else ((Int32.ofInt 0))
theorem b_X5_ends (c2 : Nat → Int32) (c3 : Nat → Int32) (w0 : Int32) (w1 : Int32) (w2 : Int32) : f_X5_ends c2 c3 w0 w1 w2 = 0 ∨ f_X5_ends c2 c3 w0 w1 w2 = 1 := (ite01 (ite01 (Or.inr rfl) (Or.inl rfl)) (Or.inl rfl))
theorem p_X5_ends {l : Launch} {E : EE} (hl : l.stackTraces = false) {h : HP} {c2 : Nat → Int32} {c3 : Nat → Int32} {w0 : Int32} {w1 : Int32} {w2 : Int32} {a : Nat} {fs : List Value} (ha : ob h a = some (.inr (8, fs))) {r2 n2 : Nat} (e2 : fs[2]? = some (.ref r2)) (o2 : ob h r2 = some (.inl (0, n2, .inl c2))) {r3 n3 : Nat} (e3 : fs[3]? = some (.ref r3)) (o3 : ob h r3 = some (.inl (0, n3, .inl c3))) (i0 : vp_in w0 n2) (i1 : ((c2 w0.toNatClampNeg) = w1) → vp_in w0 n3) : en_C l E M_X5_ends 0 0 0 [.ref a, .int w0, .int w1, .int w2] h (pR (some (.int (f_X5_ends c2 c3 w0 w1 w2))) h) := by
  refine en_mk m_X5_ends rfl hl (Nat.le_of_ble_eq_true rfl) ?_
  refine x_aload_n (M := M_X5_ends) dX5_ends_0 rfl ?_
  refine x_getf (M := M_X5_ends) (ci := 8) (C := RX5) (T := TX5) (N := 8) (ty := tyX5) cl8 dX5_ends_1 ha 2 (by decide) t_242 e2 ?_
  refine x_iload_n (M := M_X5_ends) dX5_ends_4 rfl ?_
  refine x_iald (M := M_X5_ends) dX5_ends_5 o2 i0 ?_
  refine x_iload_n (M := M_X5_ends) dX5_ends_6 rfl ?_
  refine x_icmp_ne (M := M_X5_ends) (tgt := 24) dX5_ends_7 (by decide) (fun q0 => ?_) (fun q0 => ?_)
  · refine x_iconst (M := M_X5_ends) dX5_ends_24 ?_
    exact x_zret (M := M_X5_ends) dX5_ends_25 rfl (Or.inl rfl) ⟨by rw [f_X5_ends, if_neg q0], rfl⟩ (Nat.le_of_ble_eq_true rfl) (Nat.le_of_ble_eq_true rfl)
  · refine x_aload_n (M := M_X5_ends) dX5_ends_10 rfl ?_
    refine x_getf (M := M_X5_ends) (ci := 8) (C := RX5) (T := TX5) (N := 8) (ty := tyX5) cl8 dX5_ends_11 ha 3 (by decide) t_246 e3 ?_
    refine x_iload_n (M := M_X5_ends) dX5_ends_14 rfl ?_
    refine x_iald (M := M_X5_ends) dX5_ends_15 o3 (i1 q0) ?_
    refine x_iload_n (M := M_X5_ends) dX5_ends_16 rfl ?_
    refine x_icmp_ne (M := M_X5_ends) (tgt := 24) dX5_ends_17 (by decide) (fun q1 => ?_) (fun q1 => ?_)
    · refine x_iconst (M := M_X5_ends) dX5_ends_24 ?_
      exact x_zret (M := M_X5_ends) dX5_ends_25 rfl (Or.inl rfl) ⟨by rw [f_X5_ends, if_pos q0, if_neg q1], rfl⟩ (Nat.le_of_ble_eq_true rfl) (Nat.le_of_ble_eq_true rfl)
    · refine x_iconst (M := M_X5_ends) dX5_ends_20 ?_
      refine x_goto (M := M_X5_ends) (tgt := 25) dX5_ends_21 (by decide) ?_
      exact x_zret (M := M_X5_ends) dX5_ends_25 rfl (Or.inr rfl) ⟨by rw [f_X5_ends, if_pos q0, if_pos q1], rfl⟩ (Nat.le_of_ble_eq_true rfl) (Nat.le_of_ble_eq_true rfl)
def f_X5_areApart (c0 : Nat → Int32) (c1 : Nat → Int32) (c2 : Nat → Int32) (c3 : Nat → Int32) (w0 : Int32) (w1 : Int32) : Int32 := if (f_X5_highX c0 c2 w1) < (f_X5_lowX c0 c2 w0) then (Int32.ofInt 1) else (if (f_X5_highX c0 c2 w0) < (f_X5_lowX c0 c2 w1) then (Int32.ofInt 1) else (if (f_X5_highY c1 c3 w1) < (f_X5_lowY c1 c3 w0) then (Int32.ofInt 1) else (if (f_X5_lowY c1 c3 w1) ≤ (f_X5_highY c1 c3 w0) then (Int32.ofInt 0) else ((Int32.ofInt 1)))))
theorem b_X5_areApart (c0 : Nat → Int32) (c1 : Nat → Int32) (c2 : Nat → Int32) (c3 : Nat → Int32) (w0 : Int32) (w1 : Int32) : f_X5_areApart c0 c1 c2 c3 w0 w1 = 0 ∨ f_X5_areApart c0 c1 c2 c3 w0 w1 = 1 := (ite01 (Or.inr rfl) (ite01 (Or.inr rfl) (ite01 (Or.inr rfl) (ite01 (Or.inl rfl) (Or.inr rfl)))))
theorem p_X5_areApart {l : Launch} {E : EE} (hl : l.stackTraces = false) {h : HP} {c0 : Nat → Int32} {c1 : Nat → Int32} {c2 : Nat → Int32} {c3 : Nat → Int32} {w0 : Int32} {w1 : Int32} {a : Nat} {fs : List Value} (ha : ob h a = some (.inr (8, fs))) {r0 n0 : Nat} (e0 : fs[0]? = some (.ref r0)) (o0 : ob h r0 = some (.inl (0, n0, .inl c0))) {r1 n1 : Nat} (e1 : fs[1]? = some (.ref r1)) (o1 : ob h r1 = some (.inl (0, n1, .inl c1))) {r2 n2 : Nat} (e2 : fs[2]? = some (.ref r2)) (o2 : ob h r2 = some (.inl (0, n2, .inl c2))) {r3 n3 : Nat} (e3 : fs[3]? = some (.ref r3)) (o3 : ob h r3 = some (.inl (0, n3, .inl c3))) (i0 : (vp_in w0 n0)) (i1 : (vp_in w0 n2)) (i2 : (vp_in w1 n0)) (i3 : (vp_in w1 n2)) (i4 : (¬ (f_X5_highX c0 c2 w1) < (f_X5_lowX c0 c2 w0)) → (vp_in w1 n0)) (i5 : (¬ (f_X5_highX c0 c2 w1) < (f_X5_lowX c0 c2 w0)) → (vp_in w1 n2)) (i6 : (¬ (f_X5_highX c0 c2 w1) < (f_X5_lowX c0 c2 w0)) → (vp_in w0 n0)) (i7 : (¬ (f_X5_highX c0 c2 w1) < (f_X5_lowX c0 c2 w0)) → (vp_in w0 n2)) (i8 : (¬ (f_X5_highX c0 c2 w1) < (f_X5_lowX c0 c2 w0)) → (¬ (f_X5_highX c0 c2 w0) < (f_X5_lowX c0 c2 w1)) → (vp_in w0 n1)) (i9 : (¬ (f_X5_highX c0 c2 w1) < (f_X5_lowX c0 c2 w0)) → (¬ (f_X5_highX c0 c2 w0) < (f_X5_lowX c0 c2 w1)) → (vp_in w0 n3)) (i10 : (¬ (f_X5_highX c0 c2 w1) < (f_X5_lowX c0 c2 w0)) → (¬ (f_X5_highX c0 c2 w0) < (f_X5_lowX c0 c2 w1)) → (vp_in w1 n1)) (i11 : (¬ (f_X5_highX c0 c2 w1) < (f_X5_lowX c0 c2 w0)) → (¬ (f_X5_highX c0 c2 w0) < (f_X5_lowX c0 c2 w1)) → (vp_in w1 n3)) (i12 : (¬ (f_X5_highX c0 c2 w1) < (f_X5_lowX c0 c2 w0)) → (¬ (f_X5_highX c0 c2 w0) < (f_X5_lowX c0 c2 w1)) → (¬ (f_X5_highY c1 c3 w1) < (f_X5_lowY c1 c3 w0)) → (vp_in w1 n1)) (i13 : (¬ (f_X5_highX c0 c2 w1) < (f_X5_lowX c0 c2 w0)) → (¬ (f_X5_highX c0 c2 w0) < (f_X5_lowX c0 c2 w1)) → (¬ (f_X5_highY c1 c3 w1) < (f_X5_lowY c1 c3 w0)) → (vp_in w1 n3)) (i14 : (¬ (f_X5_highX c0 c2 w1) < (f_X5_lowX c0 c2 w0)) → (¬ (f_X5_highX c0 c2 w0) < (f_X5_lowX c0 c2 w1)) → (¬ (f_X5_highY c1 c3 w1) < (f_X5_lowY c1 c3 w0)) → (vp_in w0 n1)) (i15 : (¬ (f_X5_highX c0 c2 w1) < (f_X5_lowX c0 c2 w0)) → (¬ (f_X5_highX c0 c2 w0) < (f_X5_lowX c0 c2 w1)) → (¬ (f_X5_highY c1 c3 w1) < (f_X5_lowY c1 c3 w0)) → (vp_in w0 n3)) : en_C l E M_X5_areApart 2 0 0 [.ref a, .int w0, .int w1] h (pR (some (.int (f_X5_areApart c0 c1 c2 c3 w0 w1))) h) := by
  refine en_mk m_X5_areApart rfl hl (Nat.le_of_ble_eq_true rfl) ?_
  refine x_aload_n (M := M_X5_areApart) dX5_areApart_0 rfl ?_
  refine x_iload_n (M := M_X5_areApart) dX5_areApart_1 rfl ?_
  refine x_callVR (M := M_X5_areApart) (M' := M_X5_lowX) rfl rfl dX5_areApart_2 m_X5_lowX t_1233 t_1234 t_1235 (p_X5_lowX hl ha e0 o0 e2 o2 i0 i1) rfl rfl ha rfl (Nat.le_of_ble_eq_true rfl) (Nat.le_of_ble_eq_true rfl) (Nat.le_of_ble_eq_true rfl) (Nat.le_of_ble_eq_true rfl) ?_
  refine x_aload_n (M := M_X5_areApart) dX5_areApart_5 rfl ?_
  refine x_iload_n (M := M_X5_areApart) dX5_areApart_6 rfl ?_
  refine x_callVR (M := M_X5_areApart) (M' := M_X5_highX) rfl rfl dX5_areApart_7 m_X5_highX t_1238 t_1239 t_1240 (p_X5_highX hl ha e0 o0 e2 o2 i2 i3) rfl rfl ha rfl (Nat.le_of_ble_eq_true rfl) (Nat.le_of_ble_eq_true rfl) (Nat.le_of_ble_eq_true rfl) (Nat.le_of_ble_eq_true rfl) ?_
  refine x_icmp_gt (M := M_X5_areApart) (tgt := 52) dX5_areApart_10 (by decide) (fun q0 => ?_) (fun q0 => ?_)
  · refine x_iconst (M := M_X5_areApart) dX5_areApart_52 ?_
    refine x_goto (M := M_X5_areApart) (tgt := 57) dX5_areApart_53 (by decide) ?_
    exact x_zret (M := M_X5_areApart) dX5_areApart_57 rfl (Or.inr rfl) ⟨by rw [f_X5_areApart, if_pos q0], rfl⟩ (Nat.le_of_ble_eq_true rfl) (Nat.le_of_ble_eq_true rfl)
  · refine x_aload_n (M := M_X5_areApart) dX5_areApart_13 rfl ?_
    refine x_iload_n (M := M_X5_areApart) dX5_areApart_14 rfl ?_
    refine x_callVR (M := M_X5_areApart) (M' := M_X5_lowX) rfl rfl dX5_areApart_15 m_X5_lowX t_1233 t_1234 t_1235 (p_X5_lowX hl ha e0 o0 e2 o2 (i4 q0) (i5 q0)) rfl rfl ha rfl (Nat.le_of_ble_eq_true rfl) (Nat.le_of_ble_eq_true rfl) (Nat.le_of_ble_eq_true rfl) (Nat.le_of_ble_eq_true rfl) ?_
    refine x_aload_n (M := M_X5_areApart) dX5_areApart_18 rfl ?_
    refine x_iload_n (M := M_X5_areApart) dX5_areApart_19 rfl ?_
    refine x_callVR (M := M_X5_areApart) (M' := M_X5_highX) rfl rfl dX5_areApart_20 m_X5_highX t_1238 t_1239 t_1240 (p_X5_highX hl ha e0 o0 e2 o2 (i6 q0) (i7 q0)) rfl rfl ha rfl (Nat.le_of_ble_eq_true rfl) (Nat.le_of_ble_eq_true rfl) (Nat.le_of_ble_eq_true rfl) (Nat.le_of_ble_eq_true rfl) ?_
    refine x_icmp_gt (M := M_X5_areApart) (tgt := 52) dX5_areApart_23 (by decide) (fun q1 => ?_) (fun q1 => ?_)
    · refine x_iconst (M := M_X5_areApart) dX5_areApart_52 ?_
      refine x_goto (M := M_X5_areApart) (tgt := 57) dX5_areApart_53 (by decide) ?_
      exact x_zret (M := M_X5_areApart) dX5_areApart_57 rfl (Or.inr rfl) ⟨by rw [f_X5_areApart, if_neg q0, if_pos q1], rfl⟩ (Nat.le_of_ble_eq_true rfl) (Nat.le_of_ble_eq_true rfl)
    · refine x_aload_n (M := M_X5_areApart) dX5_areApart_26 rfl ?_
      refine x_iload_n (M := M_X5_areApart) dX5_areApart_27 rfl ?_
      refine x_callVR (M := M_X5_areApart) (M' := M_X5_lowY) rfl rfl dX5_areApart_28 m_X5_lowY t_1243 t_1244 t_1245 (p_X5_lowY hl ha e1 o1 e3 o3 (i8 q0 q1) (i9 q0 q1)) rfl rfl ha rfl (Nat.le_of_ble_eq_true rfl) (Nat.le_of_ble_eq_true rfl) (Nat.le_of_ble_eq_true rfl) (Nat.le_of_ble_eq_true rfl) ?_
      refine x_aload_n (M := M_X5_areApart) dX5_areApart_31 rfl ?_
      refine x_iload_n (M := M_X5_areApart) dX5_areApart_32 rfl ?_
      refine x_callVR (M := M_X5_areApart) (M' := M_X5_highY) rfl rfl dX5_areApart_33 m_X5_highY t_1247 t_1248 t_1249 (p_X5_highY hl ha e1 o1 e3 o3 (i10 q0 q1) (i11 q0 q1)) rfl rfl ha rfl (Nat.le_of_ble_eq_true rfl) (Nat.le_of_ble_eq_true rfl) (Nat.le_of_ble_eq_true rfl) (Nat.le_of_ble_eq_true rfl) ?_
      refine x_icmp_gt (M := M_X5_areApart) (tgt := 52) dX5_areApart_36 (by decide) (fun q2 => ?_) (fun q2 => ?_)
      · refine x_iconst (M := M_X5_areApart) dX5_areApart_52 ?_
        refine x_goto (M := M_X5_areApart) (tgt := 57) dX5_areApart_53 (by decide) ?_
        exact x_zret (M := M_X5_areApart) dX5_areApart_57 rfl (Or.inr rfl) ⟨by rw [f_X5_areApart, if_neg q0, if_neg q1, if_pos q2], rfl⟩ (Nat.le_of_ble_eq_true rfl) (Nat.le_of_ble_eq_true rfl)
      · refine x_aload_n (M := M_X5_areApart) dX5_areApart_39 rfl ?_
        refine x_iload_n (M := M_X5_areApart) dX5_areApart_40 rfl ?_
        refine x_callVR (M := M_X5_areApart) (M' := M_X5_lowY) rfl rfl dX5_areApart_41 m_X5_lowY t_1243 t_1244 t_1245 (p_X5_lowY hl ha e1 o1 e3 o3 (i12 q0 q1 q2) (i13 q0 q1 q2)) rfl rfl ha rfl (Nat.le_of_ble_eq_true rfl) (Nat.le_of_ble_eq_true rfl) (Nat.le_of_ble_eq_true rfl) (Nat.le_of_ble_eq_true rfl) ?_
        refine x_aload_n (M := M_X5_areApart) dX5_areApart_44 rfl ?_
        refine x_iload_n (M := M_X5_areApart) dX5_areApart_45 rfl ?_
        refine x_callVR (M := M_X5_areApart) (M' := M_X5_highY) rfl rfl dX5_areApart_46 m_X5_highY t_1247 t_1248 t_1249 (p_X5_highY hl ha e1 o1 e3 o3 (i14 q0 q1 q2) (i15 q0 q1 q2)) rfl rfl ha rfl (Nat.le_of_ble_eq_true rfl) (Nat.le_of_ble_eq_true rfl) (Nat.le_of_ble_eq_true rfl) (Nat.le_of_ble_eq_true rfl) ?_
        refine x_icmp_le (M := M_X5_areApart) (tgt := 56) dX5_areApart_49 (by decide) (fun q3 => ?_) (fun q3 => ?_)
        · refine x_iconst (M := M_X5_areApart) dX5_areApart_56 ?_
          exact x_zret (M := M_X5_areApart) dX5_areApart_57 rfl (Or.inl rfl) ⟨by rw [f_X5_areApart, if_neg q0, if_neg q1, if_neg q2, if_pos q3], rfl⟩ (Nat.le_of_ble_eq_true rfl) (Nat.le_of_ble_eq_true rfl)
        · refine x_iconst (M := M_X5_areApart) dX5_areApart_52 ?_
          refine x_goto (M := M_X5_areApart) (tgt := 57) dX5_areApart_53 (by decide) ?_
          exact x_zret (M := M_X5_areApart) dX5_areApart_57 rfl (Or.inr rfl) ⟨by rw [f_X5_areApart, if_neg q0, if_neg q1, if_neg q2, if_neg q3], rfl⟩ (Nat.le_of_ble_eq_true rfl) (Nat.le_of_ble_eq_true rfl)
def f_X5_touchAtEnd (c0 : Nat → Int32) (c1 : Nat → Int32) (c2 : Nat → Int32) (c3 : Nat → Int32) (w0 : Int32) (w1 : Int32) : Int32 := (Int32.ofInt 2)
def F_X5_touchAtEnd (fs : List Value) (c0 : Nat → Int32) (c1 : Nat → Int32) (c2 : Nat → Int32) (c3 : Nat → Int32) (w0 : Int32) (w1 : Int32) : List Value := if w1 = 0 then if w1 = 0 then ((fs.set 6 (.int (c2 w0.toNatClampNeg))).set 7 (.int (c3 w0.toNatClampNeg))) else (((fs.set 6 (.int (c2 w0.toNatClampNeg))).set 7 (.int (c1 w0.toNatClampNeg)))) else (if w1 = 0 then ((fs.set 6 (.int (c0 w0.toNatClampNeg))).set 7 (.int (c3 w0.toNatClampNeg))) else (((fs.set 6 (.int (c0 w0.toNatClampNeg))).set 7 (.int (c1 w0.toNatClampNeg)))))
theorem l_X5_touchAtEnd {fs : List Value} {c0 : Nat → Int32} {c1 : Nat → Int32} {c2 : Nat → Int32} {c3 : Nat → Int32} {w0 : Int32} {w1 : Int32} : (F_X5_touchAtEnd fs c0 c1 c2 c3 w0 w1).length = fs.length := by
  unfold F_X5_touchAtEnd
  repeat' split
  all_goals first | rfl | simp only [List.length_set]
theorem k_X5_touchAtEnd {fs : List Value} {c0 : Nat → Int32} {c1 : Nat → Int32} {c2 : Nat → Int32} {c3 : Nat → Int32} {w0 : Int32} {w1 : Int32} {k : Nat} (hk : k ∉ ([6, 7] : List Nat)) : (F_X5_touchAtEnd fs c0 c1 c2 c3 w0 w1)[k]? = fs[k]? := by
  simp only [List.mem_cons, List.not_mem_nil, or_false, not_or] at hk
  unfold F_X5_touchAtEnd
  repeat' split
  all_goals first | rfl | simp only [List.getElem?_set_ne (by omega : 6 ≠ k), List.getElem?_set_ne (by omega : 7 ≠ k)]
def V6_X5_touchAtEnd (c0 : Nat → Int32) (c1 : Nat → Int32) (c2 : Nat → Int32) (c3 : Nat → Int32) (w0 : Int32) (w1 : Int32) : Int32 := if w1 = 0 then if w1 = 0 then (c2 w0.toNatClampNeg) else ((c2 w0.toNatClampNeg)) else (if w1 = 0 then (c0 w0.toNatClampNeg) else ((c0 w0.toNatClampNeg)))
theorem v6_X5_touchAtEnd {fs : List Value} {c0 : Nat → Int32} {c1 : Nat → Int32} {c2 : Nat → Int32} {c3 : Nat → Int32} {w0 : Int32} {w1 : Int32} (hn : fs.length = 8) : (F_X5_touchAtEnd fs c0 c1 c2 c3 w0 w1)[6]? = some (.int (V6_X5_touchAtEnd c0 c1 c2 c3 w0 w1)) := by
  unfold F_X5_touchAtEnd V6_X5_touchAtEnd
  exact (gi (gi (gs_ne (by decide) (gs_eq (by simp only [List.length_set, hn]; decide))) (gs_ne (by decide) (gs_eq (by simp only [List.length_set, hn]; decide)))) (gi (gs_ne (by decide) (gs_eq (by simp only [List.length_set, hn]; decide))) (gs_ne (by decide) (gs_eq (by simp only [List.length_set, hn]; decide)))))
def V7_X5_touchAtEnd (c0 : Nat → Int32) (c1 : Nat → Int32) (c2 : Nat → Int32) (c3 : Nat → Int32) (w0 : Int32) (w1 : Int32) : Int32 := if w1 = 0 then if w1 = 0 then (c3 w0.toNatClampNeg) else ((c1 w0.toNatClampNeg)) else (if w1 = 0 then (c3 w0.toNatClampNeg) else ((c1 w0.toNatClampNeg)))
theorem v7_X5_touchAtEnd {fs : List Value} {c0 : Nat → Int32} {c1 : Nat → Int32} {c2 : Nat → Int32} {c3 : Nat → Int32} {w0 : Int32} {w1 : Int32} (hn : fs.length = 8) : (F_X5_touchAtEnd fs c0 c1 c2 c3 w0 w1)[7]? = some (.int (V7_X5_touchAtEnd c0 c1 c2 c3 w0 w1)) := by
  unfold F_X5_touchAtEnd V7_X5_touchAtEnd
  exact (gi (gi (gs_eq (by simp only [List.length_set, hn]; decide)) (gs_eq (by simp only [List.length_set, hn]; decide))) (gi (gs_eq (by simp only [List.length_set, hn]; decide)) (gs_eq (by simp only [List.length_set, hn]; decide))))
theorem p_X5_touchAtEnd {l : Launch} {E : EE} (hl : l.stackTraces = false) {h : HP} {c0 : Nat → Int32} {c1 : Nat → Int32} {c2 : Nat → Int32} {c3 : Nat → Int32} {w0 : Int32} {w1 : Int32} {a : Nat} {fs : List Value} (ha : ob h a = some (.inr (8, fs))) (hn : fs.length = 8) {r0 n0 : Nat} (e0 : fs[0]? = some (.ref r0)) (o0 : ob h r0 = some (.inl (0, n0, .inl c0))) {r1 n1 : Nat} (e1 : fs[1]? = some (.ref r1)) (o1 : ob h r1 = some (.inl (0, n1, .inl c1))) {r2 n2 : Nat} (e2 : fs[2]? = some (.ref r2)) (o2 : ob h r2 = some (.inl (0, n2, .inl c2))) {r3 n3 : Nat} (e3 : fs[3]? = some (.ref r3)) (o3 : ob h r3 = some (.inl (0, n3, .inl c3))) (i0 : (w1 = 0) → vp_in w0 n2) (i1 : (w1 = 0) → (w1 = 0) → vp_in w0 n3) (i2 : (w1 = 0) → (¬ w1 = 0) → vp_in w0 n1) (i3 : (¬ w1 = 0) → vp_in w0 n0) (i4 : (¬ w1 = 0) → (w1 = 0) → vp_in w0 n3) (i5 : (¬ w1 = 0) → (¬ w1 = 0) → vp_in w0 n1) : en_C l E M_X5_touchAtEnd 0 0 0 [.ref a, .int w0, .int w1] h (pR (some (.int (f_X5_touchAtEnd c0 c1 c2 c3 w0 w1))) (stt h a (.inr (8, F_X5_touchAtEnd fs c0 c1 c2 c3 w0 w1)))) := by
  refine en_mk m_X5_touchAtEnd rfl hl (Nat.le_of_ble_eq_true rfl) ?_
  refine x_heap (h' := (stt h a (.inr (8, fs)))) (by rw [stt_id ha]) ?_
  refine x_aload_n (M := M_X5_touchAtEnd) dX5_touchAtEnd_0 rfl ?_
  refine x_iload_n (M := M_X5_touchAtEnd) dX5_touchAtEnd_1 rfl ?_
  refine x_if_eq (M := M_X5_touchAtEnd) (tgt := 14) dX5_touchAtEnd_2 (by decide) (fun q0 => ?_) (fun q0 => ?_)
  · refine x_aload_n (M := M_X5_touchAtEnd) dX5_touchAtEnd_14 rfl ?_
    refine x_getf (M := M_X5_touchAtEnd) (ci := 8) (C := RX5) (T := TX5) (N := 8) (ty := tyX5) cl8 dX5_touchAtEnd_15 (ob_self ha) 2 (by decide) t_242 e2 ?_
    refine x_iload_n (M := M_X5_touchAtEnd) dX5_touchAtEnd_18 rfl ?_
    refine x_iald (M := M_X5_touchAtEnd) dX5_touchAtEnd_19 (ob_oth ha o2) (i0 q0) ?_
    refine x_put (M := M_X5_touchAtEnd) (ci := 8) (C := RX5) (T := TX5) (N := 8) (ty := tyX5) cl8 dX5_touchAtEnd_20 (ob_self ha) 6 (by decide) t_259 (Or.inl rfl) (by simp only [List.length_set, hn]; decide) rfl ?_
    refine x_heap (h' := (stt h a (.inr (8, (fs.set 6 (.int (c2 w0.toNatClampNeg))))))) (by rw [stt_stt (a := a)]) ?_
    refine x_aload_n (M := M_X5_touchAtEnd) dX5_touchAtEnd_23 rfl ?_
    refine x_iload_n (M := M_X5_touchAtEnd) dX5_touchAtEnd_24 rfl ?_
    refine x_if_eq (M := M_X5_touchAtEnd) (tgt := 37) dX5_touchAtEnd_25 (by decide) (fun q1 => ?_) (fun q1 => ?_)
    · refine x_aload_n (M := M_X5_touchAtEnd) dX5_touchAtEnd_37 rfl ?_
      refine x_getf (M := M_X5_touchAtEnd) (ci := 8) (C := RX5) (T := TX5) (N := 8) (ty := tyX5) cl8 dX5_touchAtEnd_38 (ob_self ha) 3 (by decide) t_246 (gs_ne (by decide) e3) ?_
      refine x_iload_n (M := M_X5_touchAtEnd) dX5_touchAtEnd_41 rfl ?_
      refine x_iald (M := M_X5_touchAtEnd) dX5_touchAtEnd_42 (ob_oth ha o3) (i1 q0 q1) ?_
      refine x_put (M := M_X5_touchAtEnd) (ci := 8) (C := RX5) (T := TX5) (N := 8) (ty := tyX5) cl8 dX5_touchAtEnd_43 (ob_self ha) 7 (by decide) t_262 (Or.inl rfl) (by simp only [List.length_set, hn]; decide) rfl ?_
      refine x_heap (h' := (stt h a (.inr (8, ((fs.set 6 (.int (c2 w0.toNatClampNeg))).set 7 (.int (c3 w0.toNatClampNeg))))))) (by rw [stt_stt (a := a)]) ?_
      refine x_iconst (M := M_X5_touchAtEnd) dX5_touchAtEnd_46 ?_
      exact x_iret (M := M_X5_touchAtEnd) dX5_touchAtEnd_47 rfl ⟨by rw [f_X5_touchAtEnd], by rw [F_X5_touchAtEnd, if_pos q0, if_pos q1]⟩ (Nat.le_of_ble_eq_true rfl) (Nat.le_of_ble_eq_true rfl)
    · refine x_aload_n (M := M_X5_touchAtEnd) dX5_touchAtEnd_28 rfl ?_
      refine x_getf (M := M_X5_touchAtEnd) (ci := 8) (C := RX5) (T := TX5) (N := 8) (ty := tyX5) cl8 dX5_touchAtEnd_29 (ob_self ha) 1 (by decide) t_238 (gs_ne (by decide) e1) ?_
      refine x_iload_n (M := M_X5_touchAtEnd) dX5_touchAtEnd_32 rfl ?_
      refine x_iald (M := M_X5_touchAtEnd) dX5_touchAtEnd_33 (ob_oth ha o1) (i2 q0 q1) ?_
      refine x_goto (M := M_X5_touchAtEnd) (tgt := 43) dX5_touchAtEnd_34 (by decide) ?_
      refine x_put (M := M_X5_touchAtEnd) (ci := 8) (C := RX5) (T := TX5) (N := 8) (ty := tyX5) cl8 dX5_touchAtEnd_43 (ob_self ha) 7 (by decide) t_262 (Or.inl rfl) (by simp only [List.length_set, hn]; decide) rfl ?_
      refine x_heap (h' := (stt h a (.inr (8, ((fs.set 6 (.int (c2 w0.toNatClampNeg))).set 7 (.int (c1 w0.toNatClampNeg))))))) (by rw [stt_stt (a := a)]) ?_
      refine x_iconst (M := M_X5_touchAtEnd) dX5_touchAtEnd_46 ?_
      exact x_iret (M := M_X5_touchAtEnd) dX5_touchAtEnd_47 rfl ⟨by rw [f_X5_touchAtEnd], by rw [F_X5_touchAtEnd, if_pos q0, if_neg q1]⟩ (Nat.le_of_ble_eq_true rfl) (Nat.le_of_ble_eq_true rfl)
  · refine x_aload_n (M := M_X5_touchAtEnd) dX5_touchAtEnd_5 rfl ?_
    refine x_getf (M := M_X5_touchAtEnd) (ci := 8) (C := RX5) (T := TX5) (N := 8) (ty := tyX5) cl8 dX5_touchAtEnd_6 (ob_self ha) 0 (by decide) t_234 e0 ?_
    refine x_iload_n (M := M_X5_touchAtEnd) dX5_touchAtEnd_9 rfl ?_
    refine x_iald (M := M_X5_touchAtEnd) dX5_touchAtEnd_10 (ob_oth ha o0) (i3 q0) ?_
    refine x_goto (M := M_X5_touchAtEnd) (tgt := 20) dX5_touchAtEnd_11 (by decide) ?_
    refine x_put (M := M_X5_touchAtEnd) (ci := 8) (C := RX5) (T := TX5) (N := 8) (ty := tyX5) cl8 dX5_touchAtEnd_20 (ob_self ha) 6 (by decide) t_259 (Or.inl rfl) (by simp only [List.length_set, hn]; decide) rfl ?_
    refine x_heap (h' := (stt h a (.inr (8, (fs.set 6 (.int (c0 w0.toNatClampNeg))))))) (by rw [stt_stt (a := a)]) ?_
    refine x_aload_n (M := M_X5_touchAtEnd) dX5_touchAtEnd_23 rfl ?_
    refine x_iload_n (M := M_X5_touchAtEnd) dX5_touchAtEnd_24 rfl ?_
    refine x_if_eq (M := M_X5_touchAtEnd) (tgt := 37) dX5_touchAtEnd_25 (by decide) (fun q1 => ?_) (fun q1 => ?_)
    · refine x_aload_n (M := M_X5_touchAtEnd) dX5_touchAtEnd_37 rfl ?_
      refine x_getf (M := M_X5_touchAtEnd) (ci := 8) (C := RX5) (T := TX5) (N := 8) (ty := tyX5) cl8 dX5_touchAtEnd_38 (ob_self ha) 3 (by decide) t_246 (gs_ne (by decide) e3) ?_
      refine x_iload_n (M := M_X5_touchAtEnd) dX5_touchAtEnd_41 rfl ?_
      refine x_iald (M := M_X5_touchAtEnd) dX5_touchAtEnd_42 (ob_oth ha o3) (i4 q0 q1) ?_
      refine x_put (M := M_X5_touchAtEnd) (ci := 8) (C := RX5) (T := TX5) (N := 8) (ty := tyX5) cl8 dX5_touchAtEnd_43 (ob_self ha) 7 (by decide) t_262 (Or.inl rfl) (by simp only [List.length_set, hn]; decide) rfl ?_
      refine x_heap (h' := (stt h a (.inr (8, ((fs.set 6 (.int (c0 w0.toNatClampNeg))).set 7 (.int (c3 w0.toNatClampNeg))))))) (by rw [stt_stt (a := a)]) ?_
      refine x_iconst (M := M_X5_touchAtEnd) dX5_touchAtEnd_46 ?_
      exact x_iret (M := M_X5_touchAtEnd) dX5_touchAtEnd_47 rfl ⟨by rw [f_X5_touchAtEnd], by rw [F_X5_touchAtEnd, if_neg q0, if_pos q1]⟩ (Nat.le_of_ble_eq_true rfl) (Nat.le_of_ble_eq_true rfl)
    · refine x_aload_n (M := M_X5_touchAtEnd) dX5_touchAtEnd_28 rfl ?_
      refine x_getf (M := M_X5_touchAtEnd) (ci := 8) (C := RX5) (T := TX5) (N := 8) (ty := tyX5) cl8 dX5_touchAtEnd_29 (ob_self ha) 1 (by decide) t_238 (gs_ne (by decide) e1) ?_
      refine x_iload_n (M := M_X5_touchAtEnd) dX5_touchAtEnd_32 rfl ?_
      refine x_iald (M := M_X5_touchAtEnd) dX5_touchAtEnd_33 (ob_oth ha o1) (i5 q0 q1) ?_
      refine x_goto (M := M_X5_touchAtEnd) (tgt := 43) dX5_touchAtEnd_34 (by decide) ?_
      refine x_put (M := M_X5_touchAtEnd) (ci := 8) (C := RX5) (T := TX5) (N := 8) (ty := tyX5) cl8 dX5_touchAtEnd_43 (ob_self ha) 7 (by decide) t_262 (Or.inl rfl) (by simp only [List.length_set, hn]; decide) rfl ?_
      refine x_heap (h' := (stt h a (.inr (8, ((fs.set 6 (.int (c0 w0.toNatClampNeg))).set 7 (.int (c1 w0.toNatClampNeg))))))) (by rw [stt_stt (a := a)]) ?_
      refine x_iconst (M := M_X5_touchAtEnd) dX5_touchAtEnd_46 ?_
      exact x_iret (M := M_X5_touchAtEnd) dX5_touchAtEnd_47 rfl ⟨by rw [f_X5_touchAtEnd], by rw [F_X5_touchAtEnd, if_neg q0, if_neg q1]⟩ (Nat.le_of_ble_eq_true rfl) (Nat.le_of_ble_eq_true rfl)
def f_X6_isThere (g3 : Int32) : Int32 := if g3 ≤ 0 then (Int32.ofInt 0) else ((Int32.ofInt 1))
theorem b_X6_isThere (g3 : Int32) : f_X6_isThere g3 = 0 ∨ f_X6_isThere g3 = 1 := (ite01 (Or.inl rfl) (Or.inr rfl))
theorem p_X6_isThere {l : Launch} {E : EE} (hl : l.stackTraces = false) {h : HP} {g3 : Int32} {a : Nat} {fs : List Value} (ha : ob h a = some (.inr (9, fs))) (e3 : fs[3]? = some (.int g3)) : en_C l E M_X6_isThere 0 0 0 [.ref a] h (pR (some (.int (f_X6_isThere g3))) h) := by
  refine en_mk m_X6_isThere rfl hl (Nat.le_of_ble_eq_true rfl) ?_
  refine x_aload_n (M := M_X6_isThere) dX6_isThere_0 rfl ?_
  refine x_getf (M := M_X6_isThere) (ci := 9) (C := RX6) (T := TX6) (N := 5) (ty := tyX6) cl9 dX6_isThere_1 ha 3 (by decide) t_72 e3 ?_
  refine x_if_le (M := M_X6_isThere) (tgt := 11) dX6_isThere_4 (by decide) (fun q0 => ?_) (fun q0 => ?_)
  · refine x_iconst (M := M_X6_isThere) dX6_isThere_11 ?_
    exact x_zret (M := M_X6_isThere) dX6_isThere_12 rfl (Or.inl rfl) ⟨by rw [f_X6_isThere, if_pos q0], rfl⟩ (Nat.le_of_ble_eq_true rfl) (Nat.le_of_ble_eq_true rfl)
  · refine x_iconst (M := M_X6_isThere) dX6_isThere_7 ?_
    refine x_goto (M := M_X6_isThere) (tgt := 12) dX6_isThere_8 (by decide) ?_
    exact x_zret (M := M_X6_isThere) dX6_isThere_12 rfl (Or.inr rfl) ⟨by rw [f_X6_isThere, if_neg q0], rfl⟩ (Nat.le_of_ble_eq_true rfl) (Nat.le_of_ble_eq_true rfl)
def f_X6_kind (g3 : Int32) (c0 : Nat → Int32) : Int32 := if g3 ≤ 0 then (Int32.ofInt 0) else ((c0 (Int32.ofInt 0).toNatClampNeg))
theorem p_X6_kind {l : Launch} {E : EE} (hl : l.stackTraces = false) {h : HP} {g3 : Int32} {c0 : Nat → Int32} {a : Nat} {fs : List Value} (ha : ob h a = some (.inr (9, fs))) (e3 : fs[3]? = some (.int g3)) {r0 n0 : Nat} (e0 : fs[0]? = some (.ref r0)) (o0 : ob h r0 = some (.inl (0, n0, .inl c0))) (i0 : (¬ g3 ≤ 0) → vp_in (Int32.ofInt 0) n0) : en_C l E M_X6_kind 0 0 0 [.ref a] h (pR (some (.int (f_X6_kind g3 c0))) h) := by
  refine en_mk m_X6_kind rfl hl (Nat.le_of_ble_eq_true rfl) ?_
  refine x_aload_n (M := M_X6_kind) dX6_kind_0 rfl ?_
  refine x_getf (M := M_X6_kind) (ci := 9) (C := RX6) (T := TX6) (N := 5) (ty := tyX6) cl9 dX6_kind_1 ha 3 (by decide) t_72 e3 ?_
  refine x_if_le (M := M_X6_kind) (tgt := 16) dX6_kind_4 (by decide) (fun q0 => ?_) (fun q0 => ?_)
  · refine x_iconst (M := M_X6_kind) dX6_kind_16 ?_
    exact x_iret (M := M_X6_kind) dX6_kind_17 rfl ⟨by rw [f_X6_kind, if_pos q0], rfl⟩ (Nat.le_of_ble_eq_true rfl) (Nat.le_of_ble_eq_true rfl)
  · refine x_aload_n (M := M_X6_kind) dX6_kind_7 rfl ?_
    refine x_getf (M := M_X6_kind) (ci := 9) (C := RX6) (T := TX6) (N := 5) (ty := tyX6) cl9 dX6_kind_8 ha 0 (by decide) t_50 e0 ?_
    refine x_iconst (M := M_X6_kind) dX6_kind_11 ?_
    refine x_iald (M := M_X6_kind) dX6_kind_12 o0 (i0 q0) ?_
    refine x_goto (M := M_X6_kind) (tgt := 17) dX6_kind_13 (by decide) ?_
    exact x_iret (M := M_X6_kind) dX6_kind_17 rfl ⟨by rw [f_X6_kind, if_neg q0], rfl⟩ (Nat.le_of_ble_eq_true rfl) (Nat.le_of_ble_eq_true rfl)
def F_X6_clear (fs : List Value)  : List Value := ((fs.set 3 (.int (Int32.ofInt 0))).set 4 (.int (Int32.ofInt 0)))
theorem l_X6_clear {fs : List Value}  : (F_X6_clear fs ).length = fs.length := by
  unfold F_X6_clear
  first | rfl | simp only [List.length_set]
theorem k_X6_clear {fs : List Value}  {k : Nat} (hk : k ∉ ([3, 4] : List Nat)) : (F_X6_clear fs )[k]? = fs[k]? := by
  simp only [List.mem_cons, List.not_mem_nil, or_false, not_or] at hk
  unfold F_X6_clear
  first | rfl | simp only [List.getElem?_set_ne (by omega : 3 ≠ k), List.getElem?_set_ne (by omega : 4 ≠ k)]
def V3_X6_clear  : Int32 := (Int32.ofInt 0)
theorem v3_X6_clear {fs : List Value}  (hn : fs.length = 5) : (F_X6_clear fs )[3]? = some (.int (V3_X6_clear )) := by
  unfold F_X6_clear V3_X6_clear
  exact (gs_ne (by decide) (gs_eq (by simp only [List.length_set, hn]; decide)))
def V4_X6_clear  : Int32 := (Int32.ofInt 0)
theorem v4_X6_clear {fs : List Value}  (hn : fs.length = 5) : (F_X6_clear fs )[4]? = some (.int (V4_X6_clear )) := by
  unfold F_X6_clear V4_X6_clear
  exact (gs_eq (by simp only [List.length_set, hn]; decide))
theorem p_X6_clear {l : Launch} {E : EE} (hl : l.stackTraces = false) {h : HP}  {a : Nat} {fs : List Value} (ha : ob h a = some (.inr (9, fs))) (hn : fs.length = 5) : en_C l E M_X6_clear 0 0 0 [.ref a] h (pR none (stt h a (.inr (9, F_X6_clear fs )))) := by
  refine en_mk m_X6_clear rfl hl (Nat.le_of_ble_eq_true rfl) ?_
  refine x_heap (h' := (stt h a (.inr (9, fs)))) (by rw [stt_id ha]) ?_
  refine x_aload_n (M := M_X6_clear) dX6_clear_0 rfl ?_
  refine x_iconst (M := M_X6_clear) dX6_clear_1 ?_
  refine x_put (M := M_X6_clear) (ci := 9) (C := RX6) (T := TX6) (N := 5) (ty := tyX6) cl9 dX6_clear_2 (ob_self ha) 3 (by decide) t_72 (Or.inl rfl) (by simp only [List.length_set, hn]; decide) rfl ?_
  refine x_heap (h' := (stt h a (.inr (9, (fs.set 3 (.int (Int32.ofInt 0))))))) (by rw [stt_stt (a := a)]) ?_
  refine x_aload_n (M := M_X6_clear) dX6_clear_5 rfl ?_
  refine x_iconst (M := M_X6_clear) dX6_clear_6 ?_
  refine x_put (M := M_X6_clear) (ci := 9) (C := RX6) (T := TX6) (N := 5) (ty := tyX6) cl9 dX6_clear_7 (ob_self ha) 4 (by decide) t_83 (Or.inl rfl) (by simp only [List.length_set, hn]; decide) rfl ?_
  refine x_heap (h' := (stt h a (.inr (9, ((fs.set 3 (.int (Int32.ofInt 0))).set 4 (.int (Int32.ofInt 0))))))) (by rw [stt_stt (a := a)]) ?_
  exact x_vret (M := M_X6_clear) dX6_clear_10 rfl ⟨rfl, by rw [F_X6_clear]⟩ (Nat.le_of_ble_eq_true rfl) (Nat.le_of_ble_eq_true rfl)
def f_X6_hasRoomForPoint (g4 : Int32) : Int32 := if (Int16.ofInt 2048).toInt32 ≤ g4 then (Int32.ofInt 0) else ((Int32.ofInt 1))
theorem b_X6_hasRoomForPoint (g4 : Int32) : f_X6_hasRoomForPoint g4 = 0 ∨ f_X6_hasRoomForPoint g4 = 1 := (ite01 (Or.inl rfl) (Or.inr rfl))
theorem p_X6_hasRoomForPoint {l : Launch} {E : EE} (hl : l.stackTraces = false) {h : HP} {g4 : Int32} {a : Nat} {fs : List Value} (ha : ob h a = some (.inr (9, fs))) (e4 : fs[4]? = some (.int g4)) : en_C l E M_X6_hasRoomForPoint 0 0 0 [.ref a] h (pR (some (.int (f_X6_hasRoomForPoint g4))) h) := by
  refine en_mk m_X6_hasRoomForPoint rfl hl (Nat.le_of_ble_eq_true rfl) ?_
  refine x_aload_n (M := M_X6_hasRoomForPoint) dX6_hasRoomForPoint_0 rfl ?_
  refine x_getf (M := M_X6_hasRoomForPoint) (ci := 9) (C := RX6) (T := TX6) (N := 5) (ty := tyX6) cl9 dX6_hasRoomForPoint_1 ha 4 (by decide) t_83 e4 ?_
  refine x_sipush (M := M_X6_hasRoomForPoint) dX6_hasRoomForPoint_4 ?_
  refine x_icmp_ge (M := M_X6_hasRoomForPoint) (tgt := 14) dX6_hasRoomForPoint_7 (by decide) (fun q0 => ?_) (fun q0 => ?_)
  · refine x_iconst (M := M_X6_hasRoomForPoint) dX6_hasRoomForPoint_14 ?_
    exact x_zret (M := M_X6_hasRoomForPoint) dX6_hasRoomForPoint_15 rfl (Or.inl rfl) ⟨by rw [f_X6_hasRoomForPoint, if_pos q0], rfl⟩ (Nat.le_of_ble_eq_true rfl) (Nat.le_of_ble_eq_true rfl)
  · refine x_iconst (M := M_X6_hasRoomForPoint) dX6_hasRoomForPoint_10 ?_
    refine x_goto (M := M_X6_hasRoomForPoint) (tgt := 15) dX6_hasRoomForPoint_11 (by decide) ?_
    exact x_zret (M := M_X6_hasRoomForPoint) dX6_hasRoomForPoint_15 rfl (Or.inr rfl) ⟨by rw [f_X6_hasRoomForPoint, if_neg q0], rfl⟩ (Nat.le_of_ble_eq_true rfl) (Nat.le_of_ble_eq_true rfl)
def f_X6_addShape (g3 : Int32) (c0 : Nat → Int32) (w0 : Int32) (w1 : Int32) : Int32 := if g3 ≤ (Int16.ofInt 2046).toInt32 then (Int32.ofInt 1) else ((Int32.ofInt 0))
theorem b_X6_addShape (g3 : Int32) (c0 : Nat → Int32) (w0 : Int32) (w1 : Int32) : f_X6_addShape g3 c0 w0 w1 = 0 ∨ f_X6_addShape g3 c0 w0 w1 = 1 := (ite01 (Or.inr rfl) (Or.inl rfl))
def F_X6_addShape (fs : List Value) (g3 : Int32) (c0 : Nat → Int32) (w0 : Int32) (w1 : Int32) : List Value := if g3 ≤ (Int16.ofInt 2046).toInt32 then (fs.set 3 (.int (g3 + (Int32.ofInt 2)))) else (fs)
def A0_X6_addShape (g3 : Int32) (c0 : Nat → Int32) (w0 : Int32) (w1 : Int32) : Nat → Int32 := if g3 ≤ (Int16.ofInt 2046).toInt32 then (upd (upd c0 g3.toNatClampNeg w0) (g3 + (Int32.ofInt 1)).toNatClampNeg w1) else (c0)
theorem l_X6_addShape {fs : List Value} {g3 : Int32} {c0 : Nat → Int32} {w0 : Int32} {w1 : Int32} : (F_X6_addShape fs g3 c0 w0 w1).length = fs.length := by
  unfold F_X6_addShape
  repeat' split
  all_goals first | rfl | simp only [List.length_set]
theorem k_X6_addShape {fs : List Value} {g3 : Int32} {c0 : Nat → Int32} {w0 : Int32} {w1 : Int32} {k : Nat} (hk : k ∉ ([3] : List Nat)) : (F_X6_addShape fs g3 c0 w0 w1)[k]? = fs[k]? := by
  simp only [List.mem_cons, List.not_mem_nil, or_false, not_or] at hk
  unfold F_X6_addShape
  repeat' split
  all_goals first | rfl | simp only [List.getElem?_set_ne (by omega : 3 ≠ k)]
def V3_X6_addShape (g3 : Int32) (c0 : Nat → Int32) (w0 : Int32) (w1 : Int32) : Int32 := if g3 ≤ (Int16.ofInt 2046).toInt32 then (g3 + (Int32.ofInt 2)) else (g3)
theorem v3_X6_addShape {fs : List Value} {g3 : Int32} {c0 : Nat → Int32} {w0 : Int32} {w1 : Int32} (hn : fs.length = 5) (e3 : fs[3]? = some (.int g3)) : (F_X6_addShape fs g3 c0 w0 w1)[3]? = some (.int (V3_X6_addShape g3 c0 w0 w1)) := by
  unfold F_X6_addShape V3_X6_addShape
  exact (gi (gs_eq (by simp only [List.length_set, hn]; decide)) e3)
theorem p_X6_addShape {l : Launch} {E : EE} (hl : l.stackTraces = false) {h : HP} {g3 : Int32} {c0 : Nat → Int32} {w0 : Int32} {w1 : Int32} {a : Nat} {fs : List Value} (ha : ob h a = some (.inr (9, fs))) (hn : fs.length = 5) (e3 : fs[3]? = some (.int g3)) {r0 n0 : Nat} (e0 : fs[0]? = some (.ref r0)) (o0 : ob h r0 = some (.inl (0, n0, .inl c0))) (i0 : (g3 ≤ (Int16.ofInt 2046).toInt32) → vp_in g3 n0) (i1 : (g3 ≤ (Int16.ofInt 2046).toInt32) → vp_in (g3 + (Int32.ofInt 1)) n0) : en_C l E M_X6_addShape 0 0 0 [.ref a, .int w0, .int w1] h (pR (some (.int (f_X6_addShape g3 c0 w0 w1))) (stt (stt h a (.inr (9, F_X6_addShape fs g3 c0 w0 w1))) r0 (.inl (0, n0, .inl (A0_X6_addShape g3 c0 w0 w1))))) := by
  refine en_mk m_X6_addShape rfl hl (Nat.le_of_ble_eq_true rfl) ?_
  refine x_heap (h' := (stt (stt h a (.inr (9, fs))) r0 (.inl (0, n0, .inl c0)))) (by rw [stt_id ha, stt_id o0]) ?_
  refine x_aload_n (M := M_X6_addShape) dX6_addShape_0 rfl ?_
  refine x_getf (M := M_X6_addShape) (ci := 9) (C := RX6) (T := TX6) (N := 5) (ty := tyX6) cl9 dX6_addShape_1 (ob_up (ob_df ha o0).symm (ob_at o0).1 (ob_self ha)) 3 (by decide) t_72 e3 ?_
  refine x_sipush (M := M_X6_addShape) dX6_addShape_4 ?_
  refine x_icmp_le (M := M_X6_addShape) (tgt := 12) dX6_addShape_7 (by decide) (fun q0 => ?_) (fun q0 => ?_)
  · refine x_aload_n (M := M_X6_addShape) dX6_addShape_12 rfl ?_
    refine x_getf (M := M_X6_addShape) (ci := 9) (C := RX6) (T := TX6) (N := 5) (ty := tyX6) cl9 dX6_addShape_13 (ob_up (ob_df ha o0).symm (ob_at o0).1 (ob_self ha)) 0 (by decide) t_50 e0 ?_
    refine x_aload_n (M := M_X6_addShape) dX6_addShape_16 rfl ?_
    refine x_getf (M := M_X6_addShape) (ci := 9) (C := RX6) (T := TX6) (N := 5) (ty := tyX6) cl9 dX6_addShape_17 (ob_up (ob_df ha o0).symm (ob_at o0).1 (ob_self ha)) 3 (by decide) t_72 e3 ?_
    refine x_iload_n (M := M_X6_addShape) dX6_addShape_20 rfl ?_
    refine x_iast (M := M_X6_addShape) dX6_addShape_21 (ob_self (ob_oth ha o0)) (i0 q0) ?_
    refine x_heap (h' := (stt (stt h a (.inr (9, fs))) r0 (.inl (0, n0, .inl (upd c0 g3.toNatClampNeg w0))))) (by rw [stt_stt (a := r0)]) ?_
    refine x_aload_n (M := M_X6_addShape) dX6_addShape_22 rfl ?_
    refine x_getf (M := M_X6_addShape) (ci := 9) (C := RX6) (T := TX6) (N := 5) (ty := tyX6) cl9 dX6_addShape_23 (ob_up (ob_df ha o0).symm (ob_at o0).1 (ob_self ha)) 0 (by decide) t_50 e0 ?_
    refine x_aload_n (M := M_X6_addShape) dX6_addShape_26 rfl ?_
    refine x_getf (M := M_X6_addShape) (ci := 9) (C := RX6) (T := TX6) (N := 5) (ty := tyX6) cl9 dX6_addShape_27 (ob_up (ob_df ha o0).symm (ob_at o0).1 (ob_self ha)) 3 (by decide) t_72 e3 ?_
    refine x_iconst (M := M_X6_addShape) dX6_addShape_30 ?_
    refine x_iadd (M := M_X6_addShape) dX6_addShape_31 ?_
    refine x_iload_n (M := M_X6_addShape) dX6_addShape_32 rfl ?_
    refine x_iast (M := M_X6_addShape) dX6_addShape_33 (ob_self (ob_oth ha o0)) (i1 q0) ?_
    refine x_heap (h' := (stt (stt h a (.inr (9, fs))) r0 (.inl (0, n0, .inl (upd (upd c0 g3.toNatClampNeg w0) (g3 + (Int32.ofInt 1)).toNatClampNeg w1))))) (by rw [stt_stt (a := r0)]) ?_
    refine x_aload_n (M := M_X6_addShape) dX6_addShape_34 rfl ?_
    refine x_dup (M := M_X6_addShape) dX6_addShape_35 rfl ?_
    refine x_getf (M := M_X6_addShape) (ci := 9) (C := RX6) (T := TX6) (N := 5) (ty := tyX6) cl9 dX6_addShape_36 (ob_up (ob_df ha o0).symm (ob_at o0).1 (ob_self ha)) 3 (by decide) t_72 e3 ?_
    refine x_iconst (M := M_X6_addShape) dX6_addShape_39 ?_
    refine x_iadd (M := M_X6_addShape) dX6_addShape_40 ?_
    refine x_put (M := M_X6_addShape) (ci := 9) (C := RX6) (T := TX6) (N := 5) (ty := tyX6) cl9 dX6_addShape_41 (ob_up (ob_df ha o0).symm (ob_at o0).1 (ob_self ha)) 3 (by decide) t_72 (Or.inl rfl) (by simp only [List.length_set, hn]; decide) rfl ?_
    refine x_heap (h' := (stt (stt h a (.inr (9, (fs.set 3 (.int (g3 + (Int32.ofInt 2))))))) r0 (.inl (0, n0, .inl (upd (upd c0 g3.toNatClampNeg w0) (g3 + (Int32.ofInt 1)).toNatClampNeg w1))))) (by rw [stt_sw (x := r0) (y := a) (ob_df ha o0).symm (ob_at o0).1 (ob_at ha).1, stt_stt (a := a)]) ?_
    refine x_iconst (M := M_X6_addShape) dX6_addShape_44 ?_
    exact x_zret (M := M_X6_addShape) dX6_addShape_45 rfl (Or.inr rfl) ⟨by rw [f_X6_addShape, if_pos q0], by rw [F_X6_addShape, if_pos q0, A0_X6_addShape, if_pos q0]⟩ (Nat.le_of_ble_eq_true rfl) (Nat.le_of_ble_eq_true rfl)
  · refine x_iconst (M := M_X6_addShape) dX6_addShape_10 ?_
    exact x_zret (M := M_X6_addShape) dX6_addShape_11 rfl (Or.inl rfl) ⟨by rw [f_X6_addShape, if_neg q0], by rw [F_X6_addShape, if_neg q0, A0_X6_addShape, if_neg q0]⟩ (Nat.le_of_ble_eq_true rfl) (Nat.le_of_ble_eq_true rfl)
def f_X6_addRing (g3 : Int32) (c0 : Nat → Int32) (w0 : Int32) : Int32 := if g3 < (Int16.ofInt 2048).toInt32 then (Int32.ofInt 1) else ((Int32.ofInt 0))
theorem b_X6_addRing (g3 : Int32) (c0 : Nat → Int32) (w0 : Int32) : f_X6_addRing g3 c0 w0 = 0 ∨ f_X6_addRing g3 c0 w0 = 1 := (ite01 (Or.inr rfl) (Or.inl rfl))
def F_X6_addRing (fs : List Value) (g3 : Int32) (c0 : Nat → Int32) (w0 : Int32) : List Value := if g3 < (Int16.ofInt 2048).toInt32 then (fs.set 3 (.int (g3 + (Int32.ofInt 1)))) else (fs)
def A0_X6_addRing (g3 : Int32) (c0 : Nat → Int32) (w0 : Int32) : Nat → Int32 := if g3 < (Int16.ofInt 2048).toInt32 then (upd c0 g3.toNatClampNeg w0) else (c0)
theorem l_X6_addRing {fs : List Value} {g3 : Int32} {c0 : Nat → Int32} {w0 : Int32} : (F_X6_addRing fs g3 c0 w0).length = fs.length := by
  unfold F_X6_addRing
  repeat' split
  all_goals first | rfl | simp only [List.length_set]
theorem k_X6_addRing {fs : List Value} {g3 : Int32} {c0 : Nat → Int32} {w0 : Int32} {k : Nat} (hk : k ∉ ([3] : List Nat)) : (F_X6_addRing fs g3 c0 w0)[k]? = fs[k]? := by
  simp only [List.mem_cons, List.not_mem_nil, or_false, not_or] at hk
  unfold F_X6_addRing
  repeat' split
  all_goals first | rfl | simp only [List.getElem?_set_ne (by omega : 3 ≠ k)]
def V3_X6_addRing (g3 : Int32) (c0 : Nat → Int32) (w0 : Int32) : Int32 := if g3 < (Int16.ofInt 2048).toInt32 then (g3 + (Int32.ofInt 1)) else (g3)
theorem v3_X6_addRing {fs : List Value} {g3 : Int32} {c0 : Nat → Int32} {w0 : Int32} (hn : fs.length = 5) (e3 : fs[3]? = some (.int g3)) : (F_X6_addRing fs g3 c0 w0)[3]? = some (.int (V3_X6_addRing g3 c0 w0)) := by
  unfold F_X6_addRing V3_X6_addRing
  exact (gi (gs_eq (by simp only [List.length_set, hn]; decide)) e3)
theorem p_X6_addRing {l : Launch} {E : EE} (hl : l.stackTraces = false) {h : HP} {g3 : Int32} {c0 : Nat → Int32} {w0 : Int32} {a : Nat} {fs : List Value} (ha : ob h a = some (.inr (9, fs))) (hn : fs.length = 5) (e3 : fs[3]? = some (.int g3)) {r0 n0 : Nat} (e0 : fs[0]? = some (.ref r0)) (o0 : ob h r0 = some (.inl (0, n0, .inl c0))) (i0 : (g3 < (Int16.ofInt 2048).toInt32) → vp_in g3 n0) : en_C l E M_X6_addRing 0 0 0 [.ref a, .int w0] h (pR (some (.int (f_X6_addRing g3 c0 w0))) (stt (stt h a (.inr (9, F_X6_addRing fs g3 c0 w0))) r0 (.inl (0, n0, .inl (A0_X6_addRing g3 c0 w0))))) := by
  refine en_mk m_X6_addRing rfl hl (Nat.le_of_ble_eq_true rfl) ?_
  refine x_heap (h' := (stt (stt h a (.inr (9, fs))) r0 (.inl (0, n0, .inl c0)))) (by rw [stt_id ha, stt_id o0]) ?_
  refine x_aload_n (M := M_X6_addRing) dX6_addRing_0 rfl ?_
  refine x_getf (M := M_X6_addRing) (ci := 9) (C := RX6) (T := TX6) (N := 5) (ty := tyX6) cl9 dX6_addRing_1 (ob_up (ob_df ha o0).symm (ob_at o0).1 (ob_self ha)) 3 (by decide) t_72 e3 ?_
  refine x_sipush (M := M_X6_addRing) dX6_addRing_4 ?_
  refine x_icmp_lt (M := M_X6_addRing) (tgt := 12) dX6_addRing_7 (by decide) (fun q0 => ?_) (fun q0 => ?_)
  · refine x_aload_n (M := M_X6_addRing) dX6_addRing_12 rfl ?_
    refine x_getf (M := M_X6_addRing) (ci := 9) (C := RX6) (T := TX6) (N := 5) (ty := tyX6) cl9 dX6_addRing_13 (ob_up (ob_df ha o0).symm (ob_at o0).1 (ob_self ha)) 0 (by decide) t_50 e0 ?_
    refine x_aload_n (M := M_X6_addRing) dX6_addRing_16 rfl ?_
    refine x_getf (M := M_X6_addRing) (ci := 9) (C := RX6) (T := TX6) (N := 5) (ty := tyX6) cl9 dX6_addRing_17 (ob_up (ob_df ha o0).symm (ob_at o0).1 (ob_self ha)) 3 (by decide) t_72 e3 ?_
    refine x_iload_n (M := M_X6_addRing) dX6_addRing_20 rfl ?_
    refine x_iast (M := M_X6_addRing) dX6_addRing_21 (ob_self (ob_oth ha o0)) (i0 q0) ?_
    refine x_heap (h' := (stt (stt h a (.inr (9, fs))) r0 (.inl (0, n0, .inl (upd c0 g3.toNatClampNeg w0))))) (by rw [stt_stt (a := r0)]) ?_
    refine x_aload_n (M := M_X6_addRing) dX6_addRing_22 rfl ?_
    refine x_dup (M := M_X6_addRing) dX6_addRing_23 rfl ?_
    refine x_getf (M := M_X6_addRing) (ci := 9) (C := RX6) (T := TX6) (N := 5) (ty := tyX6) cl9 dX6_addRing_24 (ob_up (ob_df ha o0).symm (ob_at o0).1 (ob_self ha)) 3 (by decide) t_72 e3 ?_
    refine x_iconst (M := M_X6_addRing) dX6_addRing_27 ?_
    refine x_iadd (M := M_X6_addRing) dX6_addRing_28 ?_
    refine x_put (M := M_X6_addRing) (ci := 9) (C := RX6) (T := TX6) (N := 5) (ty := tyX6) cl9 dX6_addRing_29 (ob_up (ob_df ha o0).symm (ob_at o0).1 (ob_self ha)) 3 (by decide) t_72 (Or.inl rfl) (by simp only [List.length_set, hn]; decide) rfl ?_
    refine x_heap (h' := (stt (stt h a (.inr (9, (fs.set 3 (.int (g3 + (Int32.ofInt 1))))))) r0 (.inl (0, n0, .inl (upd c0 g3.toNatClampNeg w0))))) (by rw [stt_sw (x := r0) (y := a) (ob_df ha o0).symm (ob_at o0).1 (ob_at ha).1, stt_stt (a := a)]) ?_
    refine x_iconst (M := M_X6_addRing) dX6_addRing_32 ?_
    exact x_zret (M := M_X6_addRing) dX6_addRing_33 rfl (Or.inr rfl) ⟨by rw [f_X6_addRing, if_pos q0], by rw [F_X6_addRing, if_pos q0, A0_X6_addRing, if_pos q0]⟩ (Nat.le_of_ble_eq_true rfl) (Nat.le_of_ble_eq_true rfl)
  · refine x_iconst (M := M_X6_addRing) dX6_addRing_10 ?_
    exact x_zret (M := M_X6_addRing) dX6_addRing_11 rfl (Or.inl rfl) ⟨by rw [f_X6_addRing, if_neg q0], by rw [F_X6_addRing, if_neg q0, A0_X6_addRing, if_neg q0]⟩ (Nat.le_of_ble_eq_true rfl) (Nat.le_of_ble_eq_true rfl)
def f_X6_addPoint (g4 : Int32) (c1 : Nat → Int32) (c2 : Nat → Int32) (w0 : Int32) (w1 : Int32) : Int32 := if g4 < (Int16.ofInt 2048).toInt32 then (Int32.ofInt 1) else ((Int32.ofInt 0))
theorem b_X6_addPoint (g4 : Int32) (c1 : Nat → Int32) (c2 : Nat → Int32) (w0 : Int32) (w1 : Int32) : f_X6_addPoint g4 c1 c2 w0 w1 = 0 ∨ f_X6_addPoint g4 c1 c2 w0 w1 = 1 := (ite01 (Or.inr rfl) (Or.inl rfl))
def F_X6_addPoint (fs : List Value) (g4 : Int32) (c1 : Nat → Int32) (c2 : Nat → Int32) (w0 : Int32) (w1 : Int32) : List Value := if g4 < (Int16.ofInt 2048).toInt32 then (fs.set 4 (.int (g4 + (Int32.ofInt 1)))) else (fs)
def A1_X6_addPoint (g4 : Int32) (c1 : Nat → Int32) (c2 : Nat → Int32) (w0 : Int32) (w1 : Int32) : Nat → Int32 := if g4 < (Int16.ofInt 2048).toInt32 then (upd c1 g4.toNatClampNeg w0) else (c1)
def A2_X6_addPoint (g4 : Int32) (c1 : Nat → Int32) (c2 : Nat → Int32) (w0 : Int32) (w1 : Int32) : Nat → Int32 := if g4 < (Int16.ofInt 2048).toInt32 then (upd c2 g4.toNatClampNeg w1) else (c2)
theorem l_X6_addPoint {fs : List Value} {g4 : Int32} {c1 : Nat → Int32} {c2 : Nat → Int32} {w0 : Int32} {w1 : Int32} : (F_X6_addPoint fs g4 c1 c2 w0 w1).length = fs.length := by
  unfold F_X6_addPoint
  repeat' split
  all_goals first | rfl | simp only [List.length_set]
theorem k_X6_addPoint {fs : List Value} {g4 : Int32} {c1 : Nat → Int32} {c2 : Nat → Int32} {w0 : Int32} {w1 : Int32} {k : Nat} (hk : k ∉ ([4] : List Nat)) : (F_X6_addPoint fs g4 c1 c2 w0 w1)[k]? = fs[k]? := by
  simp only [List.mem_cons, List.not_mem_nil, or_false, not_or] at hk
  unfold F_X6_addPoint
  repeat' split
  all_goals first | rfl | simp only [List.getElem?_set_ne (by omega : 4 ≠ k)]
def V4_X6_addPoint (g4 : Int32) (c1 : Nat → Int32) (c2 : Nat → Int32) (w0 : Int32) (w1 : Int32) : Int32 := if g4 < (Int16.ofInt 2048).toInt32 then (g4 + (Int32.ofInt 1)) else (g4)
theorem v4_X6_addPoint {fs : List Value} {g4 : Int32} {c1 : Nat → Int32} {c2 : Nat → Int32} {w0 : Int32} {w1 : Int32} (hn : fs.length = 5) (e4 : fs[4]? = some (.int g4)) : (F_X6_addPoint fs g4 c1 c2 w0 w1)[4]? = some (.int (V4_X6_addPoint g4 c1 c2 w0 w1)) := by
  unfold F_X6_addPoint V4_X6_addPoint
  exact (gi (gs_eq (by simp only [List.length_set, hn]; decide)) e4)
theorem p_X6_addPoint {l : Launch} {E : EE} (hl : l.stackTraces = false) {h : HP} {g4 : Int32} {c1 : Nat → Int32} {c2 : Nat → Int32} {w0 : Int32} {w1 : Int32} {a : Nat} {fs : List Value} (ha : ob h a = some (.inr (9, fs))) (hn : fs.length = 5) (e4 : fs[4]? = some (.int g4)) {r1 n1 : Nat} (e1 : fs[1]? = some (.ref r1)) (o1 : ob h r1 = some (.inl (0, n1, .inl c1))) {r2 n2 : Nat} (e2 : fs[2]? = some (.ref r2)) (o2 : ob h r2 = some (.inl (0, n2, .inl c2))) (d1_2 : r1 ≠ r2) (i0 : (g4 < (Int16.ofInt 2048).toInt32) → vp_in g4 n1) (i1 : (g4 < (Int16.ofInt 2048).toInt32) → vp_in g4 n2) : en_C l E M_X6_addPoint 0 0 0 [.ref a, .int w0, .int w1] h (pR (some (.int (f_X6_addPoint g4 c1 c2 w0 w1))) (stt (stt (stt h a (.inr (9, F_X6_addPoint fs g4 c1 c2 w0 w1))) r1 (.inl (0, n1, .inl (A1_X6_addPoint g4 c1 c2 w0 w1)))) r2 (.inl (0, n2, .inl (A2_X6_addPoint g4 c1 c2 w0 w1))))) := by
  refine en_mk m_X6_addPoint rfl hl (Nat.le_of_ble_eq_true rfl) ?_
  refine x_heap (h' := (stt (stt (stt h a (.inr (9, fs))) r1 (.inl (0, n1, .inl c1))) r2 (.inl (0, n2, .inl c2)))) (by rw [stt_id ha, stt_id o1, stt_id o2]) ?_
  refine x_aload_n (M := M_X6_addPoint) dX6_addPoint_0 rfl ?_
  refine x_getf (M := M_X6_addPoint) (ci := 9) (C := RX6) (T := TX6) (N := 5) (ty := tyX6) cl9 dX6_addPoint_1 (ob_up (ob_df ha o2).symm (ob_at o2).1 (ob_up (ob_df ha o1).symm (ob_at o1).1 (ob_self ha))) 4 (by decide) t_83 e4 ?_
  refine x_sipush (M := M_X6_addPoint) dX6_addPoint_4 ?_
  refine x_icmp_lt (M := M_X6_addPoint) (tgt := 12) dX6_addPoint_7 (by decide) (fun q0 => ?_) (fun q0 => ?_)
  · refine x_aload_n (M := M_X6_addPoint) dX6_addPoint_12 rfl ?_
    refine x_getf (M := M_X6_addPoint) (ci := 9) (C := RX6) (T := TX6) (N := 5) (ty := tyX6) cl9 dX6_addPoint_13 (ob_up (ob_df ha o2).symm (ob_at o2).1 (ob_up (ob_df ha o1).symm (ob_at o1).1 (ob_self ha))) 1 (by decide) t_58 e1 ?_
    refine x_aload_n (M := M_X6_addPoint) dX6_addPoint_16 rfl ?_
    refine x_getf (M := M_X6_addPoint) (ci := 9) (C := RX6) (T := TX6) (N := 5) (ty := tyX6) cl9 dX6_addPoint_17 (ob_up (ob_df ha o2).symm (ob_at o2).1 (ob_up (ob_df ha o1).symm (ob_at o1).1 (ob_self ha))) 4 (by decide) t_83 e4 ?_
    refine x_iload_n (M := M_X6_addPoint) dX6_addPoint_20 rfl ?_
    refine x_iast (M := M_X6_addPoint) dX6_addPoint_21 (ob_up d1_2.symm (ob_at o2).1 (ob_self (ob_oth ha o1))) (i0 q0) ?_
    refine x_heap (h' := (stt (stt (stt h a (.inr (9, fs))) r1 (.inl (0, n1, .inl (upd c1 g4.toNatClampNeg w0)))) r2 (.inl (0, n2, .inl c2)))) (by rw [stt_sw (x := r2) (y := r1) d1_2.symm (ob_at o2).1 (ob_at o1).1, stt_stt (a := r1)]) ?_
    refine x_aload_n (M := M_X6_addPoint) dX6_addPoint_22 rfl ?_
    refine x_getf (M := M_X6_addPoint) (ci := 9) (C := RX6) (T := TX6) (N := 5) (ty := tyX6) cl9 dX6_addPoint_23 (ob_up (ob_df ha o2).symm (ob_at o2).1 (ob_up (ob_df ha o1).symm (ob_at o1).1 (ob_self ha))) 2 (by decide) t_65 e2 ?_
    refine x_aload_n (M := M_X6_addPoint) dX6_addPoint_26 rfl ?_
    refine x_getf (M := M_X6_addPoint) (ci := 9) (C := RX6) (T := TX6) (N := 5) (ty := tyX6) cl9 dX6_addPoint_27 (ob_up (ob_df ha o2).symm (ob_at o2).1 (ob_up (ob_df ha o1).symm (ob_at o1).1 (ob_self ha))) 4 (by decide) t_83 e4 ?_
    refine x_iload_n (M := M_X6_addPoint) dX6_addPoint_30 rfl ?_
    refine x_iast (M := M_X6_addPoint) dX6_addPoint_31 (ob_self (ob_up d1_2 (ob_at o1).1 (ob_oth ha o2))) (i1 q0) ?_
    refine x_heap (h' := (stt (stt (stt h a (.inr (9, fs))) r1 (.inl (0, n1, .inl (upd c1 g4.toNatClampNeg w0)))) r2 (.inl (0, n2, .inl (upd c2 g4.toNatClampNeg w1))))) (by rw [stt_stt (a := r2)]) ?_
    refine x_aload_n (M := M_X6_addPoint) dX6_addPoint_32 rfl ?_
    refine x_dup (M := M_X6_addPoint) dX6_addPoint_33 rfl ?_
    refine x_getf (M := M_X6_addPoint) (ci := 9) (C := RX6) (T := TX6) (N := 5) (ty := tyX6) cl9 dX6_addPoint_34 (ob_up (ob_df ha o2).symm (ob_at o2).1 (ob_up (ob_df ha o1).symm (ob_at o1).1 (ob_self ha))) 4 (by decide) t_83 e4 ?_
    refine x_iconst (M := M_X6_addPoint) dX6_addPoint_37 ?_
    refine x_iadd (M := M_X6_addPoint) dX6_addPoint_38 ?_
    refine x_put (M := M_X6_addPoint) (ci := 9) (C := RX6) (T := TX6) (N := 5) (ty := tyX6) cl9 dX6_addPoint_39 (ob_up (ob_df ha o2).symm (ob_at o2).1 (ob_up (ob_df ha o1).symm (ob_at o1).1 (ob_self ha))) 4 (by decide) t_83 (Or.inl rfl) (by simp only [List.length_set, hn]; decide) rfl ?_
    refine x_heap (h' := (stt (stt (stt h a (.inr (9, (fs.set 4 (.int (g4 + (Int32.ofInt 1))))))) r1 (.inl (0, n1, .inl (upd c1 g4.toNatClampNeg w0)))) r2 (.inl (0, n2, .inl (upd c2 g4.toNatClampNeg w1))))) (by rw [stt_sw (x := r2) (y := a) (ob_df ha o2).symm (ob_at o2).1 (ob_at ha).1, stt_sw (x := r1) (y := a) (ob_df ha o1).symm (ob_at o1).1 (ob_at ha).1, stt_stt (a := a)]) ?_
    refine x_iconst (M := M_X6_addPoint) dX6_addPoint_42 ?_
    exact x_zret (M := M_X6_addPoint) dX6_addPoint_43 rfl (Or.inr rfl) ⟨by rw [f_X6_addPoint, if_pos q0], by rw [F_X6_addPoint, if_pos q0, A1_X6_addPoint, if_pos q0, A2_X6_addPoint, if_pos q0]⟩ (Nat.le_of_ble_eq_true rfl) (Nat.le_of_ble_eq_true rfl)
  · refine x_iconst (M := M_X6_addPoint) dX6_addPoint_10 ?_
    exact x_zret (M := M_X6_addPoint) dX6_addPoint_11 rfl (Or.inl rfl) ⟨by rw [f_X6_addPoint, if_neg q0], by rw [F_X6_addPoint, if_neg q0, A1_X6_addPoint, if_neg q0, A2_X6_addPoint, if_neg q0]⟩ (Nat.le_of_ble_eq_true rfl) (Nat.le_of_ble_eq_true rfl)
def f_X6_behind (c0 : Nat → Int32) (w0 : Int32) : Int32 := if (c0 w0.toNatClampNeg) = (Int32.ofInt 3) then ((w0 + (Int32.ofInt 2)) + (c0 (w0 + (Int32.ofInt 1)).toNatClampNeg)) else ((w0 + (Int32.ofInt 2)))
theorem p_X6_behind {l : Launch} {E : EE} (hl : l.stackTraces = false) {h : HP} {c0 : Nat → Int32} {w0 : Int32} {a : Nat} {fs : List Value} (ha : ob h a = some (.inr (9, fs))) {r0 n0 : Nat} (e0 : fs[0]? = some (.ref r0)) (o0 : ob h r0 = some (.inl (0, n0, .inl c0))) (i0 : vp_in w0 n0) (i1 : ((c0 w0.toNatClampNeg) = (Int32.ofInt 3)) → vp_in (w0 + (Int32.ofInt 1)) n0) : en_C l E M_X6_behind 0 0 0 [.ref a, .int w0] h (pR (some (.int (f_X6_behind c0 w0))) h) := by
  refine en_mk m_X6_behind rfl hl (Nat.le_of_ble_eq_true rfl) ?_
  refine x_aload_n (M := M_X6_behind) dX6_behind_0 rfl ?_
  refine x_getf (M := M_X6_behind) (ci := 9) (C := RX6) (T := TX6) (N := 5) (ty := tyX6) cl9 dX6_behind_1 ha 0 (by decide) t_50 e0 ?_
  refine x_iload_n (M := M_X6_behind) dX6_behind_4 rfl ?_
  refine x_iald (M := M_X6_behind) dX6_behind_5 o0 i0 ?_
  refine x_iconst (M := M_X6_behind) dX6_behind_6 ?_
  refine x_icmp_ne (M := M_X6_behind) (tgt := 25) dX6_behind_7 (by decide) (fun q0 => ?_) (fun q0 => ?_)
  · refine x_iload_n (M := M_X6_behind) dX6_behind_25 rfl ?_
    refine x_iconst (M := M_X6_behind) dX6_behind_26 ?_
    refine x_iadd (M := M_X6_behind) dX6_behind_27 ?_
    exact x_iret (M := M_X6_behind) dX6_behind_28 rfl ⟨by rw [f_X6_behind, if_neg q0], rfl⟩ (Nat.le_of_ble_eq_true rfl) (Nat.le_of_ble_eq_true rfl)
  · refine x_iload_n (M := M_X6_behind) dX6_behind_10 rfl ?_
    refine x_iconst (M := M_X6_behind) dX6_behind_11 ?_
    refine x_iadd (M := M_X6_behind) dX6_behind_12 ?_
    refine x_aload_n (M := M_X6_behind) dX6_behind_13 rfl ?_
    refine x_getf (M := M_X6_behind) (ci := 9) (C := RX6) (T := TX6) (N := 5) (ty := tyX6) cl9 dX6_behind_14 ha 0 (by decide) t_50 e0 ?_
    refine x_iload_n (M := M_X6_behind) dX6_behind_17 rfl ?_
    refine x_iconst (M := M_X6_behind) dX6_behind_18 ?_
    refine x_iadd (M := M_X6_behind) dX6_behind_19 ?_
    refine x_iald (M := M_X6_behind) dX6_behind_20 o0 (i1 q0) ?_
    refine x_iadd (M := M_X6_behind) dX6_behind_21 ?_
    refine x_goto (M := M_X6_behind) (tgt := 28) dX6_behind_22 (by decide) ?_
    exact x_iret (M := M_X6_behind) dX6_behind_28 rfl ⟨by rw [f_X6_behind, if_pos q0], rfl⟩ (Nat.le_of_ble_eq_true rfl) (Nat.le_of_ble_eq_true rfl)
def f_X6_rows (c0 : Nat → Int32) (w0 : Int32) : Int32 := if (c0 w0.toNatClampNeg) = (Int32.ofInt 3) then (c0 (w0 + (Int32.ofInt 1)).toNatClampNeg) else (if (Int32.ofInt 3) ≤ (c0 w0.toNatClampNeg) then (Int32.ofInt 0) else ((Int32.ofInt 1)))
theorem p_X6_rows {l : Launch} {E : EE} (hl : l.stackTraces = false) {h : HP} {c0 : Nat → Int32} {w0 : Int32} {a : Nat} {fs : List Value} (ha : ob h a = some (.inr (9, fs))) {r0 n0 : Nat} (e0 : fs[0]? = some (.ref r0)) (o0 : ob h r0 = some (.inl (0, n0, .inl c0))) (i0 : vp_in w0 n0) (i1 : (¬ (c0 w0.toNatClampNeg) = (Int32.ofInt 3)) → vp_in w0 n0) (i2 : ((c0 w0.toNatClampNeg) = (Int32.ofInt 3)) → vp_in (w0 + (Int32.ofInt 1)) n0) : en_C l E M_X6_rows 0 0 0 [.ref a, .int w0] h (pR (some (.int (f_X6_rows c0 w0))) h) := by
  refine en_mk m_X6_rows rfl hl (Nat.le_of_ble_eq_true rfl) ?_
  refine x_aload_n (M := M_X6_rows) dX6_rows_0 rfl ?_
  refine x_getf (M := M_X6_rows) (ci := 9) (C := RX6) (T := TX6) (N := 5) (ty := tyX6) cl9 dX6_rows_1 ha 0 (by decide) t_50 e0 ?_
  refine x_iload_n (M := M_X6_rows) dX6_rows_4 rfl ?_
  refine x_iald (M := M_X6_rows) dX6_rows_5 o0 i0 ?_
  refine x_iconst (M := M_X6_rows) dX6_rows_6 ?_
  refine x_icmp_ne (M := M_X6_rows) (tgt := 19) dX6_rows_7 (by decide) (fun q0 => ?_) (fun q0 => ?_)
  · refine x_aload_n (M := M_X6_rows) dX6_rows_19 rfl ?_
    refine x_getf (M := M_X6_rows) (ci := 9) (C := RX6) (T := TX6) (N := 5) (ty := tyX6) cl9 dX6_rows_20 ha 0 (by decide) t_50 e0 ?_
    refine x_iload_n (M := M_X6_rows) dX6_rows_23 rfl ?_
    refine x_iald (M := M_X6_rows) dX6_rows_24 o0 (i1 q0) ?_
    refine x_iconst (M := M_X6_rows) dX6_rows_25 ?_
    refine x_icmp_ge (M := M_X6_rows) (tgt := 33) dX6_rows_26 (by decide) (fun q1 => ?_) (fun q1 => ?_)
    · refine x_iconst (M := M_X6_rows) dX6_rows_33 ?_
      exact x_iret (M := M_X6_rows) dX6_rows_34 rfl ⟨by rw [f_X6_rows, if_neg q0, if_pos q1], rfl⟩ (Nat.le_of_ble_eq_true rfl) (Nat.le_of_ble_eq_true rfl)
    · refine x_iconst (M := M_X6_rows) dX6_rows_29 ?_
      refine x_goto (M := M_X6_rows) (tgt := 34) dX6_rows_30 (by decide) ?_
      exact x_iret (M := M_X6_rows) dX6_rows_34 rfl ⟨by rw [f_X6_rows, if_neg q0, if_neg q1], rfl⟩ (Nat.le_of_ble_eq_true rfl) (Nat.le_of_ble_eq_true rfl)
  · refine x_aload_n (M := M_X6_rows) dX6_rows_10 rfl ?_
    refine x_getf (M := M_X6_rows) (ci := 9) (C := RX6) (T := TX6) (N := 5) (ty := tyX6) cl9 dX6_rows_11 ha 0 (by decide) t_50 e0 ?_
    refine x_iload_n (M := M_X6_rows) dX6_rows_14 rfl ?_
    refine x_iconst (M := M_X6_rows) dX6_rows_15 ?_
    refine x_iadd (M := M_X6_rows) dX6_rows_16 ?_
    refine x_iald (M := M_X6_rows) dX6_rows_17 o0 (i2 q0) ?_
    exact x_iret (M := M_X6_rows) dX6_rows_18 rfl ⟨by rw [f_X6_rows, if_pos q0], rfl⟩ (Nat.le_of_ble_eq_true rfl) (Nat.le_of_ble_eq_true rfl)
def f_X6_rowLength (g3 : Int32) (c0 : Nat → Int32) (w0 : Int32) (w1 : Int32) : Int32 := if (c0 w0.toNatClampNeg) = (Int32.ofInt 3) then if g3 ≤ ((w0 + (Int32.ofInt 2)) + w1) then (Int32.ofInt 0) else ((c0 ((w0 + (Int32.ofInt 2)) + w1).toNatClampNeg)) else (if g3 ≤ (w0 + (Int32.ofInt 1)) then (Int32.ofInt 0) else ((c0 (w0 + (Int32.ofInt 1)).toNatClampNeg)))
theorem p_X6_rowLength {l : Launch} {E : EE} (hl : l.stackTraces = false) {h : HP} {g3 : Int32} {c0 : Nat → Int32} {w0 : Int32} {w1 : Int32} {a : Nat} {fs : List Value} (ha : ob h a = some (.inr (9, fs))) (e3 : fs[3]? = some (.int g3)) {r0 n0 : Nat} (e0 : fs[0]? = some (.ref r0)) (o0 : ob h r0 = some (.inl (0, n0, .inl c0))) (i0 : vp_in w0 n0) (i1 : (¬ (c0 w0.toNatClampNeg) = (Int32.ofInt 3)) → (¬ g3 ≤ (w0 + (Int32.ofInt 1))) → vp_in (w0 + (Int32.ofInt 1)) n0) (i2 : ((c0 w0.toNatClampNeg) = (Int32.ofInt 3)) → (¬ g3 ≤ ((w0 + (Int32.ofInt 2)) + w1)) → vp_in ((w0 + (Int32.ofInt 2)) + w1) n0) : en_C l E M_X6_rowLength 0 0 0 [.ref a, .int w0, .int w1] h (pR (some (.int (f_X6_rowLength g3 c0 w0 w1))) h) := by
  refine en_mk m_X6_rowLength rfl hl (Nat.le_of_ble_eq_true rfl) ?_
  refine x_aload_n (M := M_X6_rowLength) dX6_rowLength_0 rfl ?_
  refine x_getf (M := M_X6_rowLength) (ci := 9) (C := RX6) (T := TX6) (N := 5) (ty := tyX6) cl9 dX6_rowLength_1 ha 0 (by decide) t_50 e0 ?_
  refine x_iload_n (M := M_X6_rowLength) dX6_rowLength_4 rfl ?_
  refine x_iald (M := M_X6_rowLength) dX6_rowLength_5 o0 i0 ?_
  refine x_iconst (M := M_X6_rowLength) dX6_rowLength_6 ?_
  refine x_icmp_ne (M := M_X6_rowLength) (tgt := 18) dX6_rowLength_7 (by decide) (fun q0 => ?_) (fun q0 => ?_)
  · refine x_iload_n (M := M_X6_rowLength) dX6_rowLength_18 rfl ?_
    refine x_iconst (M := M_X6_rowLength) dX6_rowLength_19 ?_
    refine x_iadd (M := M_X6_rowLength) dX6_rowLength_20 ?_
    refine x_istore_n (M := M_X6_rowLength) dX6_rowLength_21 (by decide) rfl ?_
    refine x_norm (lv' := [some (.ref a), some (.int w0), some (.int w1), some (.int (w0 + (Int32.ofInt 1)))]) rfl rfl rfl rfl rfl ?_
    refine x_iload_n (M := M_X6_rowLength) dX6_rowLength_22 rfl ?_
    refine x_aload_n (M := M_X6_rowLength) dX6_rowLength_23 rfl ?_
    refine x_getf (M := M_X6_rowLength) (ci := 9) (C := RX6) (T := TX6) (N := 5) (ty := tyX6) cl9 dX6_rowLength_24 ha 3 (by decide) t_72 e3 ?_
    refine x_icmp_ge (M := M_X6_rowLength) (tgt := 39) dX6_rowLength_27 (by decide) (fun q1 => ?_) (fun q1 => ?_)
    · refine x_iconst (M := M_X6_rowLength) dX6_rowLength_39 ?_
      exact x_iret (M := M_X6_rowLength) dX6_rowLength_40 rfl ⟨by rw [f_X6_rowLength, if_neg q0, if_pos q1], rfl⟩ (Nat.le_of_ble_eq_true rfl) (Nat.le_of_ble_eq_true rfl)
    · refine x_aload_n (M := M_X6_rowLength) dX6_rowLength_30 rfl ?_
      refine x_getf (M := M_X6_rowLength) (ci := 9) (C := RX6) (T := TX6) (N := 5) (ty := tyX6) cl9 dX6_rowLength_31 ha 0 (by decide) t_50 e0 ?_
      refine x_iload_n (M := M_X6_rowLength) dX6_rowLength_34 rfl ?_
      refine x_iald (M := M_X6_rowLength) dX6_rowLength_35 o0 (i1 q0 q1) ?_
      refine x_goto (M := M_X6_rowLength) (tgt := 40) dX6_rowLength_36 (by decide) ?_
      exact x_iret (M := M_X6_rowLength) dX6_rowLength_40 rfl ⟨by rw [f_X6_rowLength, if_neg q0, if_neg q1], rfl⟩ (Nat.le_of_ble_eq_true rfl) (Nat.le_of_ble_eq_true rfl)
  · refine x_iload_n (M := M_X6_rowLength) dX6_rowLength_10 rfl ?_
    refine x_iconst (M := M_X6_rowLength) dX6_rowLength_11 ?_
    refine x_iadd (M := M_X6_rowLength) dX6_rowLength_12 ?_
    refine x_iload_n (M := M_X6_rowLength) dX6_rowLength_13 rfl ?_
    refine x_iadd (M := M_X6_rowLength) dX6_rowLength_14 ?_
    refine x_goto (M := M_X6_rowLength) (tgt := 21) dX6_rowLength_15 (by decide) ?_
    refine x_istore_n (M := M_X6_rowLength) dX6_rowLength_21 (by decide) rfl ?_
    refine x_norm (lv' := [some (.ref a), some (.int w0), some (.int w1), some (.int ((w0 + (Int32.ofInt 2)) + w1))]) rfl rfl rfl rfl rfl ?_
    refine x_iload_n (M := M_X6_rowLength) dX6_rowLength_22 rfl ?_
    refine x_aload_n (M := M_X6_rowLength) dX6_rowLength_23 rfl ?_
    refine x_getf (M := M_X6_rowLength) (ci := 9) (C := RX6) (T := TX6) (N := 5) (ty := tyX6) cl9 dX6_rowLength_24 ha 3 (by decide) t_72 e3 ?_
    refine x_icmp_ge (M := M_X6_rowLength) (tgt := 39) dX6_rowLength_27 (by decide) (fun q1 => ?_) (fun q1 => ?_)
    · refine x_iconst (M := M_X6_rowLength) dX6_rowLength_39 ?_
      exact x_iret (M := M_X6_rowLength) dX6_rowLength_40 rfl ⟨by rw [f_X6_rowLength, if_pos q0, if_pos q1], rfl⟩ (Nat.le_of_ble_eq_true rfl) (Nat.le_of_ble_eq_true rfl)
    · refine x_aload_n (M := M_X6_rowLength) dX6_rowLength_30 rfl ?_
      refine x_getf (M := M_X6_rowLength) (ci := 9) (C := RX6) (T := TX6) (N := 5) (ty := tyX6) cl9 dX6_rowLength_31 ha 0 (by decide) t_50 e0 ?_
      refine x_iload_n (M := M_X6_rowLength) dX6_rowLength_34 rfl ?_
      refine x_iald (M := M_X6_rowLength) dX6_rowLength_35 o0 (i2 q0 q1) ?_
      refine x_goto (M := M_X6_rowLength) (tgt := 40) dX6_rowLength_36 (by decide) ?_
      exact x_iret (M := M_X6_rowLength) dX6_rowLength_40 rfl ⟨by rw [f_X6_rowLength, if_pos q0, if_neg q1], rfl⟩ (Nat.le_of_ble_eq_true rfl) (Nat.le_of_ble_eq_true rfl)
def f_X6_areLike (c1 : Nat → Int32) (c2 : Nat → Int32) (w0 : Int32) (w1 : Int32) : Int32 := if (c1 w0.toNatClampNeg) = (c1 w1.toNatClampNeg) then if (c2 w0.toNatClampNeg) = (c2 w1.toNatClampNeg) then (Int32.ofInt 1) else ((Int32.ofInt 0)) else ((Int32.ofInt 0))
theorem b_X6_areLike (c1 : Nat → Int32) (c2 : Nat → Int32) (w0 : Int32) (w1 : Int32) : f_X6_areLike c1 c2 w0 w1 = 0 ∨ f_X6_areLike c1 c2 w0 w1 = 1 := (ite01 (ite01 (Or.inr rfl) (Or.inl rfl)) (Or.inl rfl))
theorem p_X6_areLike {l : Launch} {E : EE} (hl : l.stackTraces = false) {h : HP} {c1 : Nat → Int32} {c2 : Nat → Int32} {w0 : Int32} {w1 : Int32} {a : Nat} {fs : List Value} (ha : ob h a = some (.inr (9, fs))) {r1 n1 : Nat} (e1 : fs[1]? = some (.ref r1)) (o1 : ob h r1 = some (.inl (0, n1, .inl c1))) {r2 n2 : Nat} (e2 : fs[2]? = some (.ref r2)) (o2 : ob h r2 = some (.inl (0, n2, .inl c2))) (i0 : vp_in w0 n1) (i1 : vp_in w1 n1) (i2 : ((c1 w0.toNatClampNeg) = (c1 w1.toNatClampNeg)) → vp_in w0 n2) (i3 : ((c1 w0.toNatClampNeg) = (c1 w1.toNatClampNeg)) → vp_in w1 n2) : en_C l E M_X6_areLike 0 0 0 [.ref a, .int w0, .int w1] h (pR (some (.int (f_X6_areLike c1 c2 w0 w1))) h) := by
  refine en_mk m_X6_areLike rfl hl (Nat.le_of_ble_eq_true rfl) ?_
  refine x_aload_n (M := M_X6_areLike) dX6_areLike_0 rfl ?_
  refine x_getf (M := M_X6_areLike) (ci := 9) (C := RX6) (T := TX6) (N := 5) (ty := tyX6) cl9 dX6_areLike_1 ha 1 (by decide) t_58 e1 ?_
  refine x_iload_n (M := M_X6_areLike) dX6_areLike_4 rfl ?_
  refine x_iald (M := M_X6_areLike) dX6_areLike_5 o1 i0 ?_
  refine x_aload_n (M := M_X6_areLike) dX6_areLike_6 rfl ?_
  refine x_getf (M := M_X6_areLike) (ci := 9) (C := RX6) (T := TX6) (N := 5) (ty := tyX6) cl9 dX6_areLike_7 ha 1 (by decide) t_58 e1 ?_
  refine x_iload_n (M := M_X6_areLike) dX6_areLike_10 rfl ?_
  refine x_iald (M := M_X6_areLike) dX6_areLike_11 o1 i1 ?_
  refine x_icmp_ne (M := M_X6_areLike) (tgt := 34) dX6_areLike_12 (by decide) (fun q0 => ?_) (fun q0 => ?_)
  · refine x_iconst (M := M_X6_areLike) dX6_areLike_34 ?_
    exact x_zret (M := M_X6_areLike) dX6_areLike_35 rfl (Or.inl rfl) ⟨by rw [f_X6_areLike, if_neg q0], rfl⟩ (Nat.le_of_ble_eq_true rfl) (Nat.le_of_ble_eq_true rfl)
  · refine x_aload_n (M := M_X6_areLike) dX6_areLike_15 rfl ?_
    refine x_getf (M := M_X6_areLike) (ci := 9) (C := RX6) (T := TX6) (N := 5) (ty := tyX6) cl9 dX6_areLike_16 ha 2 (by decide) t_65 e2 ?_
    refine x_iload_n (M := M_X6_areLike) dX6_areLike_19 rfl ?_
    refine x_iald (M := M_X6_areLike) dX6_areLike_20 o2 (i2 q0) ?_
    refine x_aload_n (M := M_X6_areLike) dX6_areLike_21 rfl ?_
    refine x_getf (M := M_X6_areLike) (ci := 9) (C := RX6) (T := TX6) (N := 5) (ty := tyX6) cl9 dX6_areLike_22 ha 2 (by decide) t_65 e2 ?_
    refine x_iload_n (M := M_X6_areLike) dX6_areLike_25 rfl ?_
    refine x_iald (M := M_X6_areLike) dX6_areLike_26 o2 (i3 q0) ?_
    refine x_icmp_ne (M := M_X6_areLike) (tgt := 34) dX6_areLike_27 (by decide) (fun q1 => ?_) (fun q1 => ?_)
    · refine x_iconst (M := M_X6_areLike) dX6_areLike_34 ?_
      exact x_zret (M := M_X6_areLike) dX6_areLike_35 rfl (Or.inl rfl) ⟨by rw [f_X6_areLike, if_pos q0, if_neg q1], rfl⟩ (Nat.le_of_ble_eq_true rfl) (Nat.le_of_ble_eq_true rfl)
    · refine x_iconst (M := M_X6_areLike) dX6_areLike_30 ?_
      refine x_goto (M := M_X6_areLike) (tgt := 35) dX6_areLike_31 (by decide) ?_
      exact x_zret (M := M_X6_areLike) dX6_areLike_35 rfl (Or.inr rfl) ⟨by rw [f_X6_areLike, if_pos q0, if_pos q1], rfl⟩ (Nat.le_of_ble_eq_true rfl) (Nat.le_of_ble_eq_true rfl)
def f_X6_isAt (c1 : Nat → Int32) (c2 : Nat → Int32) (w0 : Int32) (w1 : Int32) (w2 : Int32) : Int32 := if (c1 w0.toNatClampNeg) = w1 then if (c2 w0.toNatClampNeg) = w2 then (Int32.ofInt 1) else ((Int32.ofInt 0)) else ((Int32.ofInt 0))
theorem b_X6_isAt (c1 : Nat → Int32) (c2 : Nat → Int32) (w0 : Int32) (w1 : Int32) (w2 : Int32) : f_X6_isAt c1 c2 w0 w1 w2 = 0 ∨ f_X6_isAt c1 c2 w0 w1 w2 = 1 := (ite01 (ite01 (Or.inr rfl) (Or.inl rfl)) (Or.inl rfl))
theorem p_X6_isAt {l : Launch} {E : EE} (hl : l.stackTraces = false) {h : HP} {c1 : Nat → Int32} {c2 : Nat → Int32} {w0 : Int32} {w1 : Int32} {w2 : Int32} {a : Nat} {fs : List Value} (ha : ob h a = some (.inr (9, fs))) {r1 n1 : Nat} (e1 : fs[1]? = some (.ref r1)) (o1 : ob h r1 = some (.inl (0, n1, .inl c1))) {r2 n2 : Nat} (e2 : fs[2]? = some (.ref r2)) (o2 : ob h r2 = some (.inl (0, n2, .inl c2))) (i0 : vp_in w0 n1) (i1 : ((c1 w0.toNatClampNeg) = w1) → vp_in w0 n2) : en_C l E M_X6_isAt 0 0 0 [.ref a, .int w0, .int w1, .int w2] h (pR (some (.int (f_X6_isAt c1 c2 w0 w1 w2))) h) := by
  refine en_mk m_X6_isAt rfl hl (Nat.le_of_ble_eq_true rfl) ?_
  refine x_aload_n (M := M_X6_isAt) dX6_isAt_0 rfl ?_
  refine x_getf (M := M_X6_isAt) (ci := 9) (C := RX6) (T := TX6) (N := 5) (ty := tyX6) cl9 dX6_isAt_1 ha 1 (by decide) t_58 e1 ?_
  refine x_iload_n (M := M_X6_isAt) dX6_isAt_4 rfl ?_
  refine x_iald (M := M_X6_isAt) dX6_isAt_5 o1 i0 ?_
  refine x_iload_n (M := M_X6_isAt) dX6_isAt_6 rfl ?_
  refine x_icmp_ne (M := M_X6_isAt) (tgt := 24) dX6_isAt_7 (by decide) (fun q0 => ?_) (fun q0 => ?_)
  · refine x_iconst (M := M_X6_isAt) dX6_isAt_24 ?_
    exact x_zret (M := M_X6_isAt) dX6_isAt_25 rfl (Or.inl rfl) ⟨by rw [f_X6_isAt, if_neg q0], rfl⟩ (Nat.le_of_ble_eq_true rfl) (Nat.le_of_ble_eq_true rfl)
  · refine x_aload_n (M := M_X6_isAt) dX6_isAt_10 rfl ?_
    refine x_getf (M := M_X6_isAt) (ci := 9) (C := RX6) (T := TX6) (N := 5) (ty := tyX6) cl9 dX6_isAt_11 ha 2 (by decide) t_65 e2 ?_
    refine x_iload_n (M := M_X6_isAt) dX6_isAt_14 rfl ?_
    refine x_iald (M := M_X6_isAt) dX6_isAt_15 o2 (i1 q0) ?_
    refine x_iload_n (M := M_X6_isAt) dX6_isAt_16 rfl ?_
    refine x_icmp_ne (M := M_X6_isAt) (tgt := 24) dX6_isAt_17 (by decide) (fun q1 => ?_) (fun q1 => ?_)
    · refine x_iconst (M := M_X6_isAt) dX6_isAt_24 ?_
      exact x_zret (M := M_X6_isAt) dX6_isAt_25 rfl (Or.inl rfl) ⟨by rw [f_X6_isAt, if_pos q0, if_neg q1], rfl⟩ (Nat.le_of_ble_eq_true rfl) (Nat.le_of_ble_eq_true rfl)
    · refine x_iconst (M := M_X6_isAt) dX6_isAt_20 ?_
      refine x_goto (M := M_X6_isAt) (tgt := 25) dX6_isAt_21 (by decide) ?_
      exact x_zret (M := M_X6_isAt) dX6_isAt_25 rfl (Or.inr rfl) ⟨by rw [f_X6_isAt, if_pos q0, if_pos q1], rfl⟩ (Nat.le_of_ble_eq_true rfl) (Nat.le_of_ble_eq_true rfl)
end PUR
