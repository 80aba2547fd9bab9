section SLT
theorem dX11_slotNumbered_0 : decode cX11_slotNumbered 0 = .ok (.iload_n 1, 1) := by decide +kernel
theorem dX11_slotNumbered_1 : decode cX11_slotNumbered 1 = .ok (.ifCond .lt 9, 3) := by decide +kernel
theorem dX11_slotNumbered_4 : decode cX11_slotNumbered 4 = .ok (.iload_n 1, 1) := by decide +kernel
theorem dX11_slotNumbered_5 : decode cX11_slotNumbered 5 = .ok (.bipush 32, 2) := by decide +kernel
theorem dX11_slotNumbered_7 : decode cX11_slotNumbered 7 = .ok (.if_icmp .lt 11, 3) := by decide +kernel
theorem dX11_slotNumbered_10 : decode cX11_slotNumbered 10 = .ok (.new 137, 3) := by decide +kernel
theorem dX11_slotNumbered_13 : decode cX11_slotNumbered 13 = .ok (.dup, 1) := by decide +kernel
theorem dX11_slotNumbered_14 : decode cX11_slotNumbered 14 = .ok (.invokespecial 139, 3) := by decide +kernel
theorem dX11_slotNumbered_17 : decode cX11_slotNumbered 17 = .ok (.athrow, 1) := by decide +kernel
theorem dX11_slotNumbered_18 : decode cX11_slotNumbered 18 = .ok (.aload_n 0, 1) := by decide +kernel
theorem dX11_slotNumbered_19 : decode cX11_slotNumbered 19 = .ok (.getfield 11, 3) := by decide +kernel
theorem dX11_slotNumbered_22 : decode cX11_slotNumbered 22 = .ok (.iload_n 1, 1) := by decide +kernel
theorem dX11_slotNumbered_23 : decode cX11_slotNumbered 23 = .ok (.aaload, 1) := by decide +kernel
theorem dX11_slotNumbered_24 : decode cX11_slotNumbered 24 = .ok (.areturn, 1) := by decide +kernel
theorem dX11_mustBeThere_0 : decode cX11_mustBeThere 0 = .ok (.aload_n 0, 1) := by decide +kernel
theorem dX11_mustBeThere_1 : decode cX11_mustBeThere 1 = .ok (.invokevirtual 184, 3) := by decide +kernel
theorem dX11_mustBeThere_4 : decode cX11_mustBeThere 4 = .ok (.ifCond .ne 11, 3) := by decide +kernel
theorem dX11_mustBeThere_7 : decode cX11_mustBeThere 7 = .ok (.new 110, 3) := by decide +kernel
theorem dX11_mustBeThere_10 : decode cX11_mustBeThere 10 = .ok (.dup, 1) := by decide +kernel
theorem dX11_mustBeThere_11 : decode cX11_mustBeThere 11 = .ok (.invokespecial 112, 3) := by decide +kernel
theorem dX11_mustBeThere_14 : decode cX11_mustBeThere 14 = .ok (.athrow, 1) := by decide +kernel
theorem dX11_mustBeThere_15 : decode cX11_mustBeThere 15 = .ok (.return_, 1) := by decide +kernel
abbrev M_X11_slotNumbered : MRec := (yX11_slotNumbered, cX11_slotNumbered, 2, (some (Jvm.ClassFile.FieldType.object "ShapeWorkshop$Shape")), [])
theorem m_X11_slotNumbered : en_M M_X11_slotNumbered 1 := ⟨t_747, t_1, ⟨by decide +kernel, by decide +kernel⟩, by decide +kernel, by decide +kernel, by decide +kernel⟩
abbrev M_X11_mustBeThere : MRec := (yX11_mustBeThere, cX11_mustBeThere, 1, none, [])
theorem m_X11_mustBeThere : en_M M_X11_mustBeThere 1 := ⟨t_1049, t_1, ⟨by decide +kernel, by decide +kernel⟩, by decide +kernel, by decide +kernel, by decide +kernel⟩
theorem p_X11_slotNumbered_x {l : Launch} {E : EE} (hl : l.stackTraces = false) {h : HP} {a : Nat} {w : Int32} (q : w < 0 ∨ ¬ w < (Int8.ofInt 32).toInt32) : en_C l E M_X11_slotNumbered 7 1 6 [.ref a, .int w] h (pX "java/lang/IndexOutOfBoundsException" h) := by
  refine en_mk m_X11_slotNumbered rfl hl (Nat.le_of_ble_eq_true rfl) ?_
  have hx : ∀ lv, XX l E M_X11_slotNumbered 7 1 6 (pX "java/lang/IndexOutOfBoundsException" h) 10 lv [] h 0 0 := fun lv => x_throw (M := M_X11_slotNumbered) (names := en_nm) rfl dX11_slotNumbered_10 dX11_slotNumbered_13 dX11_slotNumbered_14 dX11_slotNumbered_17 (by decide +kernel) en_nm_ok (Or.inl t_748) (Or.inl t_22) at_X11_IndexOutOfBoundsException_139 (Nat.le_of_ble_eq_true rfl) (Nat.le_of_ble_eq_true rfl) (Nat.le_of_ble_eq_true rfl) (Nat.le_of_ble_eq_true rfl) (fun k => ⟨rfl, k, rfl⟩)
  refine x_iload_n (M := M_X11_slotNumbered) dX11_slotNumbered_0 rfl ?_
  refine x_if_lt (M := M_X11_slotNumbered) (tgt := 10) dX11_slotNumbered_1 (by decide) (fun _ => hx _) (fun q0 => ?_)
  refine x_iload_n (M := M_X11_slotNumbered) dX11_slotNumbered_4 rfl ?_
  refine x_bipush (M := M_X11_slotNumbered) dX11_slotNumbered_5 ?_
  exact x_icmp_lt (M := M_X11_slotNumbered) (tgt := 18) dX11_slotNumbered_7 (by decide) (fun q1 => absurd q1 (q.resolve_left q0)) (fun _ => hx _)
theorem p_X11_slotNumbered_r {l : Launch} {E : EE} (hl : l.stackTraces = false) {h : HP} {a r n b : Nat} {w : Int32} {fs : List Value} {f : Nat → Option Nat} (ha : ob h a = some (.inr (14, fs))) (e : fs[0]? = some (.ref r)) (o : ob h r = some (.inl (4, n, .inr (.inr (.inr (.inr f)))))) (q0 : ¬ w < 0) (q1 : w < (Int8.ofInt 32).toInt32) (hi : vp_in w n) (hv : f w.toNatClampNeg = some b) : en_C l E M_X11_slotNumbered 0 0 0 [.ref a, .int w] h (pR (some (.ref b)) h) := by
  refine en_mk m_X11_slotNumbered rfl hl (Nat.le_of_ble_eq_true rfl) ?_
  refine x_iload_n (M := M_X11_slotNumbered) dX11_slotNumbered_0 rfl ?_
  refine x_if_lt (M := M_X11_slotNumbered) (tgt := 10) dX11_slotNumbered_1 (by decide) (fun q => absurd q q0) (fun _ => ?_)
  refine x_iload_n (M := M_X11_slotNumbered) dX11_slotNumbered_4 rfl ?_
  refine x_bipush (M := M_X11_slotNumbered) dX11_slotNumbered_5 ?_
  refine x_icmp_lt (M := M_X11_slotNumbered) (tgt := 18) dX11_slotNumbered_7 (by decide) (fun _ => ?_) (fun q => absurd q1 q)
  refine x_aload_n (M := M_X11_slotNumbered) dX11_slotNumbered_18 rfl ?_
  refine x_getf (ci := 14) (C := RX11) (T := TX11) (N := 19) (ty := tyX11) cl14 (M := M_X11_slotNumbered) dX11_slotNumbered_19 ha 0 (by decide) t_563 e ?_
  refine x_iload_n (M := M_X11_slotNumbered) dX11_slotNumbered_22 rfl ?_
  refine x_aald (M := M_X11_slotNumbered) dX11_slotNumbered_23 o hi hv ?_
  exact x_aret (M := M_X11_slotNumbered) dX11_slotNumbered_24 rfl ⟨rfl, rfl⟩ (Nat.le_of_ble_eq_true rfl) (Nat.le_of_ble_eq_true rfl)
theorem p_X11_mustBeThere_r {l : Launch} {E : EE} (hl : l.stackTraces = false) {h : HP} {a : Nat} {fs : List Value} {g : Int32} (ha : ob h a = some (.inr (9, fs))) (e : fs[3]? = some (.int g)) (q : ¬ f_X6_isThere g = 0) : en_C l E M_X11_mustBeThere 1 0 0 [.ref a] h (pR none h) := by
  refine en_mk m_X11_mustBeThere rfl hl (Nat.le_of_ble_eq_true rfl) ?_
  refine x_aload_n (M := M_X11_mustBeThere) dX11_mustBeThere_0 rfl ?_
  refine x_callVR (M := M_X11_mustBeThere) (M' := M_X6_isThere) rfl rfl dX11_mustBeThere_1 m_X6_isThere t_1050 t_1051 t_1052 (p_X6_isThere hl ha e) rfl rfl ha rfl (Nat.le_of_ble_eq_true rfl) (Nat.le_of_ble_eq_true rfl) (Nat.le_of_ble_eq_true rfl) (Nat.le_of_ble_eq_true rfl) ?_
  refine x_if_ne (M := M_X11_mustBeThere) (tgt := 15) dX11_mustBeThere_4 (by decide) (fun _ => ?_) (fun q9 => absurd q9 q)
  exact x_vret (M := M_X11_mustBeThere) dX11_mustBeThere_15 rfl ⟨rfl, rfl⟩ (Nat.le_of_ble_eq_true rfl) (Nat.le_of_ble_eq_true rfl)
theorem p_X11_mustBeThere_x {l : Launch} {E : EE} (hl : l.stackTraces = false) {h : HP} {a : Nat} {fs : List Value} {g : Int32} (ha : ob h a = some (.inr (9, fs))) (e : fs[3]? = some (.int g)) (q : f_X6_isThere g = 0) : en_C l E M_X11_mustBeThere 7 1 6 [.ref a] h (pX "java/lang/IllegalStateException" h) := by
  refine en_mk m_X11_mustBeThere rfl hl (Nat.le_of_ble_eq_true rfl) ?_
  refine x_aload_n (M := M_X11_mustBeThere) dX11_mustBeThere_0 rfl ?_
  refine x_callVR (M := M_X11_mustBeThere) (M' := M_X6_isThere) rfl rfl dX11_mustBeThere_1 m_X6_isThere t_1050 t_1051 t_1052 (p_X6_isThere hl ha e) rfl rfl ha rfl (Nat.le_of_ble_eq_true rfl) (Nat.le_of_ble_eq_true rfl) (Nat.le_of_ble_eq_true rfl) (Nat.le_of_ble_eq_true rfl) ?_
  refine x_if_ne (M := M_X11_mustBeThere) (tgt := 15) dX11_mustBeThere_4 (by decide) (fun q9 => absurd q q9) (fun _ => ?_)
  exact x_throw (M := M_X11_mustBeThere) (names := en_nm) rfl dX11_mustBeThere_7 dX11_mustBeThere_10 dX11_mustBeThere_11 dX11_mustBeThere_14 (by decide +kernel) en_nm_ok (Or.inl t_643) (Or.inl t_18) at_X11_IllegalStateException_112 (Nat.le_of_ble_eq_true rfl) (Nat.le_of_ble_eq_true rfl) (Nat.le_of_ble_eq_true rfl) (Nat.le_of_ble_eq_true rfl) (fun k => ⟨rfl, k, rfl⟩)
end SLT
