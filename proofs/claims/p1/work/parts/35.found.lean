section FND
theorem dX11_found_0 : decode cX11_found 0 = .ok (.iload_n 1, 1) := by decide +kernel
theorem dX11_found_1 : decode cX11_found 1 = .ok (.ifCond .lt 11, 3) := by decide +kernel
theorem dX11_found_4 : decode cX11_found 4 = .ok (.iload_n 1, 1) := by decide +kernel
theorem dX11_found_5 : decode cX11_found 5 = .ok (.aload_n 0, 1) := by decide +kernel
theorem dX11_found_6 : decode cX11_found 6 = .ok (.getfield 213, 3) := by decide +kernel
theorem dX11_found_9 : decode cX11_found 9 = .ok (.if_icmp .lt 11, 3) := by decide +kernel
theorem dX11_found_12 : decode cX11_found 12 = .ok (.new 137, 3) := by decide +kernel
theorem dX11_found_15 : decode cX11_found 15 = .ok (.dup, 1) := by decide +kernel
theorem dX11_found_16 : decode cX11_found 16 = .ok (.invokespecial 139, 3) := by decide +kernel
theorem dX11_found_19 : decode cX11_found 19 = .ok (.athrow, 1) := by decide +kernel
theorem dX11_found_20 : decode cX11_found 20 = .ok (.aload_n 0, 1) := by decide +kernel
theorem dX11_found_21 : decode cX11_found 21 = .ok (.getfield 98, 3) := by decide +kernel
theorem dX11_found_24 : decode cX11_found 24 = .ok (.iload_n 1, 1) := by decide +kernel
theorem dX11_found_25 : decode cX11_found 25 = .ok (.iaload, 1) := by decide +kernel
theorem dX11_found_26 : decode cX11_found 26 = .ok (.ireturn, 1) := by decide +kernel
theorem dL_found_0 : decode cL_found 0 = .ok (.aload_n 2, 1) := by decide +kernel
theorem dL_found_1 : decode cL_found 1 = .ok (.iconst 0, 1) := by decide +kernel
theorem dL_found_2 : decode cL_found 2 = .ok (.aload_n 0, 1) := by decide +kernel
theorem dL_found_3 : decode cL_found 3 = .ok (.iload_n 1, 1) := by decide +kernel
theorem dL_found_4 : decode cL_found 4 = .ok (.invokevirtual 98, 3) := by decide +kernel
theorem dL_found_7 : decode cL_found 7 = .ok (.i2l, 1) := by decide +kernel
theorem dL_found_8 : decode cL_found 8 = .ok (.lastore, 1) := by decide +kernel
theorem dL_found_9 : decode cL_found 9 = .ok (.goto 6, 3) := by decide +kernel
theorem dL_found_12 : decode cL_found 12 = .ok (.astore_n 3, 1) := by decide +kernel
theorem dL_found_13 : decode cL_found 13 = .ok (.iconst 1, 1) := by decide +kernel
theorem dL_found_14 : decode cL_found 14 = .ok (.ireturn, 1) := by decide +kernel
theorem dL_found_15 : decode cL_found 15 = .ok (.iconst 0, 1) := by decide +kernel
theorem dL_found_16 : decode cL_found 16 = .ok (.ireturn, 1) := by decide +kernel
abbrev M_X11_found : MRec := (yX11_found, cX11_found, 2, (some Jvm.ClassFile.FieldType.int), [])
theorem m_X11_found : en_M M_X11_found 1 := ⟨t_2276, t_1, ⟨by decide +kernel, by decide +kernel⟩, by decide +kernel, by decide +kernel, by decide +kernel⟩
abbrev M_L_found : MRec := (yL_found, cL_found, 4, (some Jvm.ClassFile.FieldType.int), [((0 : Nat), (9 : Nat), (12 : Nat), (24 : Nat))])
theorem m_L_found : en_M M_L_found 3 := ⟨t_2272, t_0, ⟨by decide +kernel, by decide +kernel⟩, by decide +kernel, by decide +kernel, by decide +kernel⟩
/-- a table of one row -/
theorem en_hd1 {M : MRec} {pc : Nat} {N : String} {k0 : Fin 4} {a b hp ct : Nat} (h0 : M.2.2.2.2 = [(a, b, hp, ct)]) (hc : covers { startPc := a, endPc := b, handlerPc := hp, catchType := ct } pc = true) (h1 : ct ≠ 0) (h2 : Cond.classLink M.1.cls ct N ∈ WS) (h3 : Cond.castable N N ∈ NW) (h4 : decode M.2.1 hp = .ok (.astore_n k0, 1)) : en_hd M pc N (k0 : Nat) (hp + 1) :=
  ⟨[], { startPc := a, endPc := b, handlerPc := hp, catchType := ct }, [], by rw [h0]; rfl, fun z hz => (List.not_mem_nil hz).elim, hc, h1, h2, h3, Or.inr ⟨k0, rfl, h4, rfl⟩⟩
theorem p_X11_found_x {l : Launch} {E : EE} (hl : l.stackTraces = false) {h : HP} {a : Nat} {w g : Int32} {fs : List Value} (ha : ob h a = some (.inr (14, fs))) (e : fs[18]? = some (.int g)) (q : w < 0 ∨ ¬ w < g) : en_C l E M_X11_found 7 1 6 [.ref a, .int w] h (pX "java/lang/IndexOutOfBoundsException" h) := by
  refine en_mk m_X11_found rfl hl (Nat.le_of_ble_eq_true rfl) ?_
  have hx : ∀ lv, XX l E M_X11_found 7 1 6 (pX "java/lang/IndexOutOfBoundsException" h) 12 lv [] h 0 0 := fun lv => x_throw (M := M_X11_found) (names := en_nm) rfl dX11_found_12 dX11_found_15 dX11_found_16 dX11_found_19 (by decide +kernel) en_nm_ok (Or.inl t_748) (Or.inl t_22) at_X11_IndexOutOfBoundsException_139 (Nat.le_of_ble_eq_true rfl) (Nat.le_of_ble_eq_true rfl) (Nat.le_of_ble_eq_true rfl) (Nat.le_of_ble_eq_true rfl) (fun k => ⟨rfl, k, rfl⟩)
  refine x_iload_n (M := M_X11_found) dX11_found_0 rfl ?_
  refine x_if_lt (M := M_X11_found) (tgt := 12) dX11_found_1 (by decide) (fun _ => hx _) (fun q0 => ?_)
  refine x_iload_n (M := M_X11_found) dX11_found_4 rfl ?_
  refine x_aload_n (M := M_X11_found) dX11_found_5 rfl ?_
  refine x_getf (ci := 14) (C := RX11) (T := TX11) (N := 19) (ty := tyX11) cl14 (M := M_X11_found) dX11_found_6 ha 18 (by decide) t_581 e ?_
  exact x_icmp_lt (M := M_X11_found) (tgt := 20) dX11_found_9 (by decide) (fun q1 => absurd q1 (q.resolve_left q0)) (fun _ => hx _)
theorem p_L_found_x {l : Launch} {E : EE} (hl : l.stackTraces = false) {h : HP} {a r : Nat} {w g : Int32} {fs : List Value} (ha : ob h a = some (.inr (14, fs))) (e : fs[18]? = some (.int g)) (q : w < 0 ∨ ¬ w < g) : en_C l E M_L_found 8 1 6 [.ref a, .int w, .ref r] h (fun o h' => o = .inl (some (.int 1)) ∧ ∃ k : Nat, h' = h ++ List.replicate k none) := by
  refine en_mkW m_L_found rfl hl (Nat.le_of_ble_eq_true rfl) ?_
  refine x_aload_n (M := M_L_found) dL_found_0 rfl ?_
  refine x_iconst (M := M_L_found) dL_found_1 ?_
  refine x_aload_n (M := M_L_found) dL_found_2 rfl ?_
  refine x_iload_n (M := M_L_found) dL_found_3 rfl ?_
  refine x_callVH (M := M_L_found) (M' := M_X11_found) rfl dL_found_4 m_X11_found t_2273 t_2274 t_2275 ha rfl [.int w] rfl rfl (Nat.le_of_ble_eq_true rfl) (p_X11_found_x hl ha e q) (Nat.le_of_ble_eq_true rfl) (Nat.le_of_ble_eq_true rfl) (Nat.le_of_ble_eq_true rfl) (fun N h' hp => ?_) (fun v h' hp => nomatch hp.1)
  obtain ⟨e1, k9, rfl⟩ := hp
  cases e1
  refine ⟨3, 13, en_hd1 (k0 := 3) rfl (by decide +kernel) (by decide) t_739 n_750 dL_found_12, by decide, rfl, ?_⟩
  refine x_iconst (M := M_L_found) dL_found_13 ?_
  exact x_iret (M := M_L_found) dL_found_14 rfl ⟨rfl, k9, rfl⟩ (Nat.le_of_ble_eq_true rfl) (Nat.le_of_ble_eq_true rfl)
end FND
