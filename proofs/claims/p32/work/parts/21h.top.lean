set_option maxRecDepth 100000 in
set_option maxHeartbeats 8000000 in
theorem c_X11_init {l : Launch} {E : EE} (hl : l.stackTraces = false) {h : HP} {a : Nat} {dg : Int32} (ha : ob h a = some (.inr (14, [.null, .null, .null, .int 0, .int 0, .int 0, .null, .null, .null, .null, .null, .null, .null, .null, .null, .null, .null, .null, .int 0]))) : en_C l E M_X11_init 4 244 651984 [.ref a, .int dg] h (pR none (topH h a dg)) := by
  have loop : ∀ (m i : Nat), i + m = 32 → XX l E M_X11_init 4 244 651984 (pR none (topH h a dg)) 19 [some (.ref a), some (.int dg), some (.int (dg &&& Int32.ofInt 3)), some (.int (nI i))] [] (stt h a (.inr (14, [.ref (32 + (h.length + 0)), .null, .null, .int 0, .int 0, .int 0, .null, .null, .null, .null, .null, .null, .null, .null, .null, .null, .null, .null, .int 0])) ++ sh0 h.length i) (1 + 4 * i) (32 + 6149 * i) := by
    intro m
    induction m with
    | zero =>
      intro i hi
      have hi2 : i = 32 := by omega
      subst hi2
      refine x_iload_n (M := M_X11_init) dX11_init_19 rfl ?_
      refine x_bipush (M := M_X11_init) dX11_init_20 ?_
      refine x_icmp_ge (M := M_X11_init) (tgt := 44) dX11_init_22 (by decide) (fun _ => ?_) (fun q => absurd (by decide +kernel) q)
      exact c_X11_rest hl ha
    | succ m ih =>
      intro i hi
      have hlt : i < 32 := by omega
      refine x_iload_n (M := M_X11_init) dX11_init_19 rfl ?_
      refine x_bipush (M := M_X11_init) dX11_init_20 ?_
      refine x_icmp_ge (M := M_X11_init) (tgt := 44) dX11_init_22 (by decide) (fun q => absurd q (nI_ge (b := 32) hlt (by omega))) (fun _ => ?_)
      refine x_aload_n (M := M_X11_init) dX11_init_25 rfl ?_
      refine x_getf (M := M_X11_init) (ci := 14) (C := RX11) (T := TX11) (N := 19) (ty := tyX11) cl14 dX11_init_26 (ob_app _ (ob_self ha)) 0 (by decide) t_563 rfl ?_
      refine x_iload_n (M := M_X11_init) dX11_init_29 rfl ?_
      refine x_newD (M := M_X11_init) (ci := 9) (C := RX6) (T := TX6) (N := 5) (ty := tyX6) cl9 dX11_init_30 t_43 (by omega) (by omega) ?_
      refine x_dup (M := M_X11_init) dX11_init_33 rfl ?_
      refine x_callINR (M := M_X11_init) (M' := M_X6_init) rfl rfl dX11_init_34 m_X6_init n_46 rfl rfl t_47 (c_X6_init hl ob_new) rfl rfl (Nat.le_of_ble_eq_true rfl) (by omega) (by omega) (by omega) ?_
      refine x_heap (h' := stt h a (.inr (14, [.ref (32 + (h.length + 0)), .null, .null, .int 0, .int 0, .int 0, .null, .null, .null, .null, .null, .null, .null, .null, .null, .null, .null, .null, .int 0])) ++ (sh0 h.length i ++ [some (.inr (9, [.ref (32 + (h.length + (2 + 4 * i))), .ref (32 + (h.length + (3 + 4 * i))), .ref (32 + (h.length + (4 + 4 * i))), .int 0, .int 0])), some (.inl (0, 2048, .inl (fun _ => 0))), some (.inl (0, 2048, .inl (fun _ => 0))), some (.inl (0, 2048, .inl (fun _ => 0)))])) ?_ ?_
      · rw [stt_last]
        simp only [List.length_append, stt_len, sh0_len, List.append_assoc, List.length_cons, List.length_nil]
        rw [show h.length + (1 + 4 * i + (0 + 1)) + 0 = h.length + (2 + 4 * i) by omega, show h.length + (1 + 4 * i + (0 + 1)) + 1 = h.length + (3 + 4 * i) by omega, show h.length + (1 + 4 * i + (0 + 1)) + 2 = h.length + (4 + 4 * i) by omega]
        rfl
      refine x_aast (M := M_X11_init) (v := 32 + (stt h a (.inr (14, [.ref (32 + (h.length + 0)), .null, .null, .int 0, .int 0, .int 0, .null, .null, .null, .null, .null, .null, .null, .null, .null, .null, .null, .null, .int 0])) ++ sh0 h.length i).length) (T := TX6) (N := 5) (ty := tyX6) cl9 dX11_init_37 (ob_mid2 (k := 0) rfl rfl) (ob_mid3 (p := 1 + 4 * i) (j := 0) (sh0_len h.length i) (by rw [len_mid, sh0_len, Nat.add_zero]) rfl) (vp_in_nI hlt (by omega)) ?_
      refine x_iinc (M := M_X11_init) dX11_init_38 rfl (by decide) rfl ?_
      refine x_goto (M := M_X11_init) (tgt := 19) dX11_init_41 (by decide) ?_
      refine x_norm (lv' := [some (.ref a), some (.int dg), some (.int (dg &&& Int32.ofInt 3)), some (.int (nI (i + 1)))]) (congrArg (fun z : Int32 => [some (Value.ref a), some (Value.int dg), some (Value.int (dg &&& Int32.ofInt 3)), some (Value.int z)]) (nI_1 i)) rfl ?_ (by omega) (by omega) (ih (i + 1) (by omega))
      rw [stt_mid2 (k := 0) rfl, nI_clamp (by omega), len_mid, sh0_len]
      have e9 : va_up (shf h.length i) i (some (32 + (h.length + (1 + 4 * i)))) = shf h.length (i + 1) := by
        funext j
        unfold va_up shf
        by_cases q : j = i
        · subst q; simp
        · by_cases q2 : j < i
          · simp [q, q2, Nat.lt_succ_of_lt q2]
          · simp [q, q2, show ¬ j < i + 1 by omega]
      rw [e9]
      rfl
  refine en_mk m_X11_init rfl hl (Nat.le_of_ble_eq_true rfl) ?_
  refine x_aload_n (M := M_X11_init) dX11_init_0 rfl ?_
  refine x_objInit (M := M_X11_init) dX11_init_1 t_40 t_41 t_42 (Nat.le_of_ble_eq_true rfl) (Nat.le_of_ble_eq_true rfl) ?_
  refine x_iload_n (M := M_X11_init) dX11_init_4 rfl ?_
  refine x_iconst (M := M_X11_init) dX11_init_5 ?_
  refine x_iand (M := M_X11_init) dX11_init_6 ?_
  refine x_istore_n (M := M_X11_init) dX11_init_7 (by decide) rfl ?_
  refine x_aload_n (M := M_X11_init) dX11_init_8 rfl ?_
  refine x_bipush (M := M_X11_init) dX11_init_9 ?_
  refine x_newQ (M := M_X11_init) (n := 32) dX11_init_11 t_43 (by decide +kernel) (by decide +kernel) (by decide +kernel) (by decide +kernel) (by decide +kernel) ?_
  refine x_put (M := M_X11_init) (ci := 14) (C := RX11) (T := TX11) (N := 19) (ty := tyX11) cl14 dX11_init_14 (ob_app _ ha) 0 (by decide) t_563 (Or.inr ⟨rfl, rfl⟩) (Nat.le_of_ble_eq_true rfl) rfl ?_
  refine x_iconst (M := M_X11_init) dX11_init_17 ?_
  refine x_istore_n (M := M_X11_init) dX11_init_18 (by decide) rfl ?_
  refine x_norm (lv' := [some (.ref a), some (.int dg), some (.int (dg &&& Int32.ofInt 3)), some (.int (nI 0))]) rfl rfl ?_ rfl rfl (loop 32 0 (by omega))
  rw [stt_app ha]
  rfl
