set_option maxRecDepth 100000 in
set_option maxHeartbeats 1000000 in
theorem c_X12_tail {l : Launch} {E : EE} (hl : l.stackTraces = false) {h : HP} {a : Nat} {dg : Int32} (ha : ob h a = some (.inr (15, mD))) : XX l E M_X12_init 1 81 1811608 (pR none (modH h a dg)) 712 [some (.ref a), some (.int dg), some (.int (nI 0))] [] (stt h a (.inr (15, (((mL h.length).set 1 (.int (dg &&& Int32.ofInt 3))).set 2 (.long (mU 0))))) ++ mR) 81 1811608 := by
  have hpl : ∀ (m i : Nat), i + m = 7 → ∀ u, u = mU (dg &&& Int32.ofInt 3).toNatClampNeg → XX l E M_X12_init 1 81 1811608 (pR none (modH h a dg)) 740 [some (.ref a), some (.int dg), some (.int (nI i))] [] (stt h a (.inr (15, (((mL h.length).set 1 (.int (dg &&& Int32.ofInt 3))).set 2 (.long u)))) ++ (mR.set 7 (some (.inl (0, 7, .inl (fun j => if j < i then (Int32.ofInt (-1)) else 0)))))) 81 1811608 := by
    intro m
    induction m with
    | zero =>
      intro i hi u hu
      have hi2 : i = 7 := by omega
      subst hi2
      refine x_iload_n (M := M_X12_init) dX12_init_740 rfl ?_
      refine x_bipush (M := M_X12_init) dX12_init_741 ?_
      refine x_icmp_ge (M := M_X12_init) (tgt := 759) dX12_init_743 (by decide) (fun _ => ?_) (fun q => absurd (by decide +kernel) q)
      subst hu
      exact x_vret (M := M_X12_init) dX12_init_759 rfl ⟨rfl, rfl⟩ (Nat.le_refl _) (Nat.le_refl _)
    | succ m ih =>
      intro i hi u hu
      have hlt : i < 7 := by omega
      refine x_iload_n (M := M_X12_init) dX12_init_740 rfl ?_
      refine x_bipush (M := M_X12_init) dX12_init_741 ?_
      refine x_icmp_ge (M := M_X12_init) (tgt := 759) dX12_init_743 (by decide) (fun q => absurd q (nI_ge (b := 7) hlt (by omega))) (fun _ => ?_)
      refine x_aload_n (M := M_X12_init) dX12_init_746 rfl ?_
      refine x_getf (M := M_X12_init) (ci := 15) (C := RX12) (T := TX12) (N := 135) (ty := tyX12) cl15 dX12_init_747 (ob_app _ (ob_self ha)) 14 (by decide) t_2405 rfl ?_
      refine x_iload_n (M := M_X12_init) dX12_init_750 rfl ?_
      refine x_iconst (M := M_X12_init) dX12_init_751 ?_
      refine x_iast (M := M_X12_init) dX12_init_752 (ob_mid2 (k := 7) rfl rfl) (vp_in_nI hlt (by omega)) ?_
      refine x_iinc (M := M_X12_init) dX12_init_753 rfl (by decide) rfl ?_
      refine x_goto (M := M_X12_init) (tgt := 740) dX12_init_756 (by decide) ?_
      refine x_norm (lv' := [some (.ref a), some (.int dg), some (.int (nI (i + 1)))]) (congrArg (fun z : Int32 => [some (Value.ref a), some (Value.int dg), some (Value.int z)]) (nI_1 i)) rfl ?_ rfl rfl (ih (i + 1) (by omega) u hu)
      rw [stt_mid2 (k := 7) rfl, nI_clamp (by omega), List.set_set]
      congr 7
      funext j
      simp only [upd]
      by_cases q : j = i
      · subst q; simp
      · by_cases q2 : j < i
        · simp [q, q2, Nat.lt_succ_of_lt q2]
        · simp [q, q2, show ¬ j < i + 1 by omega]
  obtain ⟨jk, hjk, ejk⟩ : ∃ jk : Nat, jk < 4 ∧ (dg &&& Int32.ofInt 3) = nI jk := pk_andE dg 2 (by decide +kernel)
  have hun : ∀ (m i : Nat), i + m = jk → XX l E M_X12_init 1 81 1811608 (pR none (modH h a dg)) 712 [some (.ref a), some (.int dg), some (.int (nI i))] [] (stt h a (.inr (15, (((mL h.length).set 1 (.int (dg &&& Int32.ofInt 3))).set 2 (.long (mU i))))) ++ mR) 81 1811608 := by
    intro m
    induction m with
    | zero =>
      intro i hi
      have hi2 : i = jk := by omega
      subst hi2
      refine x_iload_n (M := M_X12_init) dX12_init_712 rfl ?_
      refine x_aload_n (M := M_X12_init) dX12_init_713 rfl ?_
      refine x_getf (M := M_X12_init) (ci := 15) (C := RX12) (T := TX12) (N := 135) (ty := tyX12) cl15 dX12_init_714 (ob_app _ (ob_self ha)) 1 (by decide) t_2392 rfl ?_
      refine x_icmp_ge (M := M_X12_init) (tgt := 738) dX12_init_717 (by decide) (fun _ => ?_) (fun q => absurd (by rw [ejk]; exact nI_le (Nat.le_refl i) (by omega)) q)
      refine x_iconst (M := M_X12_init) dX12_init_738 ?_
      refine x_istore_n (M := M_X12_init) dX12_init_739 (by decide) rfl ?_
      refine x_norm (lv' := [some (.ref a), some (.int dg), some (.int (nI 0))]) rfl rfl ?_ rfl rfl (hpl 7 0 (by omega) (mU i) (by rw [ejk, nI_clamp (by omega)]))
      rfl
    | succ m ih =>
      intro i hi
      have hlt : i < jk := by omega
      refine x_iload_n (M := M_X12_init) dX12_init_712 rfl ?_
      refine x_aload_n (M := M_X12_init) dX12_init_713 rfl ?_
      refine x_getf (M := M_X12_init) (ci := 15) (C := RX12) (T := TX12) (N := 135) (ty := tyX12) cl15 dX12_init_714 (ob_app _ (ob_self ha)) 1 (by decide) t_2392 rfl ?_
      refine x_icmp_ge (M := M_X12_init) (tgt := 738) dX12_init_717 (by decide) (fun q => absurd q (by rw [ejk]; exact nI_ge hlt (by omega))) (fun _ => ?_)
      refine x_aload_n (M := M_X12_init) dX12_init_720 rfl ?_
      refine x_aload_n (M := M_X12_init) dX12_init_721 rfl ?_
      refine x_getf (M := M_X12_init) (ci := 15) (C := RX12) (T := TX12) (N := 135) (ty := tyX12) cl15 dX12_init_722 (ob_app _ (ob_self ha)) 2 (by decide) t_2393 rfl ?_
      refine x_ldc2 (M := M_X12_init) dX12_init_725 t_2390 ?_
      refine x_lmul (M := M_X12_init) dX12_init_728 ?_
      refine x_put (M := M_X12_init) (ci := 15) (C := RX12) (T := TX12) (N := 135) (ty := tyX12) cl15 dX12_init_729 (ob_app _ (ob_self ha)) 2 (by decide) t_2393 (Or.inl rfl) (Nat.le_of_ble_eq_true rfl) rfl ?_
      refine x_iinc (M := M_X12_init) dX12_init_732 rfl (by decide) rfl ?_
      refine x_goto (M := M_X12_init) (tgt := 712) dX12_init_735 (by decide) ?_
      refine x_norm (lv' := [some (.ref a), some (.int dg), some (.int (nI (i + 1)))]) (congrArg (fun z : Int32 => [some (Value.ref a), some (Value.int dg), some (Value.int z)]) (nI_1 i)) rfl ?_ rfl rfl (ih (i + 1) (by omega))
      rw [stt_mid ha, List.set_set]
      rfl
  exact hun jk 0 (by omega)
