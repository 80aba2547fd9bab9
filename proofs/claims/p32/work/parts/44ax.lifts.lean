section LFAX
variable {l : Launch} {E : EE}
theorem c_X12_cuts (hl : l.stackTraces = false) {σ : SG} {from_0 : Int} {d_0 : Int} {low_0 : Int} {high_0 : Int} {r : Bool} {σ' : SG}  (H : fR_cuts σ from_0 d_0 low_0 high_0 = some (r, σ')) : en_S l E M_X12_cuts 1 0 0 [vr 277, vl from_0, vl d_0, vl low_0, vl high_0] σ (pS (some (zv r)) σ') := by
  unfold fR_cuts at H
  refine z_mk (lv := [some (vr 277), some (vl from_0), none, some (vl d_0), none, some (vl low_0), none, some (vl high_0), none, none, none, none, none, none, none, none, none, none, none, none]) m_X12_cuts rfl hl (Nat.le_of_ble_eq_true rfl) rfl ?_
  refine z_lload_n (M := M_X12_cuts) dX12_cuts_0 rfl ?_
  refine z_lconst (M := M_X12_cuts) (m := 0) dX12_cuts_1 (by decide +kernel) ?_
  refine z_lcmp (M := M_X12_cuts) dX12_cuts_2 ?_
  rcases if_e H with ⟨h_1, H⟩ | ⟨h_1, H⟩
  · refine z_lif_ne_f (M := M_X12_cuts) (tgt := 26) dX12_cuts_3 (by decide) rfl (by decide +kernel) h_1 ?_
    have J_2 : YY l E M_X12_cuts 1 0 0 (pS (some (zv r)) σ') 25 [some (vr 277), some (vl from_0), none, some (vl d_0), none, some (vl low_0), none, some (vl high_0), none, none, none, none, none, none, none, none, none, none, none, none] [zv (decide (((w64 low_0) ≤ (w64 from_0)) ∧ ((w64 from_0) < (w64 high_0))))] σ 0 0 := by
      cases H
      exact z_zret (M := M_X12_cuts) dX12_cuts_25 rfl (Nat.le_of_ble_eq_true rfl) (Nat.le_of_ble_eq_true rfl) ⟨rfl, rfl⟩
    refine z_lload (M := M_X12_cuts) dX12_cuts_6 rfl ?_
    refine z_lload_n (M := M_X12_cuts) dX12_cuts_8 rfl ?_
    refine z_lcmp (M := M_X12_cuts) dX12_cuts_9 ?_
    by_cases h_3 : (w64 low_0) ≤ (w64 from_0)
    · refine z_lif_gt_f (M := M_X12_cuts) (tgt := 24) dX12_cuts_10 (by decide) rfl rfl h_3 ?_
      refine z_lload_n (M := M_X12_cuts) dX12_cuts_13 rfl ?_
      refine z_lload (M := M_X12_cuts) dX12_cuts_14 rfl ?_
      refine z_lcmp (M := M_X12_cuts) dX12_cuts_16 ?_
      by_cases h_4 : (w64 from_0) < (w64 high_0)
      · refine z_lif_ge_f (M := M_X12_cuts) (tgt := 24) dX12_cuts_17 (by decide) rfl rfl h_4 ?_
        refine z_iconst (M := M_X12_cuts) dX12_cuts_20 ?_
        refine z_goto (M := M_X12_cuts) (tgt := 25) dX12_cuts_21 (by decide) ?_
        exact z_st (by rw [zv_t (p := ((w64 low_0) ≤ (w64 from_0)) ∧ ((w64 from_0) < (w64 high_0))) ⟨h_3, h_4⟩]) J_2
      · refine z_lif_ge_t (M := M_X12_cuts) (tgt := 24) dX12_cuts_17 (by decide) rfl rfl (Int.not_lt.mp h_4) ?_
        refine z_iconst (M := M_X12_cuts) dX12_cuts_24 ?_
        exact z_st (by rw [zv_f (p := ((w64 low_0) ≤ (w64 from_0)) ∧ ((w64 from_0) < (w64 high_0))) (fun q => h_4 q.2)]) J_2
    · refine z_lif_gt_t (M := M_X12_cuts) (tgt := 24) dX12_cuts_10 (by decide) rfl rfl (Int.not_le.mp h_3) ?_
      refine z_iconst (M := M_X12_cuts) dX12_cuts_24 ?_
      exact z_st (by rw [zv_f (p := ((w64 low_0) ≤ (w64 from_0)) ∧ ((w64 from_0) < (w64 high_0))) (fun q => h_3 q.1)]) J_2
  · refine z_lif_ne_t (M := M_X12_cuts) (tgt := 26) dX12_cuts_3 (by decide) rfl (by decide +kernel) h_1 ?_
    have J_5 : YY l E M_X12_cuts 1 0 0 (pS (some (zv r)) σ') 38 [some (vr 277), some (vl from_0), none, some (vl d_0), none, some (vl low_0), none, some (vl high_0), none, none, none, none, none, none, none, none, none, none, none, none] [vl (if (w64 d_0) < 0 then (-d_0) else d_0)] σ 0 0 := by
      refine z_lstore (M := M_X12_cuts) (lv' := [some (vr 277), some (vl from_0), none, some (vl d_0), none, some (vl low_0), none, some (vl high_0), none, some (vl (if (w64 d_0) < 0 then (-d_0) else d_0)), none, none, none, none, none, none, none, none, none, none]) dX12_cuts_38 (Nat.le_of_ble_eq_true rfl) rfl rfl ?_
      have J_6 : YY l E M_X12_cuts 1 0 0 (pS (some (zv r)) σ') 57 [some (vr 277), some (vl from_0), none, some (vl d_0), none, some (vl low_0), none, some (vl high_0), none, some (vl (if (w64 d_0) < 0 then (-d_0) else d_0)), none, none, none, none, none, none, none, none, none, none] [vl (if 0 < (w64 d_0) then (low_0 - from_0) else (from_0 - high_0))] σ 0 0 := by
        obtain ⟨x_7, x_7_e, H⟩ := lt_e H
        refine z_st (congrArg (fun z => vl z :: []) x_7_e) ?_
        refine z_lstore (M := M_X12_cuts) (lv' := [some (vr 277), some (vl from_0), none, some (vl d_0), none, some (vl low_0), none, some (vl high_0), none, some (vl (if (w64 d_0) < 0 then (-d_0) else d_0)), none, some (vl x_7), none, none, none, none, none, none, none, none]) dX12_cuts_57 (Nat.le_of_ble_eq_true rfl) rfl rfl ?_
        have J_8 : YY l E M_X12_cuts 1 0 0 (pS (some (zv r)) σ') 76 [some (vr 277), some (vl from_0), none, some (vl d_0), none, some (vl low_0), none, some (vl high_0), none, some (vl (if (w64 d_0) < 0 then (-d_0) else d_0)), none, some (vl x_7), none, none, none, none, none, none, none, none] [vl (if 0 < (w64 d_0) then (high_0 - from_0) else (from_0 - low_0))] σ 0 0 := by
          obtain ⟨x_9, x_9_e, H⟩ := lt_e H
          refine z_st (congrArg (fun z => vl z :: []) x_9_e) ?_
          refine z_lstore (M := M_X12_cuts) (lv' := [some (vr 277), some (vl from_0), none, some (vl d_0), none, some (vl low_0), none, some (vl high_0), none, some (vl (if (w64 d_0) < 0 then (-d_0) else d_0)), none, some (vl x_7), none, some (vl x_9), none, none, none, none, none, none]) dX12_cuts_76 (Nat.le_of_ble_eq_true rfl) rfl rfl ?_
          have J_10 : YY l E M_X12_cuts 1 0 0 (pS (some (zv r)) σ') 89 [some (vr 277), some (vl from_0), none, some (vl d_0), none, some (vl low_0), none, some (vl high_0), none, some (vl (if (w64 d_0) < 0 then (-d_0) else d_0)), none, some (vl x_7), none, some (vl x_9), none, none, none, none, none, none] [zv (decide ((w64 d_0) < 0))] σ 0 0 := by
            refine z_zstore (M := M_X12_cuts) (lv' := [some (vr 277), some (vl from_0), none, some (vl d_0), none, some (vl low_0), none, some (vl high_0), none, some (vl (if (w64 d_0) < 0 then (-d_0) else d_0)), none, some (vl x_7), none, some (vl x_9), none, some (zv (decide ((w64 d_0) < 0))), none, none, none, none]) dX12_cuts_89 (Nat.le_of_ble_eq_true rfl) rfl rfl ?_
            refine z_lload (M := M_X12_cuts) dX12_cuts_91 rfl ?_
            refine z_aload_n (M := M_X12_cuts) dX12_cuts_93 rfl ?_
            refine z_getL (M := M_X12_cuts) (ci := 15) (C := RX12) (T := TX12) (Nf := 135) (ty := tyX12) cl15 dX12_cuts_94 ly_277 77 (by decide) t_2468 rfl rfl ?_
            refine z_lmul (M := M_X12_cuts) dX12_cuts_97 ?_
            refine z_aload_n (M := M_X12_cuts) dX12_cuts_98 rfl ?_
            refine z_getL (M := M_X12_cuts) (ci := 15) (C := RX12) (T := TX12) (Nf := 135) (ty := tyX12) cl15 dX12_cuts_99 ly_277 76 (by decide) t_2467 rfl rfl ?_
            refine z_lload (M := M_X12_cuts) dX12_cuts_102 rfl ?_
            refine z_lmul (M := M_X12_cuts) dX12_cuts_104 ?_
            refine z_lsub (M := M_X12_cuts) dX12_cuts_105 ?_
            obtain ⟨x_11, x_11_e, H⟩ := lt_e H
            refine z_st (congrArg (fun z => vl z :: []) x_11_e) ?_
            refine z_lstore (M := M_X12_cuts) (lv' := [some (vr 277), some (vl from_0), none, some (vl d_0), none, some (vl low_0), none, some (vl high_0), none, some (vl (if (w64 d_0) < 0 then (-d_0) else d_0)), none, some (vl x_7), none, some (vl x_9), none, some (zv (decide ((w64 d_0) < 0))), some (vl x_11), none, none, none]) dX12_cuts_106 (Nat.le_of_ble_eq_true rfl) rfl rfl ?_
            obtain ⟨v_15, he_12, hk_13⟩ := bd_e H
            have J_70 : ∀ σ_35, v_15 = σ_35 → YY l E M_X12_cuts 1 0 0 (pS (some (zv r)) σ') 164 [some (vr 277), some (vl from_0), none, some (vl d_0), none, some (vl low_0), none, some (vl high_0), none, some (vl (if (w64 d_0) < 0 then (-d_0) else d_0)), none, some (vl x_7), none, some (vl x_9), none, some (zv (decide ((w64 d_0) < 0))), some (vl x_11), none, none, none] [] σ_35 0 0 := by
              intro σ_35 e
              have H := hk_13
              rw [e] at H
              refine z_lload (M := M_X12_cuts) dX12_cuts_164 rfl ?_
              refine z_aload_n (M := M_X12_cuts) dX12_cuts_166 rfl ?_
              refine z_getL (M := M_X12_cuts) (ci := 15) (C := RX12) (T := TX12) (Nf := 135) (ty := tyX12) cl15 dX12_cuts_167 ly_277 80 (by decide) t_2471 rfl rfl ?_
              refine z_lmul (M := M_X12_cuts) dX12_cuts_170 ?_
              refine z_aload_n (M := M_X12_cuts) dX12_cuts_171 rfl ?_
              refine z_getL (M := M_X12_cuts) (ci := 15) (C := RX12) (T := TX12) (Nf := 135) (ty := tyX12) cl15 dX12_cuts_172 ly_277 79 (by decide) t_2470 rfl rfl ?_
              refine z_lload (M := M_X12_cuts) dX12_cuts_175 rfl ?_
              refine z_lmul (M := M_X12_cuts) dX12_cuts_177 ?_
              refine z_lsub (M := M_X12_cuts) dX12_cuts_178 ?_
              obtain ⟨x_36, x_36_e, H⟩ := lt_e H
              refine z_st (congrArg (fun z => vl z :: []) x_36_e) ?_
              refine z_lstore (M := M_X12_cuts) (lv' := [some (vr 277), some (vl from_0), none, some (vl d_0), none, some (vl low_0), none, some (vl high_0), none, some (vl (if (w64 d_0) < 0 then (-d_0) else d_0)), none, some (vl x_7), none, some (vl x_9), none, some (zv (decide ((w64 d_0) < 0))), some (vl x_36), none, none, none]) dX12_cuts_179 (Nat.le_of_ble_eq_true rfl) rfl rfl ?_
              obtain ⟨v_40, he_37, hk_38⟩ := bd_e H
              have J_69 : ∀ σ_62, v_40 = σ_62 → YY l E M_X12_cuts 1 0 0 (pS (some (zv r)) σ') 245 [some (vr 277), some (vl from_0), none, some (vl d_0), none, some (vl low_0), none, some (vl high_0), none, some (vl (if (w64 d_0) < 0 then (-d_0) else d_0)), none, some (vl x_7), none, some (vl x_9), none, some (zv (decide ((w64 d_0) < 0))), some (vl x_36), none, none, none] [] σ_62 0 0 := by
                intro σ_62 e
                have H := hk_38
                rw [e] at H
                refine z_aload_n (M := M_X12_cuts) dX12_cuts_245 rfl ?_
                refine z_getL (M := M_X12_cuts) (ci := 15) (C := RX12) (T := TX12) (Nf := 135) (ty := tyX12) cl15 dX12_cuts_246 ly_277 76 (by decide) t_2467 rfl rfl ?_
                refine z_aload_n (M := M_X12_cuts) dX12_cuts_249 rfl ?_
                refine z_getL (M := M_X12_cuts) (ci := 15) (C := RX12) (T := TX12) (Nf := 135) (ty := tyX12) cl15 dX12_cuts_250 ly_277 80 (by decide) t_2471 rfl rfl ?_
                refine z_lmul (M := M_X12_cuts) dX12_cuts_253 ?_
                refine z_aload_n (M := M_X12_cuts) dX12_cuts_254 rfl ?_
                refine z_getL (M := M_X12_cuts) (ci := 15) (C := RX12) (T := TX12) (Nf := 135) (ty := tyX12) cl15 dX12_cuts_255 ly_277 79 (by decide) t_2470 rfl rfl ?_
                refine z_aload_n (M := M_X12_cuts) dX12_cuts_258 rfl ?_
                refine z_getL (M := M_X12_cuts) (ci := 15) (C := RX12) (T := TX12) (Nf := 135) (ty := tyX12) cl15 dX12_cuts_259 ly_277 77 (by decide) t_2468 rfl rfl ?_
                refine z_lmul (M := M_X12_cuts) dX12_cuts_262 ?_
                refine z_lsub (M := M_X12_cuts) dX12_cuts_263 ?_
                obtain ⟨x_63, x_63_e, H⟩ := lt_e H
                refine z_st (congrArg (fun z => vl z :: []) x_63_e) ?_
                refine z_lstore (M := M_X12_cuts) (lv' := [some (vr 277), some (vl from_0), none, some (vl d_0), none, some (vl low_0), none, some (vl high_0), none, some (vl (if (w64 d_0) < 0 then (-d_0) else d_0)), none, some (vl x_7), none, some (vl x_9), none, some (zv (decide ((w64 d_0) < 0))), some (vl x_36), none, some (vl x_63), none]) dX12_cuts_264 (Nat.le_of_ble_eq_true rfl) rfl rfl ?_
                have J_64 : YY l E M_X12_cuts 1 0 0 (pS (some (zv r)) σ') 299 [some (vr 277), some (vl from_0), none, some (vl d_0), none, some (vl low_0), none, some (vl high_0), none, some (vl (if (w64 d_0) < 0 then (-d_0) else d_0)), none, some (vl x_7), none, some (vl x_9), none, some (zv (decide ((w64 d_0) < 0))), some (vl x_36), none, some (vl x_63), none] [zv (decide (((w64 x_63) < 0) ∨ ((((w64 x_63) = 0) ∧ (¬ ((nz (σ_62 kR_lowOpen 0)) = true))) ∧ (¬ ((nz (σ_62 kR_highOpen 0)) = true)))))] σ_62 0 0 := by
                  cases H
                  exact z_zret (M := M_X12_cuts) dX12_cuts_299 rfl (Nat.le_of_ble_eq_true rfl) (Nat.le_of_ble_eq_true rfl) ⟨rfl, rfl⟩
                refine z_lload (M := M_X12_cuts) dX12_cuts_266 rfl ?_
                refine z_lconst (M := M_X12_cuts) (m := 0) dX12_cuts_268 (by decide +kernel) ?_
                refine z_lcmp (M := M_X12_cuts) dX12_cuts_269 ?_
                by_cases h_65 : (w64 x_63) < 0
                · refine z_lif_lt_t (M := M_X12_cuts) (tgt := 294) dX12_cuts_270 (by decide) rfl (by decide +kernel) h_65 ?_
                  refine z_iconst (M := M_X12_cuts) dX12_cuts_294 ?_
                  refine z_goto (M := M_X12_cuts) (tgt := 299) dX12_cuts_295 (by decide) ?_
                  exact z_st (by rw [zv_t (p := ((w64 x_63) < 0) ∨ ((((w64 x_63) = 0) ∧ (¬ ((nz (σ_62 kR_lowOpen 0)) = true))) ∧ (¬ ((nz (σ_62 kR_highOpen 0)) = true)))) (Or.inl h_65)]) J_64
                · refine z_lif_lt_f (M := M_X12_cuts) (tgt := 294) dX12_cuts_270 (by decide) rfl (by decide +kernel) (Int.not_lt.mp h_65) ?_
                  refine z_lload (M := M_X12_cuts) dX12_cuts_273 rfl ?_
                  refine z_lconst (M := M_X12_cuts) (m := 0) dX12_cuts_275 (by decide +kernel) ?_
                  refine z_lcmp (M := M_X12_cuts) dX12_cuts_276 ?_
                  by_cases h_66 : (w64 x_63) = 0
                  · refine z_lif_ne_f (M := M_X12_cuts) (tgt := 298) dX12_cuts_277 (by decide) rfl (by decide +kernel) h_66 ?_
                    refine z_aload_n (M := M_X12_cuts) dX12_cuts_280 rfl ?_
                    refine z_getZ (M := M_X12_cuts) (ci := 15) (C := RX12) (T := TX12) (Nf := 135) (ty := tyX12) cl15 dX12_cuts_281 ly_277 78 (by decide) t_2469 rfl rfl ?_
                    by_cases h_67 : (nz (σ_62 kR_lowOpen 0)) = true
                    · refine z_zne_t (M := M_X12_cuts) (tgt := 298) dX12_cuts_284 (by decide) h_67 ?_
                      refine z_iconst (M := M_X12_cuts) dX12_cuts_298 ?_
                      exact z_st (by rw [zv_f (p := ((w64 x_63) < 0) ∨ ((((w64 x_63) = 0) ∧ (¬ ((nz (σ_62 kR_lowOpen 0)) = true))) ∧ (¬ ((nz (σ_62 kR_highOpen 0)) = true)))) (fun q => q.elim h_65 (fun q => (fun q => (not_not_intro h_67) q.2) q.1))]) J_64
                    · refine z_zne_f (M := M_X12_cuts) (tgt := 298) dX12_cuts_284 (by decide) h_67 ?_
                      refine z_aload_n (M := M_X12_cuts) dX12_cuts_287 rfl ?_
                      refine z_getZ (M := M_X12_cuts) (ci := 15) (C := RX12) (T := TX12) (Nf := 135) (ty := tyX12) cl15 dX12_cuts_288 ly_277 81 (by decide) t_2472 rfl rfl ?_
                      by_cases h_68 : (nz (σ_62 kR_highOpen 0)) = true
                      · refine z_zne_t (M := M_X12_cuts) (tgt := 298) dX12_cuts_291 (by decide) h_68 ?_
                        refine z_iconst (M := M_X12_cuts) dX12_cuts_298 ?_
                        exact z_st (by rw [zv_f (p := ((w64 x_63) < 0) ∨ ((((w64 x_63) = 0) ∧ (¬ ((nz (σ_62 kR_lowOpen 0)) = true))) ∧ (¬ ((nz (σ_62 kR_highOpen 0)) = true)))) (fun q => q.elim h_65 (fun q => (not_not_intro h_68) q.2))]) J_64
                      · refine z_zne_f (M := M_X12_cuts) (tgt := 298) dX12_cuts_291 (by decide) h_68 ?_
                        refine z_iconst (M := M_X12_cuts) dX12_cuts_294 ?_
                        refine z_goto (M := M_X12_cuts) (tgt := 299) dX12_cuts_295 (by decide) ?_
                        exact z_st (by rw [zv_t (p := ((w64 x_63) < 0) ∨ ((((w64 x_63) = 0) ∧ (¬ ((nz (σ_62 kR_lowOpen 0)) = true))) ∧ (¬ ((nz (σ_62 kR_highOpen 0)) = true)))) (Or.inr ⟨⟨h_66, h_67⟩, h_68⟩)]) J_64
                  · refine z_lif_ne_t (M := M_X12_cuts) (tgt := 298) dX12_cuts_277 (by decide) rfl (by decide +kernel) h_66 ?_
                    refine z_iconst (M := M_X12_cuts) dX12_cuts_298 ?_
                    exact z_st (by rw [zv_f (p := ((w64 x_63) < 0) ∨ ((((w64 x_63) = 0) ∧ (¬ ((nz (σ_62 kR_lowOpen 0)) = true))) ∧ (¬ ((nz (σ_62 kR_highOpen 0)) = true)))) (fun q => q.elim h_65 (fun q => (fun q => h_66 q.1) q.1))]) J_64
              have H := he_37
              refine z_lload (M := M_X12_cuts) dX12_cuts_181 rfl ?_
              refine z_lconst (M := M_X12_cuts) (m := 0) dX12_cuts_183 (by decide +kernel) ?_
              refine z_lcmp (M := M_X12_cuts) dX12_cuts_184 ?_
              rcases if_e H with ⟨h_41, H⟩ | ⟨h_41, H⟩
              · refine z_lif_ge_f (M := M_X12_cuts) (tgt := 217) dX12_cuts_185 (by decide) rfl (by decide +kernel) h_41 ?_
                refine z_aload_n (M := M_X12_cuts) dX12_cuts_188 rfl ?_
                refine z_lload (M := M_X12_cuts) dX12_cuts_189 rfl ?_
                obtain ⟨σ_42, σ_42_e, H⟩ := wf_e H
                refine z_putL (M := M_X12_cuts) (ci := 15) (C := RX12) (T := TX12) (Nf := 135) (ty := tyX12) cl15 dX12_cuts_191 ly_277 79 (by decide) t_2470 rfl rfl rfl rfl σ_42_e ?_
                refine z_aload_n (M := M_X12_cuts) dX12_cuts_194 rfl ?_
                refine z_lload (M := M_X12_cuts) dX12_cuts_195 rfl ?_
                obtain ⟨σ_43, σ_43_e, H⟩ := wf_e H
                refine z_putL (M := M_X12_cuts) (ci := 15) (C := RX12) (T := TX12) (Nf := 135) (ty := tyX12) cl15 dX12_cuts_197 ly_277 80 (by decide) t_2471 rfl rfl rfl rfl σ_43_e ?_
                refine z_aload_n (M := M_X12_cuts) dX12_cuts_200 rfl ?_
                have J_44 : YY l E M_X12_cuts 1 0 0 (pS (some (zv r)) σ') 211 [some (vr 277), some (vl from_0), none, some (vl d_0), none, some (vl low_0), none, some (vl high_0), none, some (vl (if (w64 d_0) < 0 then (-d_0) else d_0)), none, some (vl x_7), none, some (vl x_9), none, some (zv (decide ((w64 d_0) < 0))), some (vl x_36), none, none, none] [zv (decide (¬ ((decide ((w64 d_0) < 0)) = true))), vr 277] σ_43 0 0 := by
                  obtain ⟨σ_45, σ_45_e, H⟩ := wf_e H
                  refine z_putZ (M := M_X12_cuts) (ci := 15) (C := RX12) (T := TX12) (Nf := 135) (ty := tyX12) cl15 dX12_cuts_211 ly_277 81 (by decide) t_2472 rfl rfl rfl rfl σ_45_e ?_
                  refine z_goto (M := M_X12_cuts) (tgt := 245) dX12_cuts_214 (by decide) ?_
                  exact J_69 _ (Option.some.inj H).symm
                refine z_zload (M := M_X12_cuts) dX12_cuts_201 rfl ?_
                by_cases h_47 : (decide ((w64 d_0) < 0)) = true
                · refine z_zne_t (M := M_X12_cuts) (tgt := 210) dX12_cuts_203 (by decide) h_47 ?_
                  refine z_iconst (M := M_X12_cuts) dX12_cuts_210 ?_
                  exact z_st (by rw [zv_f (p := ¬ ((decide ((w64 d_0) < 0)) = true)) (not_not_intro h_47)]) J_44
                · refine z_zne_f (M := M_X12_cuts) (tgt := 210) dX12_cuts_203 (by decide) h_47 ?_
                  refine z_iconst (M := M_X12_cuts) dX12_cuts_206 ?_
                  refine z_goto (M := M_X12_cuts) (tgt := 211) dX12_cuts_207 (by decide) ?_
                  exact z_st (by rw [zv_t (p := ¬ ((decide ((w64 d_0) < 0)) = true)) h_47]) J_44
              · refine z_lif_ge_t (M := M_X12_cuts) (tgt := 217) dX12_cuts_185 (by decide) rfl (by decide +kernel) (Int.not_lt.mp h_41) ?_
                obtain ⟨v_51, he_48, hk_49⟩ := bd_e H
                have J_61 : ∀ σ_59, v_51 = σ_59 → YY l E M_X12_cuts 1 0 0 (pS (some (zv r)) σ') 245 [some (vr 277), some (vl from_0), none, some (vl d_0), none, some (vl low_0), none, some (vl high_0), none, some (vl (if (w64 d_0) < 0 then (-d_0) else d_0)), none, some (vl x_7), none, some (vl x_9), none, some (zv (decide ((w64 d_0) < 0))), some (vl x_36), none, none, none] [] σ_59 0 0 := by
                  intro σ_59 e
                  have H := hk_49
                  rw [e] at H
                  exact J_69 _ (Option.some.inj H).symm
                have H := he_48
                refine z_lload (M := M_X12_cuts) dX12_cuts_217 rfl ?_
                refine z_lconst (M := M_X12_cuts) (m := 0) dX12_cuts_219 (by decide +kernel) ?_
                refine z_lcmp (M := M_X12_cuts) dX12_cuts_220 ?_
                rcases if_e H with ⟨h_52, H⟩ | ⟨h_52, H⟩
                · refine z_lif_ne_f (M := M_X12_cuts) (tgt := 245) dX12_cuts_221 (by decide) rfl (by decide +kernel) h_52 ?_
                  refine z_aload_n (M := M_X12_cuts) dX12_cuts_224 rfl ?_
                  have J_53 : YY l E M_X12_cuts 1 0 0 (pS (some (zv r)) σ') 242 [some (vr 277), some (vl from_0), none, some (vl d_0), none, some (vl low_0), none, some (vl high_0), none, some (vl (if (w64 d_0) < 0 then (-d_0) else d_0)), none, some (vl x_7), none, some (vl x_9), none, some (zv (decide ((w64 d_0) < 0))), some (vl x_36), none, none, none] [zv (decide (((nz (σ_35 kR_highOpen 0)) = true) ∨ (¬ ((decide ((w64 d_0) < 0)) = true)))), vr 277] σ_35 0 0 := by
                    obtain ⟨σ_54, σ_54_e, H⟩ := wf_e H
                    refine z_putZ (M := M_X12_cuts) (ci := 15) (C := RX12) (T := TX12) (Nf := 135) (ty := tyX12) cl15 dX12_cuts_242 ly_277 81 (by decide) t_2472 rfl rfl rfl rfl σ_54_e ?_
                    exact J_61 _ (Option.some.inj H).symm
                  refine z_aload_n (M := M_X12_cuts) dX12_cuts_225 rfl ?_
                  refine z_getZ (M := M_X12_cuts) (ci := 15) (C := RX12) (T := TX12) (Nf := 135) (ty := tyX12) cl15 dX12_cuts_226 ly_277 81 (by decide) t_2472 rfl rfl ?_
                  by_cases h_56 : (nz (σ_35 kR_highOpen 0)) = true
                  · refine z_zne_t (M := M_X12_cuts) (tgt := 237) dX12_cuts_229 (by decide) h_56 ?_
                    refine z_iconst (M := M_X12_cuts) dX12_cuts_237 ?_
                    refine z_goto (M := M_X12_cuts) (tgt := 242) dX12_cuts_238 (by decide) ?_
                    exact z_st (by rw [zv_t (p := ((nz (σ_35 kR_highOpen 0)) = true) ∨ (¬ ((decide ((w64 d_0) < 0)) = true))) (Or.inl h_56)]) J_53
                  · refine z_zne_f (M := M_X12_cuts) (tgt := 237) dX12_cuts_229 (by decide) h_56 ?_
                    refine z_zload (M := M_X12_cuts) dX12_cuts_232 rfl ?_
                    by_cases h_57 : (decide ((w64 d_0) < 0)) = true
                    · refine z_zne_t (M := M_X12_cuts) (tgt := 241) dX12_cuts_234 (by decide) h_57 ?_
                      refine z_iconst (M := M_X12_cuts) dX12_cuts_241 ?_
                      exact z_st (by rw [zv_f (p := ((nz (σ_35 kR_highOpen 0)) = true) ∨ (¬ ((decide ((w64 d_0) < 0)) = true))) (fun q => q.elim h_56 (not_not_intro h_57))]) J_53
                    · refine z_zne_f (M := M_X12_cuts) (tgt := 241) dX12_cuts_234 (by decide) h_57 ?_
                      refine z_iconst (M := M_X12_cuts) dX12_cuts_237 ?_
                      refine z_goto (M := M_X12_cuts) (tgt := 242) dX12_cuts_238 (by decide) ?_
                      exact z_st (by rw [zv_t (p := ((nz (σ_35 kR_highOpen 0)) = true) ∨ (¬ ((decide ((w64 d_0) < 0)) = true))) (Or.inr h_57)]) J_53
                · refine z_lif_ne_t (M := M_X12_cuts) (tgt := 245) dX12_cuts_221 (by decide) rfl (by decide +kernel) h_52 ?_
                  exact J_61 _ (Option.some.inj H).symm
            have H := he_12
            refine z_lload (M := M_X12_cuts) dX12_cuts_108 rfl ?_
            refine z_lconst (M := M_X12_cuts) (m := 0) dX12_cuts_110 (by decide +kernel) ?_
            refine z_lcmp (M := M_X12_cuts) dX12_cuts_111 ?_
            rcases if_e H with ⟨h_16, H⟩ | ⟨h_16, H⟩
            · refine z_lif_le_f (M := M_X12_cuts) (tgt := 136) dX12_cuts_112 (by decide) rfl (by decide +kernel) h_16 ?_
              refine z_aload_n (M := M_X12_cuts) dX12_cuts_115 rfl ?_
              refine z_lload (M := M_X12_cuts) dX12_cuts_116 rfl ?_
              obtain ⟨σ_17, σ_17_e, H⟩ := wf_e H
              refine z_putL (M := M_X12_cuts) (ci := 15) (C := RX12) (T := TX12) (Nf := 135) (ty := tyX12) cl15 dX12_cuts_118 ly_277 76 (by decide) t_2467 rfl rfl rfl rfl σ_17_e ?_
              refine z_aload_n (M := M_X12_cuts) dX12_cuts_121 rfl ?_
              refine z_lload (M := M_X12_cuts) dX12_cuts_122 rfl ?_
              obtain ⟨σ_18, σ_18_e, H⟩ := wf_e H
              refine z_putL (M := M_X12_cuts) (ci := 15) (C := RX12) (T := TX12) (Nf := 135) (ty := tyX12) cl15 dX12_cuts_124 ly_277 77 (by decide) t_2468 rfl rfl rfl rfl σ_18_e ?_
              refine z_aload_n (M := M_X12_cuts) dX12_cuts_127 rfl ?_
              refine z_zload (M := M_X12_cuts) dX12_cuts_128 rfl ?_
              obtain ⟨σ_19, σ_19_e, H⟩ := wf_e H
              refine z_putZ (M := M_X12_cuts) (ci := 15) (C := RX12) (T := TX12) (Nf := 135) (ty := tyX12) cl15 dX12_cuts_130 ly_277 78 (by decide) t_2469 rfl rfl rfl rfl σ_19_e ?_
              refine z_goto (M := M_X12_cuts) (tgt := 164) dX12_cuts_133 (by decide) ?_
              exact J_70 _ (Option.some.inj H).symm
            · refine z_lif_le_t (M := M_X12_cuts) (tgt := 136) dX12_cuts_112 (by decide) rfl (by decide +kernel) (Int.not_lt.mp h_16) ?_
              obtain ⟨v_24, he_21, hk_22⟩ := bd_e H
              have J_34 : ∀ σ_32, v_24 = σ_32 → YY l E M_X12_cuts 1 0 0 (pS (some (zv r)) σ') 164 [some (vr 277), some (vl from_0), none, some (vl d_0), none, some (vl low_0), none, some (vl high_0), none, some (vl (if (w64 d_0) < 0 then (-d_0) else d_0)), none, some (vl x_7), none, some (vl x_9), none, some (zv (decide ((w64 d_0) < 0))), some (vl x_11), none, none, none] [] σ_32 0 0 := by
                intro σ_32 e
                have H := hk_22
                rw [e] at H
                exact J_70 _ (Option.some.inj H).symm
              have H := he_21
              refine z_lload (M := M_X12_cuts) dX12_cuts_136 rfl ?_
              refine z_lconst (M := M_X12_cuts) (m := 0) dX12_cuts_138 (by decide +kernel) ?_
              refine z_lcmp (M := M_X12_cuts) dX12_cuts_139 ?_
              rcases if_e H with ⟨h_25, H⟩ | ⟨h_25, H⟩
              · refine z_lif_ne_f (M := M_X12_cuts) (tgt := 164) dX12_cuts_140 (by decide) rfl (by decide +kernel) h_25 ?_
                refine z_aload_n (M := M_X12_cuts) dX12_cuts_143 rfl ?_
                have J_26 : YY l E M_X12_cuts 1 0 0 (pS (some (zv r)) σ') 161 [some (vr 277), some (vl from_0), none, some (vl d_0), none, some (vl low_0), none, some (vl high_0), none, some (vl (if (w64 d_0) < 0 then (-d_0) else d_0)), none, some (vl x_7), none, some (vl x_9), none, some (zv (decide ((w64 d_0) < 0))), some (vl x_11), none, none, none] [zv (decide (((nz (σ kR_lowOpen 0)) = true) ∨ ((decide ((w64 d_0) < 0)) = true))), vr 277] σ 0 0 := by
                  obtain ⟨σ_27, σ_27_e, H⟩ := wf_e H
                  refine z_putZ (M := M_X12_cuts) (ci := 15) (C := RX12) (T := TX12) (Nf := 135) (ty := tyX12) cl15 dX12_cuts_161 ly_277 78 (by decide) t_2469 rfl rfl rfl rfl σ_27_e ?_
                  exact J_34 _ (Option.some.inj H).symm
                refine z_aload_n (M := M_X12_cuts) dX12_cuts_144 rfl ?_
                refine z_getZ (M := M_X12_cuts) (ci := 15) (C := RX12) (T := TX12) (Nf := 135) (ty := tyX12) cl15 dX12_cuts_145 ly_277 78 (by decide) t_2469 rfl rfl ?_
                by_cases h_29 : (nz (σ kR_lowOpen 0)) = true
                · refine z_zne_t (M := M_X12_cuts) (tgt := 156) dX12_cuts_148 (by decide) h_29 ?_
                  refine z_iconst (M := M_X12_cuts) dX12_cuts_156 ?_
                  refine z_goto (M := M_X12_cuts) (tgt := 161) dX12_cuts_157 (by decide) ?_
                  exact z_st (by rw [zv_t (p := ((nz (σ kR_lowOpen 0)) = true) ∨ ((decide ((w64 d_0) < 0)) = true)) (Or.inl h_29)]) J_26
                · refine z_zne_f (M := M_X12_cuts) (tgt := 156) dX12_cuts_148 (by decide) h_29 ?_
                  refine z_zload (M := M_X12_cuts) dX12_cuts_151 rfl ?_
                  by_cases h_30 : (decide ((w64 d_0) < 0)) = true
                  · refine z_zeq_f (M := M_X12_cuts) (tgt := 160) dX12_cuts_153 (by decide) h_30 ?_
                    refine z_iconst (M := M_X12_cuts) dX12_cuts_156 ?_
                    refine z_goto (M := M_X12_cuts) (tgt := 161) dX12_cuts_157 (by decide) ?_
                    exact z_st (by rw [zv_t (p := ((nz (σ kR_lowOpen 0)) = true) ∨ ((decide ((w64 d_0) < 0)) = true)) (Or.inr h_30)]) J_26
                  · refine z_zeq_t (M := M_X12_cuts) (tgt := 160) dX12_cuts_153 (by decide) h_30 ?_
                    refine z_iconst (M := M_X12_cuts) dX12_cuts_160 ?_
                    exact z_st (by rw [zv_f (p := ((nz (σ kR_lowOpen 0)) = true) ∨ ((decide ((w64 d_0) < 0)) = true)) (fun q => q.elim h_29 h_30)]) J_26
              · refine z_lif_ne_t (M := M_X12_cuts) (tgt := 164) dX12_cuts_140 (by decide) rfl (by decide +kernel) h_25 ?_
                exact J_34 _ (Option.some.inj H).symm
          refine z_lload_n (M := M_X12_cuts) dX12_cuts_78 rfl ?_
          refine z_lconst (M := M_X12_cuts) (m := 0) dX12_cuts_79 (by decide +kernel) ?_
          refine z_lcmp (M := M_X12_cuts) dX12_cuts_80 ?_
          by_cases h_71 : (w64 d_0) < 0
          · refine z_lif_ge_f (M := M_X12_cuts) (tgt := 88) dX12_cuts_81 (by decide) rfl (by decide +kernel) h_71 ?_
            refine z_iconst (M := M_X12_cuts) dX12_cuts_84 ?_
            refine z_goto (M := M_X12_cuts) (tgt := 89) dX12_cuts_85 (by decide) ?_
            exact z_st (by rw [zv_t (p := (w64 d_0) < 0) h_71]) J_10
          · refine z_lif_ge_t (M := M_X12_cuts) (tgt := 88) dX12_cuts_81 (by decide) rfl (by decide +kernel) (Int.not_lt.mp h_71) ?_
            refine z_iconst (M := M_X12_cuts) dX12_cuts_88 ?_
            exact z_st (by rw [zv_f (p := (w64 d_0) < 0) h_71]) J_10
        refine z_lload_n (M := M_X12_cuts) dX12_cuts_59 rfl ?_
        refine z_lconst (M := M_X12_cuts) (m := 0) dX12_cuts_60 (by decide +kernel) ?_
        refine z_lcmp (M := M_X12_cuts) dX12_cuts_61 ?_
        by_cases h_72 : 0 < (w64 d_0)
        · refine z_lif_le_f (M := M_X12_cuts) (tgt := 72) dX12_cuts_62 (by decide) rfl (by decide +kernel) h_72 ?_
          refine z_lload (M := M_X12_cuts) dX12_cuts_65 rfl ?_
          refine z_lload_n (M := M_X12_cuts) dX12_cuts_67 rfl ?_
          refine z_lsub (M := M_X12_cuts) dX12_cuts_68 ?_
          refine z_goto (M := M_X12_cuts) (tgt := 76) dX12_cuts_69 (by decide) ?_
          exact z_st (by rw [if_pos (c := 0 < (w64 d_0)) h_72]) J_8
        · refine z_lif_le_t (M := M_X12_cuts) (tgt := 72) dX12_cuts_62 (by decide) rfl (by decide +kernel) (Int.not_lt.mp h_72) ?_
          refine z_lload_n (M := M_X12_cuts) dX12_cuts_72 rfl ?_
          refine z_lload (M := M_X12_cuts) dX12_cuts_73 rfl ?_
          refine z_lsub (M := M_X12_cuts) dX12_cuts_75 ?_
          exact z_st (by rw [if_neg (c := 0 < (w64 d_0)) h_72]) J_8
      refine z_lload_n (M := M_X12_cuts) dX12_cuts_40 rfl ?_
      refine z_lconst (M := M_X12_cuts) (m := 0) dX12_cuts_41 (by decide +kernel) ?_
      refine z_lcmp (M := M_X12_cuts) dX12_cuts_42 ?_
      by_cases h_73 : 0 < (w64 d_0)
      · refine z_lif_le_f (M := M_X12_cuts) (tgt := 53) dX12_cuts_43 (by decide) rfl (by decide +kernel) h_73 ?_
        refine z_lload (M := M_X12_cuts) dX12_cuts_46 rfl ?_
        refine z_lload_n (M := M_X12_cuts) dX12_cuts_48 rfl ?_
        refine z_lsub (M := M_X12_cuts) dX12_cuts_49 ?_
        refine z_goto (M := M_X12_cuts) (tgt := 57) dX12_cuts_50 (by decide) ?_
        exact z_st (by rw [if_pos (c := 0 < (w64 d_0)) h_73]) J_6
      · refine z_lif_le_t (M := M_X12_cuts) (tgt := 53) dX12_cuts_43 (by decide) rfl (by decide +kernel) (Int.not_lt.mp h_73) ?_
        refine z_lload_n (M := M_X12_cuts) dX12_cuts_53 rfl ?_
        refine z_lload (M := M_X12_cuts) dX12_cuts_54 rfl ?_
        refine z_lsub (M := M_X12_cuts) dX12_cuts_56 ?_
        exact z_st (by rw [if_neg (c := 0 < (w64 d_0)) h_73]) J_6
    refine z_lload_n (M := M_X12_cuts) dX12_cuts_26 rfl ?_
    refine z_lconst (M := M_X12_cuts) (m := 0) dX12_cuts_27 (by decide +kernel) ?_
    refine z_lcmp (M := M_X12_cuts) dX12_cuts_28 ?_
    by_cases h_74 : (w64 d_0) < 0
    · refine z_lif_ge_f (M := M_X12_cuts) (tgt := 37) dX12_cuts_29 (by decide) rfl (by decide +kernel) h_74 ?_
      refine z_lload_n (M := M_X12_cuts) dX12_cuts_32 rfl ?_
      refine z_lneg (M := M_X12_cuts) dX12_cuts_33 ?_
      refine z_goto (M := M_X12_cuts) (tgt := 38) dX12_cuts_34 (by decide) ?_
      exact z_st (by rw [if_pos (c := (w64 d_0) < 0) h_74]) J_5
    · refine z_lif_ge_t (M := M_X12_cuts) (tgt := 37) dX12_cuts_29 (by decide) rfl (by decide +kernel) (Int.not_lt.mp h_74) ?_
      refine z_lload_n (M := M_X12_cuts) dX12_cuts_37 rfl ?_
      exact z_st (by rw [if_neg (c := (w64 d_0) < 0) h_74]) J_5
theorem c_X12_meetsPixel (hl : l.stackTraces = false) {σ : SG} {i_0 : Int} {h_0 : Int} {r : Bool} {σ' : SG}  (H : fR_meetsPixel σ i_0 h_0 = some (r, σ')) : en_S l E M_X12_meetsPixel 2 0 0 [vr 277, vi i_0, vi h_0] σ (pS (some (zv r)) σ') := by
  unfold fR_meetsPixel at H
  refine z_mk (lv := [some (vr 277), some (vi i_0), some (vi h_0), none, none, none, none]) m_X12_meetsPixel rfl hl (Nat.le_of_ble_eq_true rfl) rfl ?_
  refine z_aload_n (M := M_X12_meetsPixel) dX12_meetsPixel_0 rfl ?_
  refine z_lconst (M := M_X12_meetsPixel) (m := 0) dX12_meetsPixel_1 (by decide +kernel) ?_
  obtain ⟨σ_1, σ_1_e, H⟩ := wf_e H
  refine z_putL (M := M_X12_meetsPixel) (ci := 15) (C := RX12) (T := TX12) (Nf := 135) (ty := tyX12) cl15 dX12_meetsPixel_2 ly_277 76 (by decide) t_2467 rfl rfl rfl rfl σ_1_e ?_
  refine z_aload_n (M := M_X12_meetsPixel) dX12_meetsPixel_5 rfl ?_
  refine z_lconst (M := M_X12_meetsPixel) (m := 1) dX12_meetsPixel_6 (by decide +kernel) ?_
  obtain ⟨σ_2, σ_2_e, H⟩ := wf_e H
  refine z_putL (M := M_X12_meetsPixel) (ci := 15) (C := RX12) (T := TX12) (Nf := 135) (ty := tyX12) cl15 dX12_meetsPixel_7 ly_277 77 (by decide) t_2468 rfl rfl rfl rfl σ_2_e ?_
  refine z_aload_n (M := M_X12_meetsPixel) dX12_meetsPixel_10 rfl ?_
  refine z_zconst (M := M_X12_meetsPixel) (b := false) dX12_meetsPixel_11 rfl ?_
  obtain ⟨σ_3, σ_3_e, H⟩ := wf_e H
  refine z_putZ (M := M_X12_meetsPixel) (ci := 15) (C := RX12) (T := TX12) (Nf := 135) (ty := tyX12) cl15 dX12_meetsPixel_12 ly_277 78 (by decide) t_2469 rfl rfl rfl rfl σ_3_e ?_
  refine z_aload_n (M := M_X12_meetsPixel) dX12_meetsPixel_15 rfl ?_
  refine z_lconst (M := M_X12_meetsPixel) (m := 1) dX12_meetsPixel_16 (by decide +kernel) ?_
  obtain ⟨σ_4, σ_4_e, H⟩ := wf_e H
  refine z_putL (M := M_X12_meetsPixel) (ci := 15) (C := RX12) (T := TX12) (Nf := 135) (ty := tyX12) cl15 dX12_meetsPixel_17 ly_277 79 (by decide) t_2470 rfl rfl rfl rfl σ_4_e ?_
  refine z_aload_n (M := M_X12_meetsPixel) dX12_meetsPixel_20 rfl ?_
  refine z_lconst (M := M_X12_meetsPixel) (m := 1) dX12_meetsPixel_21 (by decide +kernel) ?_
  obtain ⟨σ_5, σ_5_e, H⟩ := wf_e H
  refine z_putL (M := M_X12_meetsPixel) (ci := 15) (C := RX12) (T := TX12) (Nf := 135) (ty := tyX12) cl15 dX12_meetsPixel_22 ly_277 80 (by decide) t_2471 rfl rfl rfl rfl σ_5_e ?_
  refine z_aload_n (M := M_X12_meetsPixel) dX12_meetsPixel_25 rfl ?_
  refine z_zconst (M := M_X12_meetsPixel) (b := false) dX12_meetsPixel_26 rfl ?_
  obtain ⟨σ_6, σ_6_e, H⟩ := wf_e H
  refine z_putZ (M := M_X12_meetsPixel) (ci := 15) (C := RX12) (T := TX12) (Nf := 135) (ty := tyX12) cl15 dX12_meetsPixel_27 ly_277 81 (by decide) t_2472 rfl rfl rfl rfl σ_6_e ?_
  refine z_ldc2 (M := M_X12_meetsPixel) (n := 2) dX12_meetsPixel_30 t_3091 (by decide +kernel) ?_
  refine z_aload_n (M := M_X12_meetsPixel) dX12_meetsPixel_33 rfl ?_
  refine z_getR (M := M_X12_meetsPixel) (ci := 15) (C := RX12) (T := TX12) (Nf := 135) (ty := tyX12) cl15 dX12_meetsPixel_34 ly_277 67 (by decide) t_2458 rfl ?_
  refine z_iload_n (M := M_X12_meetsPixel) dX12_meetsPixel_37 rfl ?_
  obtain ⟨x_7, x_7_e, hi_8, H⟩ := rd_e H
  refine z_lald (M := M_X12_meetsPixel) dX12_meetsPixel_38 ly_317 rfl rfl rfl hi_8 x_7_e ?_
  refine z_lmul (M := M_X12_meetsPixel) dX12_meetsPixel_39 ?_
  refine z_lstore_n (M := M_X12_meetsPixel) (lv' := [some (vr 277), some (vi i_0), some (vi h_0), some (vl (2 * x_7)), none, none, none]) dX12_meetsPixel_40 (Nat.le_of_ble_eq_true rfl) rfl rfl ?_
  refine z_ldc2 (M := M_X12_meetsPixel) (n := 2) dX12_meetsPixel_41 t_3091 (by decide +kernel) ?_
  refine z_aload_n (M := M_X12_meetsPixel) dX12_meetsPixel_44 rfl ?_
  refine z_getR (M := M_X12_meetsPixel) (ci := 15) (C := RX12) (T := TX12) (Nf := 135) (ty := tyX12) cl15 dX12_meetsPixel_45 ly_277 68 (by decide) t_2459 rfl ?_
  refine z_iload_n (M := M_X12_meetsPixel) dX12_meetsPixel_48 rfl ?_
  obtain ⟨x_9, x_9_e, hi_10, H⟩ := rd_e H
  refine z_lald (M := M_X12_meetsPixel) dX12_meetsPixel_49 ly_318 rfl rfl rfl hi_10 x_9_e ?_
  refine z_lmul (M := M_X12_meetsPixel) dX12_meetsPixel_50 ?_
  refine z_lstore (M := M_X12_meetsPixel) (lv' := [some (vr 277), some (vi i_0), some (vi h_0), some (vl (2 * x_7)), none, some (vl (2 * x_9)), none]) dX12_meetsPixel_51 (Nat.le_of_ble_eq_true rfl) rfl rfl ?_
  obtain ⟨v_36, he_37, hk_38⟩ := bd_e H
  have J_39 : ∀ x_34 σ_35, v_36 = (x_34, σ_35) → YY l E M_X12_meetsPixel 2 0 0 (pS (some (zv r)) σ') 140 [some (vr 277), some (vi i_0), some (vi h_0), some (vl (2 * x_7)), none, some (vl (2 * x_9)), none] [zv x_34] σ_35 0 0 := by
    intro x_34 σ_35 e
    have H := hk_38
    rw [e] at H
    cases H
    exact z_zret (M := M_X12_meetsPixel) dX12_meetsPixel_140 rfl (Nat.le_of_ble_eq_true rfl) (Nat.le_of_ble_eq_true rfl) ⟨rfl, rfl⟩
  have H := he_37
  refine z_aload_n (M := M_X12_meetsPixel) dX12_meetsPixel_53 rfl ?_
  refine z_ldc2 (M := M_X12_meetsPixel) (n := 2) dX12_meetsPixel_54 t_3091 (by decide +kernel) ?_
  refine z_aload_n (M := M_X12_meetsPixel) dX12_meetsPixel_57 rfl ?_
  refine z_getR (M := M_X12_meetsPixel) (ci := 15) (C := RX12) (T := TX12) (Nf := 135) (ty := tyX12) cl15 dX12_meetsPixel_58 ly_277 41 (by decide) t_2432 rfl ?_
  refine z_iload_n (M := M_X12_meetsPixel) dX12_meetsPixel_61 rfl ?_
  obtain ⟨x_11, x_11_e, hi_12, H⟩ := rd_e H
  refine z_lald (M := M_X12_meetsPixel) dX12_meetsPixel_62 ly_299 rfl rfl rfl hi_12 x_11_e ?_
  refine z_lmul (M := M_X12_meetsPixel) dX12_meetsPixel_63 ?_
  refine z_ldc2 (M := M_X12_meetsPixel) (n := 2) dX12_meetsPixel_64 t_3091 (by decide +kernel) ?_
  refine z_aload_n (M := M_X12_meetsPixel) dX12_meetsPixel_67 rfl ?_
  refine z_getR (M := M_X12_meetsPixel) (ci := 15) (C := RX12) (T := TX12) (Nf := 135) (ty := tyX12) cl15 dX12_meetsPixel_68 ly_277 43 (by decide) t_2434 rfl ?_
  refine z_iload_n (M := M_X12_meetsPixel) dX12_meetsPixel_71 rfl ?_
  obtain ⟨x_13, x_13_e, hi_14, H⟩ := rd_e H
  refine z_lald (M := M_X12_meetsPixel) dX12_meetsPixel_72 ly_301 rfl rfl rfl hi_14 x_13_e ?_
  refine z_aload_n (M := M_X12_meetsPixel) dX12_meetsPixel_73 rfl ?_
  refine z_getR (M := M_X12_meetsPixel) (ci := 15) (C := RX12) (T := TX12) (Nf := 135) (ty := tyX12) cl15 dX12_meetsPixel_74 ly_277 41 (by decide) t_2432 rfl ?_
  refine z_iload_n (M := M_X12_meetsPixel) dX12_meetsPixel_77 rfl ?_
  obtain ⟨x_15, x_15_e, hi_16, H⟩ := rd_e H
  refine z_lald (M := M_X12_meetsPixel) dX12_meetsPixel_78 ly_299 rfl rfl rfl hi_16 x_15_e ?_
  refine z_lsub (M := M_X12_meetsPixel) dX12_meetsPixel_79 ?_
  refine z_lmul (M := M_X12_meetsPixel) dX12_meetsPixel_80 ?_
  refine z_lload_n (M := M_X12_meetsPixel) dX12_meetsPixel_81 rfl ?_
  refine z_lconst (M := M_X12_meetsPixel) (m := 1) dX12_meetsPixel_82 (by decide +kernel) ?_
  refine z_lsub (M := M_X12_meetsPixel) dX12_meetsPixel_83 ?_
  refine z_lload_n (M := M_X12_meetsPixel) dX12_meetsPixel_84 rfl ?_
  refine z_lconst (M := M_X12_meetsPixel) (m := 1) dX12_meetsPixel_85 (by decide +kernel) ?_
  refine z_ladd (M := M_X12_meetsPixel) dX12_meetsPixel_86 ?_
  obtain ⟨⟨x_19, σ_18⟩, hc_17, H⟩ := bd_e H
  refine z_callV (M := M_X12_meetsPixel) (M' := M_X12_cuts) (as := [vl (2 * x_11), vl (2 * (x_13 - x_15)), vl ((2 * x_7) - 1), vl ((2 * x_7) + 1)]) (rest := []) rfl rfl dX12_meetsPixel_87 m_X12_cuts t_3404 t_3406 s_261 (c_X12_cuts hl  hc_17) rfl rfl ly_277 rfl (Nat.le_of_ble_eq_true rfl) (Nat.le_of_ble_eq_true rfl) (Nat.le_of_ble_eq_true rfl) (Nat.le_of_ble_eq_true rfl) ?_
  refine z_st (st' := [zv x_19]) rfl ?_
  rcases if_e H with ⟨h_20, H⟩ | ⟨h_20, H⟩
  · refine z_zeq_f (M := M_X12_meetsPixel) (tgt := 139) dX12_meetsPixel_90 (by decide) h_20 ?_
    refine z_aload_n (M := M_X12_meetsPixel) dX12_meetsPixel_93 rfl ?_
    refine z_ldc2 (M := M_X12_meetsPixel) (n := 2) dX12_meetsPixel_94 t_3091 (by decide +kernel) ?_
    refine z_aload_n (M := M_X12_meetsPixel) dX12_meetsPixel_97 rfl ?_
    refine z_getR (M := M_X12_meetsPixel) (ci := 15) (C := RX12) (T := TX12) (Nf := 135) (ty := tyX12) cl15 dX12_meetsPixel_98 ly_277 42 (by decide) t_2433 rfl ?_
    refine z_iload_n (M := M_X12_meetsPixel) dX12_meetsPixel_101 rfl ?_
    obtain ⟨x_21, x_21_e, hi_22, H⟩ := rd_e H
    refine z_lald (M := M_X12_meetsPixel) dX12_meetsPixel_102 ly_300 rfl rfl rfl hi_22 x_21_e ?_
    refine z_lmul (M := M_X12_meetsPixel) dX12_meetsPixel_103 ?_
    refine z_ldc2 (M := M_X12_meetsPixel) (n := 2) dX12_meetsPixel_104 t_3091 (by decide +kernel) ?_
    refine z_aload_n (M := M_X12_meetsPixel) dX12_meetsPixel_107 rfl ?_
    refine z_getR (M := M_X12_meetsPixel) (ci := 15) (C := RX12) (T := TX12) (Nf := 135) (ty := tyX12) cl15 dX12_meetsPixel_108 ly_277 44 (by decide) t_2435 rfl ?_
    refine z_iload_n (M := M_X12_meetsPixel) dX12_meetsPixel_111 rfl ?_
    obtain ⟨x_23, x_23_e, hi_24, H⟩ := rd_e H
    refine z_lald (M := M_X12_meetsPixel) dX12_meetsPixel_112 ly_302 rfl rfl rfl hi_24 x_23_e ?_
    refine z_aload_n (M := M_X12_meetsPixel) dX12_meetsPixel_113 rfl ?_
    refine z_getR (M := M_X12_meetsPixel) (ci := 15) (C := RX12) (T := TX12) (Nf := 135) (ty := tyX12) cl15 dX12_meetsPixel_114 ly_277 42 (by decide) t_2433 rfl ?_
    refine z_iload_n (M := M_X12_meetsPixel) dX12_meetsPixel_117 rfl ?_
    obtain ⟨x_25, x_25_e, hi_26, H⟩ := rd_e H
    refine z_lald (M := M_X12_meetsPixel) dX12_meetsPixel_118 ly_300 rfl rfl rfl hi_26 x_25_e ?_
    refine z_lsub (M := M_X12_meetsPixel) dX12_meetsPixel_119 ?_
    refine z_lmul (M := M_X12_meetsPixel) dX12_meetsPixel_120 ?_
    refine z_lload (M := M_X12_meetsPixel) dX12_meetsPixel_121 rfl ?_
    refine z_lconst (M := M_X12_meetsPixel) (m := 1) dX12_meetsPixel_123 (by decide +kernel) ?_
    refine z_lsub (M := M_X12_meetsPixel) dX12_meetsPixel_124 ?_
    refine z_lload (M := M_X12_meetsPixel) dX12_meetsPixel_125 rfl ?_
    refine z_lconst (M := M_X12_meetsPixel) (m := 1) dX12_meetsPixel_127 (by decide +kernel) ?_
    refine z_ladd (M := M_X12_meetsPixel) dX12_meetsPixel_128 ?_
    obtain ⟨⟨x_29, σ_28⟩, hc_27, H⟩ := bd_e H
    refine z_callV (M := M_X12_meetsPixel) (M' := M_X12_cuts) (as := [vl (2 * x_21), vl (2 * (x_23 - x_25)), vl ((2 * x_9) - 1), vl ((2 * x_9) + 1)]) (rest := []) rfl rfl dX12_meetsPixel_129 m_X12_cuts t_3404 t_3406 s_261 (c_X12_cuts hl  hc_27) rfl rfl ly_277 rfl (Nat.le_of_ble_eq_true rfl) (Nat.le_of_ble_eq_true rfl) (Nat.le_of_ble_eq_true rfl) (Nat.le_of_ble_eq_true rfl) ?_
    refine z_st (st' := [zv x_29]) rfl ?_
    rcases if_e H with ⟨h_30, H⟩ | ⟨h_30, H⟩
    · refine z_zeq_f (M := M_X12_meetsPixel) (tgt := 139) dX12_meetsPixel_132 (by decide) h_30 ?_
      refine z_zconst (M := M_X12_meetsPixel) (b := true) dX12_meetsPixel_135 rfl ?_
      refine z_goto (M := M_X12_meetsPixel) (tgt := 140) dX12_meetsPixel_136 (by decide) ?_
      exact J_39 _ _ (Option.some.inj H).symm
    · refine z_zeq_t (M := M_X12_meetsPixel) (tgt := 139) dX12_meetsPixel_132 (by decide) h_30 ?_
      refine z_zconst (M := M_X12_meetsPixel) (b := false) dX12_meetsPixel_139 rfl ?_
      exact J_39 _ _ (Option.some.inj H).symm
  · refine z_zeq_t (M := M_X12_meetsPixel) (tgt := 139) dX12_meetsPixel_90 (by decide) h_20 ?_
    refine z_zconst (M := M_X12_meetsPixel) (b := false) dX12_meetsPixel_139 rfl ?_
    exact J_39 _ _ (Option.some.inj H).symm
theorem c_X12_isSooner (hl : l.stackTraces = false) {σ : SG} {k_0 : Int} {r : Bool}  (H : fR_isSooner σ k_0 = some r) : en_S l E M_X12_isSooner 1 0 0 [vr 277, vi k_0] σ (pS (some (zv r)) σ) := by
  unfold fR_isSooner at H
  refine z_mk (lv := [some (vr 277), some (vi k_0), none, none]) m_X12_isSooner rfl hl (Nat.le_of_ble_eq_true rfl) rfl ?_
  refine z_aload_n (M := M_X12_isSooner) dX12_isSooner_0 rfl ?_
  refine z_getL (M := M_X12_isSooner) (ci := 15) (C := RX12) (T := TX12) (Nf := 135) (ty := tyX12) cl15 dX12_isSooner_1 ly_277 76 (by decide) t_2467 rfl rfl ?_
  refine z_aload_n (M := M_X12_isSooner) dX12_isSooner_4 rfl ?_
  refine z_getR (M := M_X12_isSooner) (ci := 15) (C := RX12) (T := TX12) (Nf := 135) (ty := tyX12) cl15 dX12_isSooner_5 ly_277 73 (by decide) t_2464 rfl ?_
  refine z_iload_n (M := M_X12_isSooner) dX12_isSooner_8 rfl ?_
  obtain ⟨x_1, x_1_e, hi_2, H⟩ := rd_e H
  refine z_lald (M := M_X12_isSooner) dX12_isSooner_9 ly_321 rfl rfl rfl hi_2 x_1_e ?_
  refine z_lmul (M := M_X12_isSooner) dX12_isSooner_10 ?_
  refine z_aload_n (M := M_X12_isSooner) dX12_isSooner_11 rfl ?_
  refine z_getR (M := M_X12_isSooner) (ci := 15) (C := RX12) (T := TX12) (Nf := 135) (ty := tyX12) cl15 dX12_isSooner_12 ly_277 72 (by decide) t_2463 rfl ?_
  refine z_iload_n (M := M_X12_isSooner) dX12_isSooner_15 rfl ?_
  obtain ⟨x_3, x_3_e, hi_4, H⟩ := rd_e H
  refine z_lald (M := M_X12_isSooner) dX12_isSooner_16 ly_320 rfl rfl rfl hi_4 x_3_e ?_
  refine z_aload_n (M := M_X12_isSooner) dX12_isSooner_17 rfl ?_
  refine z_getL (M := M_X12_isSooner) (ci := 15) (C := RX12) (T := TX12) (Nf := 135) (ty := tyX12) cl15 dX12_isSooner_18 ly_277 77 (by decide) t_2468 rfl rfl ?_
  refine z_lmul (M := M_X12_isSooner) dX12_isSooner_21 ?_
  refine z_lsub (M := M_X12_isSooner) dX12_isSooner_22 ?_
  refine z_lstore_n (M := M_X12_isSooner) (lv' := [some (vr 277), some (vi k_0), some (vl (((σ kR_lowNum 0) * x_1) - (x_3 * (σ kR_lowDen 0)))), none]) dX12_isSooner_23 (Nat.le_of_ble_eq_true rfl) rfl rfl ?_
  obtain ⟨v_17, he_18, hk_19⟩ := bd_e H
  have J_20 : ∀ x_16, v_17 = x_16 → YY l E M_X12_isSooner 1 0 0 (pS (some (zv r)) σ) 57 [some (vr 277), some (vi k_0), some (vl (((σ kR_lowNum 0) * x_1) - (x_3 * (σ kR_lowDen 0)))), none] [zv x_16] σ 0 0 := by
    intro x_16 e
    have H := hk_19
    rw [e] at H
    cases H
    exact z_zret (M := M_X12_isSooner) dX12_isSooner_57 rfl (Nat.le_of_ble_eq_true rfl) (Nat.le_of_ble_eq_true rfl) ⟨rfl, rfl⟩
  have H := he_18
  refine z_lload_n (M := M_X12_isSooner) dX12_isSooner_24 rfl ?_
  refine z_lconst (M := M_X12_isSooner) (m := 0) dX12_isSooner_25 (by decide +kernel) ?_
  refine z_lcmp (M := M_X12_isSooner) dX12_isSooner_26 ?_
  rcases if_e H with ⟨h_5, H⟩ | ⟨h_5, H⟩
  · refine z_lif_lt_t (M := M_X12_isSooner) (tgt := 52) dX12_isSooner_27 (by decide) rfl (by decide +kernel) h_5 ?_
    refine z_zconst (M := M_X12_isSooner) (b := true) dX12_isSooner_52 rfl ?_
    refine z_goto (M := M_X12_isSooner) (tgt := 57) dX12_isSooner_53 (by decide) ?_
    exact J_20 _ (Option.some.inj H).symm
  · refine z_lif_lt_f (M := M_X12_isSooner) (tgt := 52) dX12_isSooner_27 (by decide) rfl (by decide +kernel) (Int.not_lt.mp h_5) ?_
    refine z_lload_n (M := M_X12_isSooner) dX12_isSooner_30 rfl ?_
    refine z_lconst (M := M_X12_isSooner) (m := 0) dX12_isSooner_31 (by decide +kernel) ?_
    refine z_lcmp (M := M_X12_isSooner) dX12_isSooner_32 ?_
    rcases if_e H with ⟨h_7, H⟩ | ⟨h_7, H⟩
    · refine z_lif_ne_f (M := M_X12_isSooner) (tgt := 56) dX12_isSooner_33 (by decide) rfl (by decide +kernel) h_7 ?_
      refine z_aload_n (M := M_X12_isSooner) dX12_isSooner_36 rfl ?_
      refine z_getZ (M := M_X12_isSooner) (ci := 15) (C := RX12) (T := TX12) (Nf := 135) (ty := tyX12) cl15 dX12_isSooner_37 ly_277 78 (by decide) t_2469 rfl rfl ?_
      rcases if_e H with ⟨h_8, H⟩ | ⟨h_8, H⟩
      · refine z_zne_t (M := M_X12_isSooner) (tgt := 56) dX12_isSooner_40 (by decide) h_8 ?_
        refine z_zconst (M := M_X12_isSooner) (b := false) dX12_isSooner_56 rfl ?_
        exact J_20 _ (Option.some.inj H).symm
      · refine z_zne_f (M := M_X12_isSooner) (tgt := 56) dX12_isSooner_40 (by decide) h_8 ?_
        refine z_aload_n (M := M_X12_isSooner) dX12_isSooner_43 rfl ?_
        refine z_getR (M := M_X12_isSooner) (ci := 15) (C := RX12) (T := TX12) (Nf := 135) (ty := tyX12) cl15 dX12_isSooner_44 ly_277 74 (by decide) t_2465 rfl ?_
        refine z_iload_n (M := M_X12_isSooner) dX12_isSooner_47 rfl ?_
        obtain ⟨x_10, x_10_e, hi_11, H⟩ := rd_e H
        refine z_zald (M := M_X12_isSooner) dX12_isSooner_48 ly_322 rfl rfl rfl hi_11 x_10_e ?_
        rcases if_e H with ⟨h_12, H⟩ | ⟨h_12, H⟩
        · refine z_zeq_f (M := M_X12_isSooner) (tgt := 56) dX12_isSooner_49 (by decide) h_12 ?_
          refine z_zconst (M := M_X12_isSooner) (b := true) dX12_isSooner_52 rfl ?_
          refine z_goto (M := M_X12_isSooner) (tgt := 57) dX12_isSooner_53 (by decide) ?_
          exact J_20 _ (Option.some.inj H).symm
        · refine z_zeq_t (M := M_X12_isSooner) (tgt := 56) dX12_isSooner_49 (by decide) h_12 ?_
          refine z_zconst (M := M_X12_isSooner) (b := false) dX12_isSooner_56 rfl ?_
          exact J_20 _ (Option.some.inj H).symm
    · refine z_lif_ne_t (M := M_X12_isSooner) (tgt := 56) dX12_isSooner_33 (by decide) rfl (by decide +kernel) h_7 ?_
      refine z_zconst (M := M_X12_isSooner) (b := false) dX12_isSooner_56 rfl ?_
      exact J_20 _ (Option.some.inj H).symm
theorem c_X12_link (hl : l.stackTraces = false) {σ : SG} {h_0 : Int} {σ' : SG}  (H : fR_link σ h_0 = some σ') : en_S l E M_X12_link 2 0 0 [vr 277, vi h_0] σ (pS (none) σ') := by
  unfold fR_link at H
  refine z_mk (lv := [some (vr 277), some (vi h_0), none]) m_X12_link rfl hl (Nat.le_of_ble_eq_true rfl) rfl ?_
  refine z_aload_n (M := M_X12_link) dX12_link_0 rfl ?_
  refine z_getI (M := M_X12_link) (ci := 15) (C := RX12) (T := TX12) (Nf := 135) (ty := tyX12) cl15 dX12_link_1 ly_277 75 (by decide) t_2466 rfl rfl ?_
  refine z_istore_n (M := M_X12_link) (lv' := [some (vr 277), some (vi h_0), some (vi (σ kR_chainMany 0))]) dX12_link_4 (Nat.le_of_ble_eq_true rfl) rfl rfl ?_
  obtain ⟨rl_6, hw_3, hk_4⟩ := bd_e H
  have J_52 : ∀ k_41 σ_42, rl_6 = (k_41, σ_42) → YY l E M_X12_link 2 0 0 (pS (none) σ') 81 [some (vr 277), some (vi h_0), some (vi k_41)] [] σ_42 0 0 := by
    intro k_41 σ_42 e
    have H := hk_4
    rw [e] at H
    refine z_aload_n (M := M_X12_link) dX12_link_81 rfl ?_
    refine z_getR (M := M_X12_link) (ci := 15) (C := RX12) (T := TX12) (Nf := 135) (ty := tyX12) cl15 dX12_link_82 ly_277 71 (by decide) t_2462 rfl ?_
    refine z_iload_n (M := M_X12_link) dX12_link_85 rfl ?_
    refine z_iload_n (M := M_X12_link) dX12_link_86 rfl ?_
    obtain ⟨σ_43, σ_43_e, hi_44, H⟩ := wa_e H
    refine z_iast (M := M_X12_link) dX12_link_87 ly_319 rfl rfl rfl hi_44 σ_43_e ?_
    refine z_aload_n (M := M_X12_link) dX12_link_88 rfl ?_
    refine z_getR (M := M_X12_link) (ci := 15) (C := RX12) (T := TX12) (Nf := 135) (ty := tyX12) cl15 dX12_link_89 ly_277 72 (by decide) t_2463 rfl ?_
    refine z_iload_n (M := M_X12_link) dX12_link_92 rfl ?_
    refine z_aload_n (M := M_X12_link) dX12_link_93 rfl ?_
    refine z_getL (M := M_X12_link) (ci := 15) (C := RX12) (T := TX12) (Nf := 135) (ty := tyX12) cl15 dX12_link_94 ly_277 76 (by decide) t_2467 rfl rfl ?_
    obtain ⟨σ_45, σ_45_e, hi_46, H⟩ := wa_e H
    refine z_last (M := M_X12_link) dX12_link_97 ly_320 rfl rfl rfl hi_46 σ_45_e ?_
    refine z_aload_n (M := M_X12_link) dX12_link_98 rfl ?_
    refine z_getR (M := M_X12_link) (ci := 15) (C := RX12) (T := TX12) (Nf := 135) (ty := tyX12) cl15 dX12_link_99 ly_277 73 (by decide) t_2464 rfl ?_
    refine z_iload_n (M := M_X12_link) dX12_link_102 rfl ?_
    refine z_aload_n (M := M_X12_link) dX12_link_103 rfl ?_
    refine z_getL (M := M_X12_link) (ci := 15) (C := RX12) (T := TX12) (Nf := 135) (ty := tyX12) cl15 dX12_link_104 ly_277 77 (by decide) t_2468 rfl rfl ?_
    obtain ⟨σ_47, σ_47_e, hi_48, H⟩ := wa_e H
    refine z_last (M := M_X12_link) dX12_link_107 ly_321 rfl rfl rfl hi_48 σ_47_e ?_
    refine z_aload_n (M := M_X12_link) dX12_link_108 rfl ?_
    refine z_getR (M := M_X12_link) (ci := 15) (C := RX12) (T := TX12) (Nf := 135) (ty := tyX12) cl15 dX12_link_109 ly_277 74 (by decide) t_2465 rfl ?_
    refine z_iload_n (M := M_X12_link) dX12_link_112 rfl ?_
    refine z_aload_n (M := M_X12_link) dX12_link_113 rfl ?_
    refine z_getZ (M := M_X12_link) (ci := 15) (C := RX12) (T := TX12) (Nf := 135) (ty := tyX12) cl15 dX12_link_114 ly_277 78 (by decide) t_2469 rfl rfl ?_
    obtain ⟨σ_49, σ_49_e, hi_50, H⟩ := wa_e H
    refine z_zast (M := M_X12_link) dX12_link_117 ly_322 rfl rfl rfl hi_50 σ_49_e ?_
    refine z_aload_n (M := M_X12_link) dX12_link_118 rfl ?_
    refine z_dup (M := M_X12_link) dX12_link_119 rfl ?_
    refine z_getI (M := M_X12_link) (ci := 15) (C := RX12) (T := TX12) (Nf := 135) (ty := tyX12) cl15 dX12_link_120 ly_277 75 (by decide) t_2466 rfl rfl ?_
    refine z_iconst (M := M_X12_link) dX12_link_123 ?_
    refine z_iadd (M := M_X12_link) dX12_link_124 ?_
    obtain ⟨σ_51, σ_51_e, H⟩ := wf_e H
    refine z_putI (M := M_X12_link) (ci := 15) (C := RX12) (T := TX12) (Nf := 135) (ty := tyX12) cl15 dX12_link_125 ly_277 75 (by decide) t_2466 rfl rfl rfl rfl σ_51_e ?_
    cases H
    exact z_vret (M := M_X12_link) dX12_link_128 rfl (Nat.le_of_ble_eq_true rfl) (Nat.le_of_ble_eq_true rfl) ⟨rfl, rfl⟩
  refine whl_go hw_3 (fun (k_1, σ_2) => YY l E M_X12_link 2 0 0 (pS (none) σ') 5 [some (vr 277), some (vi h_0), some (vi k_1)] [] σ_2 0 0) ?_
  rintro ⟨k_1, σ_2⟩ o_7 H K_8 K_9
  refine z_iload_n (M := M_X12_link) dX12_link_5 rfl ?_
  rcases if_e H with ⟨h_18, H⟩ | ⟨h_18, H⟩
  · refine z_if_le_f (M := M_X12_link) (tgt := 81) dX12_link_6 (by decide) rfl h_18 ?_
    refine z_aload_n (M := M_X12_link) dX12_link_9 rfl ?_
    refine z_iload_n (M := M_X12_link) dX12_link_10 rfl ?_
    refine z_iconst (M := M_X12_link) dX12_link_11 ?_
    refine z_isub (M := M_X12_link) dX12_link_12 ?_
    obtain ⟨x_20, hc_19, H⟩ := bd_e H
    refine z_callV (M := M_X12_link) (M' := M_X12_isSooner) (as := [vi (k_1 - 1)]) (rest := []) rfl rfl dX12_link_13 m_X12_isSooner t_3412 t_3414 s_263 (c_X12_isSooner hl  hc_19) rfl rfl ly_277 rfl (Nat.le_of_ble_eq_true rfl) (Nat.le_of_ble_eq_true rfl) (Nat.le_of_ble_eq_true rfl) (Nat.le_of_ble_eq_true rfl) ?_
    refine z_st (st' := [zv x_20]) rfl ?_
    rcases if_e H with ⟨h_21, H⟩ | ⟨h_21, H⟩
    · refine z_zeq_f (M := M_X12_link) (tgt := 81) dX12_link_16 (by decide) h_21 ?_
      refine z_aload_n (M := M_X12_link) dX12_link_19 rfl ?_
      refine z_getR (M := M_X12_link) (ci := 15) (C := RX12) (T := TX12) (Nf := 135) (ty := tyX12) cl15 dX12_link_20 ly_277 71 (by decide) t_2462 rfl ?_
      refine z_iload_n (M := M_X12_link) dX12_link_23 rfl ?_
      refine z_aload_n (M := M_X12_link) dX12_link_24 rfl ?_
      refine z_getR (M := M_X12_link) (ci := 15) (C := RX12) (T := TX12) (Nf := 135) (ty := tyX12) cl15 dX12_link_25 ly_277 71 (by decide) t_2462 rfl ?_
      refine z_iload_n (M := M_X12_link) dX12_link_28 rfl ?_
      refine z_iconst (M := M_X12_link) dX12_link_29 ?_
      refine z_isub (M := M_X12_link) dX12_link_30 ?_
      obtain ⟨x_22, x_22_e, hi_23, H⟩ := rd_e H
      refine z_iald (M := M_X12_link) dX12_link_31 ly_319 rfl rfl rfl hi_23 x_22_e ?_
      obtain ⟨σ_24, σ_24_e, hi_25, H⟩ := wa_e H
      refine z_iast (M := M_X12_link) dX12_link_32 ly_319 rfl rfl rfl hi_25 σ_24_e ?_
      refine z_aload_n (M := M_X12_link) dX12_link_33 rfl ?_
      refine z_getR (M := M_X12_link) (ci := 15) (C := RX12) (T := TX12) (Nf := 135) (ty := tyX12) cl15 dX12_link_34 ly_277 72 (by decide) t_2463 rfl ?_
      refine z_iload_n (M := M_X12_link) dX12_link_37 rfl ?_
      refine z_aload_n (M := M_X12_link) dX12_link_38 rfl ?_
      refine z_getR (M := M_X12_link) (ci := 15) (C := RX12) (T := TX12) (Nf := 135) (ty := tyX12) cl15 dX12_link_39 ly_277 72 (by decide) t_2463 rfl ?_
      refine z_iload_n (M := M_X12_link) dX12_link_42 rfl ?_
      refine z_iconst (M := M_X12_link) dX12_link_43 ?_
      refine z_isub (M := M_X12_link) dX12_link_44 ?_
      obtain ⟨x_26, x_26_e, hi_27, H⟩ := rd_e H
      refine z_lald (M := M_X12_link) dX12_link_45 ly_320 rfl rfl rfl hi_27 x_26_e ?_
      obtain ⟨σ_28, σ_28_e, hi_29, H⟩ := wa_e H
      refine z_last (M := M_X12_link) dX12_link_46 ly_320 rfl rfl rfl hi_29 σ_28_e ?_
      refine z_aload_n (M := M_X12_link) dX12_link_47 rfl ?_
      refine z_getR (M := M_X12_link) (ci := 15) (C := RX12) (T := TX12) (Nf := 135) (ty := tyX12) cl15 dX12_link_48 ly_277 73 (by decide) t_2464 rfl ?_
      refine z_iload_n (M := M_X12_link) dX12_link_51 rfl ?_
      refine z_aload_n (M := M_X12_link) dX12_link_52 rfl ?_
      refine z_getR (M := M_X12_link) (ci := 15) (C := RX12) (T := TX12) (Nf := 135) (ty := tyX12) cl15 dX12_link_53 ly_277 73 (by decide) t_2464 rfl ?_
      refine z_iload_n (M := M_X12_link) dX12_link_56 rfl ?_
      refine z_iconst (M := M_X12_link) dX12_link_57 ?_
      refine z_isub (M := M_X12_link) dX12_link_58 ?_
      obtain ⟨x_30, x_30_e, hi_31, H⟩ := rd_e H
      refine z_lald (M := M_X12_link) dX12_link_59 ly_321 rfl rfl rfl hi_31 x_30_e ?_
      obtain ⟨σ_32, σ_32_e, hi_33, H⟩ := wa_e H
      refine z_last (M := M_X12_link) dX12_link_60 ly_321 rfl rfl rfl hi_33 σ_32_e ?_
      refine z_aload_n (M := M_X12_link) dX12_link_61 rfl ?_
      refine z_getR (M := M_X12_link) (ci := 15) (C := RX12) (T := TX12) (Nf := 135) (ty := tyX12) cl15 dX12_link_62 ly_277 74 (by decide) t_2465 rfl ?_
      refine z_iload_n (M := M_X12_link) dX12_link_65 rfl ?_
      refine z_aload_n (M := M_X12_link) dX12_link_66 rfl ?_
      refine z_getR (M := M_X12_link) (ci := 15) (C := RX12) (T := TX12) (Nf := 135) (ty := tyX12) cl15 dX12_link_67 ly_277 74 (by decide) t_2465 rfl ?_
      refine z_iload_n (M := M_X12_link) dX12_link_70 rfl ?_
      refine z_iconst (M := M_X12_link) dX12_link_71 ?_
      refine z_isub (M := M_X12_link) dX12_link_72 ?_
      obtain ⟨x_34, x_34_e, hi_35, H⟩ := rd_e H
      refine z_zald (M := M_X12_link) dX12_link_73 ly_322 rfl rfl rfl hi_35 x_34_e ?_
      obtain ⟨σ_36, σ_36_e, hi_37, H⟩ := wa_e H
      refine z_zast (M := M_X12_link) dX12_link_74 ly_322 rfl rfl rfl hi_37 σ_36_e ?_
      refine z_iinc (M := M_X12_link) (lv' := [some (vr 277), some (vi h_0), some (vi (k_1 + (-1)))]) dX12_link_75 rfl (Nat.le_of_ble_eq_true rfl) rfl rfl ?_
      refine z_goto (M := M_X12_link) (tgt := 5) dX12_link_78 (by decide) ?_
      exact K_8 _ (Option.some.inj H).symm
    · refine z_zeq_t (M := M_X12_link) (tgt := 81) dX12_link_16 (by decide) h_21 ?_
      exact J_52 _ _ (K_9 _ (Option.some.inj H).symm).symm
  · refine z_if_le_t (M := M_X12_link) (tgt := 81) dX12_link_6 (by decide) rfl (Int.not_lt.mp h_18) ?_
    exact J_52 _ _ (K_9 _ (Option.some.inj H).symm).symm
theorem c_X12_addPiece (hl : l.stackTraces = false) {σ : SG} {from_0 : Int} {to_0 : Int} {bit_0 : Int} {σ' : SG}  (H : fR_addPiece σ from_0 to_0 bit_0 = some σ') : en_S l E M_X12_addPiece 2 0 0 [vr 277, vi from_0, vi to_0, vi bit_0] σ (pS (none) σ') := by
  unfold fR_addPiece at H
  refine z_mk (lv := [some (vr 277), some (vi from_0), some (vi to_0), some (vi bit_0), none, none, none, none, none]) m_X12_addPiece rfl hl (Nat.le_of_ble_eq_true rfl) rfl ?_
  have J_1 : YY l E M_X12_addPiece 2 0 0 (pS (none) σ') 10 [some (vr 277), some (vi from_0), some (vi to_0), some (vi bit_0), none, none, none, none, none] [vi (if (w32 from_0) < (w32 to_0) then from_0 else to_0)] σ 0 0 := by
    refine z_istore (M := M_X12_addPiece) (lv' := [some (vr 277), some (vi from_0), some (vi to_0), some (vi bit_0), some (vi (if (w32 from_0) < (w32 to_0) then from_0 else to_0)), none, none, none, none]) dX12_addPiece_10 (Nat.le_of_ble_eq_true rfl) rfl rfl ?_
    have J_2 : YY l E M_X12_addPiece 2 0 0 (pS (none) σ') 22 [some (vr 277), some (vi from_0), some (vi to_0), some (vi bit_0), some (vi (if (w32 from_0) < (w32 to_0) then from_0 else to_0)), none, none, none, none] [vi (if (w32 from_0) < (w32 to_0) then to_0 else from_0)] σ 0 0 := by
      refine z_istore (M := M_X12_addPiece) (lv' := [some (vr 277), some (vi from_0), some (vi to_0), some (vi bit_0), some (vi (if (w32 from_0) < (w32 to_0) then from_0 else to_0)), some (vi (if (w32 from_0) < (w32 to_0) then to_0 else from_0)), none, none, none]) dX12_addPiece_22 (Nat.le_of_ble_eq_true rfl) rfl rfl ?_
      refine z_iconst (M := M_X12_addPiece) dX12_addPiece_24 ?_
      refine z_istore (M := M_X12_addPiece) (lv' := [some (vr 277), some (vi from_0), some (vi to_0), some (vi bit_0), some (vi (if (w32 from_0) < (w32 to_0) then from_0 else to_0)), some (vi (if (w32 from_0) < (w32 to_0) then to_0 else from_0)), some (vi 0), none, none]) dX12_addPiece_25 (Nat.le_of_ble_eq_true rfl) rfl rfl ?_
      refine z_aload_n (M := M_X12_addPiece) dX12_addPiece_27 rfl ?_
      refine z_getI (M := M_X12_addPiece) (ci := 15) (C := RX12) (T := TX12) (Nf := 135) (ty := tyX12) cl15 dX12_addPiece_28 ly_277 85 (by decide) t_2476 rfl rfl ?_
      refine z_istore (M := M_X12_addPiece) (lv' := [some (vr 277), some (vi from_0), some (vi to_0), some (vi bit_0), some (vi (if (w32 from_0) < (w32 to_0) then from_0 else to_0)), some (vi (if (w32 from_0) < (w32 to_0) then to_0 else from_0)), some (vi 0), some (vi (σ kR_pieces 0)), none]) dX12_addPiece_31 (Nat.le_of_ble_eq_true rfl) rfl rfl ?_
      obtain ⟨rl_8, hw_5, hk_6⟩ := bd_e H
      have J_140 : ∀ low_29 high_30, rl_8 = (low_29, high_30) → YY l E M_X12_addPiece 2 0 0 (pS (none) σ') 93 [some (vr 277), some (vi from_0), some (vi to_0), some (vi bit_0), some (vi (if (w32 from_0) < (w32 to_0) then from_0 else to_0)), some (vi (if (w32 from_0) < (w32 to_0) then to_0 else from_0)), some (vi low_29), some (vi high_30), none] [] σ 0 0 := by
        intro low_29 high_30 e
        have H := hk_6
        rw [e] at H
        obtain ⟨v_34, he_31, hk_32⟩ := bd_e H
        have J_139 : ∀ σ_134, v_34 = σ_134 → YY l E M_X12_addPiece 2 0 0 (pS (none) σ') 229 [some (vr 277), some (vi from_0), some (vi to_0), some (vi bit_0), some (vi (if (w32 from_0) < (w32 to_0) then from_0 else to_0)), some (vi (if (w32 from_0) < (w32 to_0) then to_0 else from_0)), some (vi low_29), some (vi high_30), none] [] σ_134 0 0 := by
          intro σ_134 e
          have H := hk_32
          rw [e] at H
          refine z_aload_n (M := M_X12_addPiece) dX12_addPiece_229 rfl ?_
          refine z_getR (M := M_X12_addPiece) (ci := 15) (C := RX12) (T := TX12) (Nf := 135) (ty := tyX12) cl15 dX12_addPiece_230 ly_277 84 (by decide) t_2475 rfl ?_
          refine z_iload (M := M_X12_addPiece) dX12_addPiece_233 rfl ?_
          refine z_dup2 (M := M_X12_addPiece) dX12_addPiece_235 rfl rfl ?_
          obtain ⟨x_135, x_135_e, hi_136, H⟩ := rd_e H
          refine z_iald (M := M_X12_addPiece) dX12_addPiece_236 ly_325 rfl rfl rfl hi_136 x_135_e ?_
          refine z_iload_n (M := M_X12_addPiece) dX12_addPiece_237 rfl ?_
          refine z_ixor (M := M_X12_addPiece) dX12_addPiece_238 ?_
          obtain ⟨σ_137, σ_137_e, hi_138, H⟩ := wa_e H
          refine z_iast (M := M_X12_addPiece) dX12_addPiece_239 ly_325 rfl rfl rfl hi_138 σ_137_e ?_
          cases H
          exact z_vret (M := M_X12_addPiece) dX12_addPiece_240 rfl (Nat.le_of_ble_eq_true rfl) (Nat.le_of_ble_eq_true rfl) ⟨rfl, rfl⟩
        have H := he_31
        obtain ⟨v_129, he_130, hk_131⟩ := bd_e H
        have J_132 : v_129 = true → YY l E M_X12_addPiece 2 0 0 (pS (none) σ') 126 [some (vr 277), some (vi from_0), some (vi to_0), some (vi bit_0), some (vi (if (w32 from_0) < (w32 to_0) then from_0 else to_0)), some (vi (if (w32 from_0) < (w32 to_0) then to_0 else from_0)), some (vi low_29), some (vi high_30), none] [] σ 0 0 := by
          intro e
          have H := hk_131
          rw [e] at H
          rcases if_e H with ⟨_, H⟩ | ⟨q, H⟩
          · refine z_aload_n (M := M_X12_addPiece) dX12_addPiece_126 rfl ?_
            refine z_getI (M := M_X12_addPiece) (ci := 15) (C := RX12) (T := TX12) (Nf := 135) (ty := tyX12) cl15 dX12_addPiece_127 ly_277 85 (by decide) t_2476 rfl rfl ?_
            refine z_istore (M := M_X12_addPiece) (lv' := [some (vr 277), some (vi from_0), some (vi to_0), some (vi bit_0), some (vi (if (w32 from_0) < (w32 to_0) then from_0 else to_0)), some (vi (if (w32 from_0) < (w32 to_0) then to_0 else from_0)), some (vi low_29), some (vi high_30), some (vi (σ kR_pieces 0))]) dX12_addPiece_130 (Nat.le_of_ble_eq_true rfl) rfl rfl ?_
            obtain ⟨rl_98, hw_95, hk_96⟩ := bd_e H
            have J_127 : ∀ k_117 σ_118, rl_98 = (k_117, σ_118) → YY l E M_X12_addPiece 2 0 0 (pS (none) σ') 193 [some (vr 277), some (vi from_0), some (vi to_0), some (vi bit_0), some (vi (if (w32 from_0) < (w32 to_0) then from_0 else to_0)), some (vi (if (w32 from_0) < (w32 to_0) then to_0 else from_0)), some (vi low_29), some (vi high_30), some (vi k_117)] [] σ_118 0 0 := by
              intro k_117 σ_118 e
              have H := hk_96
              rw [e] at H
              refine z_aload_n (M := M_X12_addPiece) dX12_addPiece_193 rfl ?_
              refine z_getR (M := M_X12_addPiece) (ci := 15) (C := RX12) (T := TX12) (Nf := 135) (ty := tyX12) cl15 dX12_addPiece_194 ly_277 82 (by decide) t_2473 rfl ?_
              refine z_iload (M := M_X12_addPiece) dX12_addPiece_197 rfl ?_
              refine z_iload (M := M_X12_addPiece) dX12_addPiece_199 rfl ?_
              obtain ⟨σ_119, σ_119_e, hi_120, H⟩ := wa_e H
              refine z_iast (M := M_X12_addPiece) dX12_addPiece_201 ly_323 rfl rfl rfl hi_120 σ_119_e ?_
              refine z_aload_n (M := M_X12_addPiece) dX12_addPiece_202 rfl ?_
              refine z_getR (M := M_X12_addPiece) (ci := 15) (C := RX12) (T := TX12) (Nf := 135) (ty := tyX12) cl15 dX12_addPiece_203 ly_277 83 (by decide) t_2474 rfl ?_
              refine z_iload (M := M_X12_addPiece) dX12_addPiece_206 rfl ?_
              refine z_iload (M := M_X12_addPiece) dX12_addPiece_208 rfl ?_
              obtain ⟨σ_121, σ_121_e, hi_122, H⟩ := wa_e H
              refine z_iast (M := M_X12_addPiece) dX12_addPiece_210 ly_324 rfl rfl rfl hi_122 σ_121_e ?_
              refine z_aload_n (M := M_X12_addPiece) dX12_addPiece_211 rfl ?_
              refine z_getR (M := M_X12_addPiece) (ci := 15) (C := RX12) (T := TX12) (Nf := 135) (ty := tyX12) cl15 dX12_addPiece_212 ly_277 84 (by decide) t_2475 rfl ?_
              refine z_iload (M := M_X12_addPiece) dX12_addPiece_215 rfl ?_
              refine z_iconst (M := M_X12_addPiece) dX12_addPiece_217 ?_
              obtain ⟨σ_123, σ_123_e, hi_124, H⟩ := wa_e H
              refine z_iast (M := M_X12_addPiece) dX12_addPiece_218 ly_325 rfl rfl rfl hi_124 σ_123_e ?_
              refine z_aload_n (M := M_X12_addPiece) dX12_addPiece_219 rfl ?_
              refine z_dup (M := M_X12_addPiece) dX12_addPiece_220 rfl ?_
              refine z_getI (M := M_X12_addPiece) (ci := 15) (C := RX12) (T := TX12) (Nf := 135) (ty := tyX12) cl15 dX12_addPiece_221 ly_277 85 (by decide) t_2476 rfl rfl ?_
              refine z_iconst (M := M_X12_addPiece) dX12_addPiece_224 ?_
              refine z_iadd (M := M_X12_addPiece) dX12_addPiece_225 ?_
              obtain ⟨σ_125, σ_125_e, H⟩ := wf_e H
              refine z_putI (M := M_X12_addPiece) (ci := 15) (C := RX12) (T := TX12) (Nf := 135) (ty := tyX12) cl15 dX12_addPiece_226 ly_277 85 (by decide) t_2476 rfl rfl rfl rfl σ_125_e ?_
              refine z_le (lv' := [some (vr 277), some (vi from_0), some (vi to_0), some (vi bit_0), some (vi (if (w32 from_0) < (w32 to_0) then from_0 else to_0)), some (vi (if (w32 from_0) < (w32 to_0) then to_0 else from_0)), some (vi low_29), some (vi high_30), none]) ⟨Or.inr rfl, Or.inr rfl, Or.inr rfl, Or.inr rfl, Or.inr rfl, Or.inr rfl, Or.inr rfl, Or.inr rfl, Or.inl rfl, trivial⟩ ?_
              exact J_139 _ (Option.some.inj H).symm
            refine whl_go hw_95 (fun (k_93, σ_94) => YY l E M_X12_addPiece 2 0 0 (pS (none) σ') 132 [some (vr 277), some (vi from_0), some (vi to_0), some (vi bit_0), some (vi (if (w32 from_0) < (w32 to_0) then from_0 else to_0)), some (vi (if (w32 from_0) < (w32 to_0) then to_0 else from_0)), some (vi low_29), some (vi high_30), some (vi k_93)] [] σ_94 0 0) ?_
            rintro ⟨k_93, σ_94⟩ o_99 H K_100 K_101
            refine z_iload (M := M_X12_addPiece) dX12_addPiece_132 rfl ?_
            refine z_iload (M := M_X12_addPiece) dX12_addPiece_134 rfl ?_
            rcases if_e H with ⟨h_102, H⟩ | ⟨h_102, H⟩
            · refine z_icmp_le_f (M := M_X12_addPiece) (tgt := 193) dX12_addPiece_136 (by decide) rfl rfl h_102 ?_
              refine z_aload_n (M := M_X12_addPiece) dX12_addPiece_139 rfl ?_
              refine z_getR (M := M_X12_addPiece) (ci := 15) (C := RX12) (T := TX12) (Nf := 135) (ty := tyX12) cl15 dX12_addPiece_140 ly_277 82 (by decide) t_2473 rfl ?_
              refine z_iload (M := M_X12_addPiece) dX12_addPiece_143 rfl ?_
              refine z_aload_n (M := M_X12_addPiece) dX12_addPiece_145 rfl ?_
              refine z_getR (M := M_X12_addPiece) (ci := 15) (C := RX12) (T := TX12) (Nf := 135) (ty := tyX12) cl15 dX12_addPiece_146 ly_277 82 (by decide) t_2473 rfl ?_
              refine z_iload (M := M_X12_addPiece) dX12_addPiece_149 rfl ?_
              refine z_iconst (M := M_X12_addPiece) dX12_addPiece_151 ?_
              refine z_isub (M := M_X12_addPiece) dX12_addPiece_152 ?_
              obtain ⟨x_103, x_103_e, hi_104, H⟩ := rd_e H
              refine z_iald (M := M_X12_addPiece) dX12_addPiece_153 ly_323 rfl rfl rfl hi_104 x_103_e ?_
              obtain ⟨σ_105, σ_105_e, hi_106, H⟩ := wa_e H
              refine z_iast (M := M_X12_addPiece) dX12_addPiece_154 ly_323 rfl rfl rfl hi_106 σ_105_e ?_
              refine z_aload_n (M := M_X12_addPiece) dX12_addPiece_155 rfl ?_
              refine z_getR (M := M_X12_addPiece) (ci := 15) (C := RX12) (T := TX12) (Nf := 135) (ty := tyX12) cl15 dX12_addPiece_156 ly_277 83 (by decide) t_2474 rfl ?_
              refine z_iload (M := M_X12_addPiece) dX12_addPiece_159 rfl ?_
              refine z_aload_n (M := M_X12_addPiece) dX12_addPiece_161 rfl ?_
              refine z_getR (M := M_X12_addPiece) (ci := 15) (C := RX12) (T := TX12) (Nf := 135) (ty := tyX12) cl15 dX12_addPiece_162 ly_277 83 (by decide) t_2474 rfl ?_
              refine z_iload (M := M_X12_addPiece) dX12_addPiece_165 rfl ?_
              refine z_iconst (M := M_X12_addPiece) dX12_addPiece_167 ?_
              refine z_isub (M := M_X12_addPiece) dX12_addPiece_168 ?_
              obtain ⟨x_107, x_107_e, hi_108, H⟩ := rd_e H
              refine z_iald (M := M_X12_addPiece) dX12_addPiece_169 ly_324 rfl rfl rfl hi_108 x_107_e ?_
              obtain ⟨σ_109, σ_109_e, hi_110, H⟩ := wa_e H
              refine z_iast (M := M_X12_addPiece) dX12_addPiece_170 ly_324 rfl rfl rfl hi_110 σ_109_e ?_
              refine z_aload_n (M := M_X12_addPiece) dX12_addPiece_171 rfl ?_
              refine z_getR (M := M_X12_addPiece) (ci := 15) (C := RX12) (T := TX12) (Nf := 135) (ty := tyX12) cl15 dX12_addPiece_172 ly_277 84 (by decide) t_2475 rfl ?_
              refine z_iload (M := M_X12_addPiece) dX12_addPiece_175 rfl ?_
              refine z_aload_n (M := M_X12_addPiece) dX12_addPiece_177 rfl ?_
              refine z_getR (M := M_X12_addPiece) (ci := 15) (C := RX12) (T := TX12) (Nf := 135) (ty := tyX12) cl15 dX12_addPiece_178 ly_277 84 (by decide) t_2475 rfl ?_
              refine z_iload (M := M_X12_addPiece) dX12_addPiece_181 rfl ?_
              refine z_iconst (M := M_X12_addPiece) dX12_addPiece_183 ?_
              refine z_isub (M := M_X12_addPiece) dX12_addPiece_184 ?_
              obtain ⟨x_111, x_111_e, hi_112, H⟩ := rd_e H
              refine z_iald (M := M_X12_addPiece) dX12_addPiece_185 ly_325 rfl rfl rfl hi_112 x_111_e ?_
              obtain ⟨σ_113, σ_113_e, hi_114, H⟩ := wa_e H
              refine z_iast (M := M_X12_addPiece) dX12_addPiece_186 ly_325 rfl rfl rfl hi_114 σ_113_e ?_
              refine z_iinc (M := M_X12_addPiece) (lv' := [some (vr 277), some (vi from_0), some (vi to_0), some (vi bit_0), some (vi (if (w32 from_0) < (w32 to_0) then from_0 else to_0)), some (vi (if (w32 from_0) < (w32 to_0) then to_0 else from_0)), some (vi low_29), some (vi high_30), some (vi (k_93 + (-1)))]) dX12_addPiece_187 rfl (Nat.le_of_ble_eq_true rfl) rfl rfl ?_
              refine z_goto (M := M_X12_addPiece) (tgt := 132) dX12_addPiece_190 (by decide) ?_
              exact K_100 _ (Option.some.inj H).symm
            · refine z_icmp_le_t (M := M_X12_addPiece) (tgt := 193) dX12_addPiece_136 (by decide) rfl rfl (Int.not_lt.mp h_102) ?_
              exact J_127 _ _ (K_101 _ (Option.some.inj H).symm).symm
          · exact absurd rfl q
        have J_133 : v_129 = false → YY l E M_X12_addPiece 2 0 0 (pS (none) σ') 229 [some (vr 277), some (vi from_0), some (vi to_0), some (vi bit_0), some (vi (if (w32 from_0) < (w32 to_0) then from_0 else to_0)), some (vi (if (w32 from_0) < (w32 to_0) then to_0 else from_0)), some (vi low_29), some (vi high_30), none] [] σ 0 0 := by
          intro e
          have H := hk_131
          rw [e] at H
          rcases if_e H with ⟨q, H⟩ | ⟨_, H⟩
          · exact nomatch q
          · exact J_139 _ (Option.some.inj H).symm
        have H := he_130
        refine z_iload (M := M_X12_addPiece) dX12_addPiece_93 rfl ?_
        refine z_aload_n (M := M_X12_addPiece) dX12_addPiece_95 rfl ?_
        refine z_getI (M := M_X12_addPiece) (ci := 15) (C := RX12) (T := TX12) (Nf := 135) (ty := tyX12) cl15 dX12_addPiece_96 ly_277 85 (by decide) t_2476 rfl rfl ?_
        rcases if_e H with ⟨h_81, H⟩ | ⟨h_81, H⟩
        · refine z_icmp_eq_t (M := M_X12_addPiece) (tgt := 126) dX12_addPiece_99 (by decide) rfl rfl h_81 ?_
          exact J_132 (Option.some.inj H).symm
        · refine z_icmp_eq_f (M := M_X12_addPiece) (tgt := 126) dX12_addPiece_99 (by decide) rfl rfl h_81 ?_
          refine z_aload_n (M := M_X12_addPiece) dX12_addPiece_102 rfl ?_
          refine z_getR (M := M_X12_addPiece) (ci := 15) (C := RX12) (T := TX12) (Nf := 135) (ty := tyX12) cl15 dX12_addPiece_103 ly_277 82 (by decide) t_2473 rfl ?_
          refine z_iload (M := M_X12_addPiece) dX12_addPiece_106 rfl ?_
          obtain ⟨x_83, x_83_e, hi_84, H⟩ := rd_e H
          refine z_iald (M := M_X12_addPiece) dX12_addPiece_108 ly_323 rfl rfl rfl hi_84 x_83_e ?_
          refine z_iload (M := M_X12_addPiece) dX12_addPiece_109 rfl ?_
          rcases if_e H with ⟨h_85, H⟩ | ⟨h_85, H⟩
          · refine z_icmp_ne_t (M := M_X12_addPiece) (tgt := 126) dX12_addPiece_111 (by decide) rfl rfl h_85 ?_
            exact J_132 (Option.some.inj H).symm
          · refine z_icmp_ne_f (M := M_X12_addPiece) (tgt := 126) dX12_addPiece_111 (by decide) rfl rfl (Decidable.not_not.mp h_85) ?_
            refine z_aload_n (M := M_X12_addPiece) dX12_addPiece_114 rfl ?_
            refine z_getR (M := M_X12_addPiece) (ci := 15) (C := RX12) (T := TX12) (Nf := 135) (ty := tyX12) cl15 dX12_addPiece_115 ly_277 83 (by decide) t_2474 rfl ?_
            refine z_iload (M := M_X12_addPiece) dX12_addPiece_118 rfl ?_
            obtain ⟨x_87, x_87_e, hi_88, H⟩ := rd_e H
            refine z_iald (M := M_X12_addPiece) dX12_addPiece_120 ly_324 rfl rfl rfl hi_88 x_87_e ?_
            refine z_iload (M := M_X12_addPiece) dX12_addPiece_121 rfl ?_
            rcases if_e H with ⟨h_89, H⟩ | ⟨h_89, H⟩
            · refine z_icmp_eq_f (M := M_X12_addPiece) (tgt := 229) dX12_addPiece_123 (by decide) rfl rfl h_89 ?_
              exact J_132 (Option.some.inj H).symm
            · refine z_icmp_eq_t (M := M_X12_addPiece) (tgt := 229) dX12_addPiece_123 (by decide) rfl rfl (Decidable.not_not.mp h_89) ?_
              exact J_133 (Option.some.inj H).symm
      refine whl_go hw_5 (fun (low_3, high_4) => YY l E M_X12_addPiece 2 0 0 (pS (none) σ') 33 [some (vr 277), some (vi from_0), some (vi to_0), some (vi bit_0), some (vi (if (w32 from_0) < (w32 to_0) then from_0 else to_0)), some (vi (if (w32 from_0) < (w32 to_0) then to_0 else from_0)), some (vi low_3), some (vi high_4), none] [] σ 0 0) ?_
      rintro ⟨low_3, high_4⟩ o_9 H K_10 K_11
      refine z_iload (M := M_X12_addPiece) dX12_addPiece_33 rfl ?_
      refine z_iload (M := M_X12_addPiece) dX12_addPiece_35 rfl ?_
      rcases if_e H with ⟨h_12, H⟩ | ⟨h_12, H⟩
      · refine z_icmp_ge_f (M := M_X12_addPiece) (tgt := 93) dX12_addPiece_37 (by decide) rfl rfl h_12 ?_
        refine z_iload (M := M_X12_addPiece) dX12_addPiece_40 rfl ?_
        refine z_iload (M := M_X12_addPiece) dX12_addPiece_42 rfl ?_
        refine z_iadd (M := M_X12_addPiece) dX12_addPiece_44 ?_
        refine z_iconst (M := M_X12_addPiece) dX12_addPiece_45 ?_
        refine z_idiv (M := M_X12_addPiece) dX12_addPiece_46 (by decide +kernel) ?_
        refine z_istore (M := M_X12_addPiece) (lv' := [some (vr 277), some (vi from_0), some (vi to_0), some (vi bit_0), some (vi (if (w32 from_0) < (w32 to_0) then from_0 else to_0)), some (vi (if (w32 from_0) < (w32 to_0) then to_0 else from_0)), some (vi low_3), some (vi high_4), some (vi (q_idv (low_3 + high_4) 2))]) dX12_addPiece_47 (Nat.le_of_ble_eq_true rfl) rfl rfl ?_
        obtain ⟨v_16, he_13, hk_14⟩ := bd_e H
        have J_27 : ∀ low_24 high_25, v_16 = (low_24, high_25) → YY l E M_X12_addPiece 2 0 0 (pS (none) σ') 90 [some (vr 277), some (vi from_0), some (vi to_0), some (vi bit_0), some (vi (if (w32 from_0) < (w32 to_0) then from_0 else to_0)), some (vi (if (w32 from_0) < (w32 to_0) then to_0 else from_0)), some (vi low_24), some (vi high_25), some (vi (q_idv (low_3 + high_4) 2))] [] σ 0 0 := by
          intro low_24 high_25 e
          have H := hk_14
          rw [e] at H
          refine z_goto (M := M_X12_addPiece) (tgt := 33) dX12_addPiece_90 (by decide) ?_
          refine z_le (lv' := [some (vr 277), some (vi from_0), some (vi to_0), some (vi bit_0), some (vi (if (w32 from_0) < (w32 to_0) then from_0 else to_0)), some (vi (if (w32 from_0) < (w32 to_0) then to_0 else from_0)), some (vi low_24), some (vi high_25), none]) ⟨Or.inr rfl, Or.inr rfl, Or.inr rfl, Or.inr rfl, Or.inr rfl, Or.inr rfl, Or.inr rfl, Or.inr rfl, Or.inl rfl, trivial⟩ ?_
          exact K_10 _ (Option.some.inj H).symm
        have H := he_13
        refine z_aload_n (M := M_X12_addPiece) dX12_addPiece_49 rfl ?_
        refine z_getR (M := M_X12_addPiece) (ci := 15) (C := RX12) (T := TX12) (Nf := 135) (ty := tyX12) cl15 dX12_addPiece_50 ly_277 82 (by decide) t_2473 rfl ?_
        refine z_iload (M := M_X12_addPiece) dX12_addPiece_53 rfl ?_
        obtain ⟨x_17, x_17_e, hi_18, H⟩ := rd_e H
        refine z_iald (M := M_X12_addPiece) dX12_addPiece_55 ly_323 rfl rfl rfl hi_18 x_17_e ?_
        refine z_i2l (M := M_X12_addPiece) dX12_addPiece_56 ?_
        refine z_aload_n (M := M_X12_addPiece) dX12_addPiece_57 rfl ?_
        refine z_getR (M := M_X12_addPiece) (ci := 15) (C := RX12) (T := TX12) (Nf := 135) (ty := tyX12) cl15 dX12_addPiece_58 ly_277 83 (by decide) t_2474 rfl ?_
        refine z_iload (M := M_X12_addPiece) dX12_addPiece_61 rfl ?_
        obtain ⟨x_19, x_19_e, hi_20, H⟩ := rd_e H
        refine z_iald (M := M_X12_addPiece) dX12_addPiece_63 ly_324 rfl rfl rfl hi_20 x_19_e ?_
        refine z_i2l (M := M_X12_addPiece) dX12_addPiece_64 ?_
        refine z_iload (M := M_X12_addPiece) dX12_addPiece_65 rfl ?_
        refine z_i2l (M := M_X12_addPiece) dX12_addPiece_67 ?_
        refine z_iload (M := M_X12_addPiece) dX12_addPiece_68 rfl ?_
        refine z_i2l (M := M_X12_addPiece) dX12_addPiece_70 ?_
        refine z_callS (M := M_X12_addPiece) (M' := M_X12_isBefore) (as := [vl (w32 x_17), vl (w32 x_19), vl (w32 (if (w32 from_0) < (w32 to_0) then from_0 else to_0)), vl (w32 (if (w32 from_0) < (w32 to_0) then to_0 else from_0))]) (rest := []) rfl rfl dX12_addPiece_71 m_X12_isBefore t_3275 t_3276 (c_X12_isBefore hl  rfl) rfl rfl (Nat.le_of_ble_eq_true rfl) (Nat.le_of_ble_eq_true rfl) (Nat.le_of_ble_eq_true rfl) (Nat.le_of_ble_eq_true rfl) ?_
        refine z_st (st' := [zv (fR_isBefore (w32 x_17) (w32 x_19) (w32 (if (w32 from_0) < (w32 to_0) then from_0 else to_0)) (w32 (if (w32 from_0) < (w32 to_0) then to_0 else from_0)))]) rfl ?_
        rcases if_e H with ⟨h_21, H⟩ | ⟨h_21, H⟩
        · refine z_zeq_f (M := M_X12_addPiece) (tgt := 86) dX12_addPiece_74 (by decide) h_21 ?_
          refine z_iload (M := M_X12_addPiece) dX12_addPiece_77 rfl ?_
          refine z_iconst (M := M_X12_addPiece) dX12_addPiece_79 ?_
          refine z_iadd (M := M_X12_addPiece) dX12_addPiece_80 ?_
          refine z_istore (M := M_X12_addPiece) (lv' := [some (vr 277), some (vi from_0), some (vi to_0), some (vi bit_0), some (vi (if (w32 from_0) < (w32 to_0) then from_0 else to_0)), some (vi (if (w32 from_0) < (w32 to_0) then to_0 else from_0)), some (vi ((q_idv (low_3 + high_4) 2) + 1)), some (vi high_4), some (vi (q_idv (low_3 + high_4) 2))]) dX12_addPiece_81 (Nat.le_of_ble_eq_true rfl) rfl rfl ?_
          refine z_goto (M := M_X12_addPiece) (tgt := 90) dX12_addPiece_83 (by decide) ?_
          exact J_27 _ _ (Option.some.inj H).symm
        · refine z_zeq_t (M := M_X12_addPiece) (tgt := 86) dX12_addPiece_74 (by decide) h_21 ?_
          refine z_iload (M := M_X12_addPiece) dX12_addPiece_86 rfl ?_
          refine z_istore (M := M_X12_addPiece) (lv' := [some (vr 277), some (vi from_0), some (vi to_0), some (vi bit_0), some (vi (if (w32 from_0) < (w32 to_0) then from_0 else to_0)), some (vi (if (w32 from_0) < (w32 to_0) then to_0 else from_0)), some (vi low_3), some (vi (q_idv (low_3 + high_4) 2)), some (vi (q_idv (low_3 + high_4) 2))]) dX12_addPiece_88 (Nat.le_of_ble_eq_true rfl) rfl rfl ?_
          exact J_27 _ _ (Option.some.inj H).symm
      · refine z_icmp_ge_t (M := M_X12_addPiece) (tgt := 93) dX12_addPiece_37 (by decide) rfl rfl (Int.not_lt.mp h_12) ?_
        exact J_140 _ _ (K_11 _ (Option.some.inj H).symm).symm
    refine z_iload_n (M := M_X12_addPiece) dX12_addPiece_12 rfl ?_
    refine z_iload_n (M := M_X12_addPiece) dX12_addPiece_13 rfl ?_
    by_cases h_141 : (w32 from_0) < (w32 to_0)
    · refine z_icmp_ge_f (M := M_X12_addPiece) (tgt := 21) dX12_addPiece_14 (by decide) rfl rfl h_141 ?_
      refine z_iload_n (M := M_X12_addPiece) dX12_addPiece_17 rfl ?_
      refine z_goto (M := M_X12_addPiece) (tgt := 22) dX12_addPiece_18 (by decide) ?_
      exact z_st (by rw [if_pos (c := (w32 from_0) < (w32 to_0)) h_141]) J_2
    · refine z_icmp_ge_t (M := M_X12_addPiece) (tgt := 21) dX12_addPiece_14 (by decide) rfl rfl (Int.not_lt.mp h_141) ?_
      refine z_iload_n (M := M_X12_addPiece) dX12_addPiece_21 rfl ?_
      exact z_st (by rw [if_neg (c := (w32 from_0) < (w32 to_0)) h_141]) J_2
  refine z_iload_n (M := M_X12_addPiece) dX12_addPiece_0 rfl ?_
  refine z_iload_n (M := M_X12_addPiece) dX12_addPiece_1 rfl ?_
  by_cases h_142 : (w32 from_0) < (w32 to_0)
  · refine z_icmp_ge_f (M := M_X12_addPiece) (tgt := 9) dX12_addPiece_2 (by decide) rfl rfl h_142 ?_
    refine z_iload_n (M := M_X12_addPiece) dX12_addPiece_5 rfl ?_
    refine z_goto (M := M_X12_addPiece) (tgt := 10) dX12_addPiece_6 (by decide) ?_
    exact z_st (by rw [if_pos (c := (w32 from_0) < (w32 to_0)) h_142]) J_1
  · refine z_icmp_ge_t (M := M_X12_addPiece) (tgt := 9) dX12_addPiece_2 (by decide) rfl rfl (Int.not_lt.mp h_142) ?_
    refine z_iload_n (M := M_X12_addPiece) dX12_addPiece_9 rfl ?_
    exact z_st (by rw [if_neg (c := (w32 from_0) < (w32 to_0)) h_142]) J_1
theorem c_X12_chains (hl : l.stackTraces = false) {σ : SG} {r : Bool} {σ' : SG}  (H : fR_chains σ = some (r, σ')) : en_S l E M_X12_chains 3 0 0 [vr 277] σ (pS (some (zv r)) σ') := by
  unfold fR_chains at H
  refine z_mk (lv := [some (vr 277), none, none, none, none, none, none, none]) m_X12_chains rfl hl (Nat.le_of_ble_eq_true rfl) rfl ?_
  refine z_aload_n (M := M_X12_chains) dX12_chains_0 rfl ?_
  refine z_iconst (M := M_X12_chains) dX12_chains_1 ?_
  obtain ⟨σ_1, σ_1_e, H⟩ := wf_e H
  refine z_putI (M := M_X12_chains) (ci := 15) (C := RX12) (T := TX12) (Nf := 135) (ty := tyX12) cl15 dX12_chains_2 ly_277 70 (by decide) t_2461 rfl rfl rfl rfl σ_1_e ?_
  refine z_aload_n (M := M_X12_chains) dX12_chains_5 rfl ?_
  refine z_iconst (M := M_X12_chains) dX12_chains_6 ?_
  obtain ⟨σ_2, σ_2_e, H⟩ := wf_e H
  refine z_putI (M := M_X12_chains) (ci := 15) (C := RX12) (T := TX12) (Nf := 135) (ty := tyX12) cl15 dX12_chains_7 ly_277 85 (by decide) t_2476 rfl rfl rfl rfl σ_2_e ?_
  refine z_iconst (M := M_X12_chains) dX12_chains_10 ?_
  refine z_istore_n (M := M_X12_chains) (lv' := [some (vr 277), some (vi 0), none, none, none, none, none, none]) dX12_chains_11 (Nat.le_of_ble_eq_true rfl) rfl rfl ?_
  obtain ⟨rl_8, hw_5, hk_6, hk_7⟩ := bx_e H
  have J_108 : ∀ i_106 σ_107, rl_8 = (.inl (i_106, σ_107)) → YY l E M_X12_chains 3 0 0 (pS (some (zv r)) σ') 223 [some (vr 277), some (vi i_106), none, none, none, none, none, none] [] σ_107 0 0 := by
    intro i_106 σ_107 e
    have H := hk_6 _ e
    refine z_zconst (M := M_X12_chains) (b := true) dX12_chains_223 rfl ?_
    cases H
    exact z_zret (M := M_X12_chains) dX12_chains_224 rfl (Nat.le_of_ble_eq_true rfl) (Nat.le_of_ble_eq_true rfl) ⟨rfl, rfl⟩
  refine whl_go hw_5 (fun (i_3, σ_4) => YY l E M_X12_chains 3 0 0 (pS (some (zv r)) σ') 12 [some (vr 277), some (vi i_3), none, none, none, none, none, none] [] σ_4 0 0) ?_
  rintro ⟨i_3, σ_4⟩ o_9 H K_10 K_11
  refine z_iload_n (M := M_X12_chains) dX12_chains_12 rfl ?_
  refine z_aload_n (M := M_X12_chains) dX12_chains_13 rfl ?_
  refine z_getI (M := M_X12_chains) (ci := 15) (C := RX12) (T := TX12) (Nf := 135) (ty := tyX12) cl15 dX12_chains_14 ly_277 48 (by decide) t_2439 rfl rfl ?_
  rcases if_e H with ⟨h_12, H⟩ | ⟨h_12, H⟩
  · refine z_icmp_ge_f (M := M_X12_chains) (tgt := 223) dX12_chains_17 (by decide) rfl rfl h_12 ?_
    refine z_aload_n (M := M_X12_chains) dX12_chains_20 rfl ?_
    refine z_iconst (M := M_X12_chains) dX12_chains_21 ?_
    obtain ⟨σ_13, σ_13_e, H⟩ := wf_e H
    refine z_putI (M := M_X12_chains) (ci := 15) (C := RX12) (T := TX12) (Nf := 135) (ty := tyX12) cl15 dX12_chains_22 ly_277 75 (by decide) t_2466 rfl rfl rfl rfl σ_13_e ?_
    obtain ⟨v_101, he_102, hk_103⟩ := bd_e H
    have J_104 : ∀ x_25, v_101 = x_25 → YY l E M_X12_chains 3 0 0 (pS (some (zv r)) σ') 56 [some (vr 277), some (vi i_3), none, none, none, none, none, none] [vl x_25] σ_13 0 0 := by
      intro x_25 e
      have H := hk_103
      rw [e] at H
      refine z_lstore_n (M := M_X12_chains) (lv' := [some (vr 277), some (vi i_3), some (vl x_25), none, none, none, none, none]) dX12_chains_56 (Nat.le_of_ble_eq_true rfl) rfl rfl ?_
      obtain ⟨v_97, he_98, hk_99⟩ := bd_e H
      have J_100 : ∀ x_37, v_97 = x_37 → YY l E M_X12_chains 3 0 0 (pS (some (zv r)) σ') 88 [some (vr 277), some (vi i_3), some (vl x_25), none, none, none, none, none] [vl x_37] σ_13 0 0 := by
        intro x_37 e
        have H := hk_99
        rw [e] at H
        refine z_lstore (M := M_X12_chains) (lv' := [some (vr 277), some (vi i_3), some (vl x_25), none, some (vl x_37), none, none, none]) dX12_chains_88 (Nat.le_of_ble_eq_true rfl) rfl rfl ?_
        refine z_aload_n (M := M_X12_chains) dX12_chains_90 rfl ?_
        refine z_lload (M := M_X12_chains) dX12_chains_91 rfl ?_
        refine z_ldc2 (M := M_X12_chains) (n := 2) dX12_chains_93 t_3091 (by decide +kernel) ?_
        refine z_ladd (M := M_X12_chains) dX12_chains_96 ?_
        refine z_ldc2 (M := M_X12_chains) (n := (-4000000000)) dX12_chains_97 t_3128 (by decide +kernel) ?_
        obtain ⟨x_39, hc_38, H⟩ := bd_e H
        refine z_callV (M := M_X12_chains) (M' := M_X12_hotAt) (as := [vl (x_37 + 2), vl (-4000000000)]) (rest := []) rfl rfl dX12_chains_100 m_X12_hotAt t_3381 t_3383 s_256 (c_X12_hotAt hl  hc_38) rfl rfl ly_277 rfl (Nat.le_of_ble_eq_true rfl) (Nat.le_of_ble_eq_true rfl) (Nat.le_of_ble_eq_true rfl) (Nat.le_of_ble_eq_true rfl) ?_
        refine z_st (st' := [vi x_39]) rfl ?_
        refine z_istore (M := M_X12_chains) (lv' := [some (vr 277), some (vi i_3), some (vl x_25), none, some (vl x_37), none, some (vi x_39), none]) dX12_chains_103 (Nat.le_of_ble_eq_true rfl) rfl rfl ?_
        refine z_aload_n (M := M_X12_chains) dX12_chains_105 rfl ?_
        refine z_lload_n (M := M_X12_chains) dX12_chains_106 rfl ?_
        refine z_lconst (M := M_X12_chains) (m := 1) dX12_chains_107 (by decide +kernel) ?_
        refine z_lsub (M := M_X12_chains) dX12_chains_108 ?_
        refine z_ldc2 (M := M_X12_chains) (n := (-4000000000)) dX12_chains_109 t_3128 (by decide +kernel) ?_
        obtain ⟨x_41, hc_40, H⟩ := bd_e H
        refine z_callV (M := M_X12_chains) (M' := M_X12_hotAt) (as := [vl (x_25 - 1), vl (-4000000000)]) (rest := []) rfl rfl dX12_chains_112 m_X12_hotAt t_3381 t_3383 s_256 (c_X12_hotAt hl  hc_40) rfl rfl ly_277 rfl (Nat.le_of_ble_eq_true rfl) (Nat.le_of_ble_eq_true rfl) (Nat.le_of_ble_eq_true rfl) (Nat.le_of_ble_eq_true rfl) ?_
        refine z_st (st' := [vi x_41]) rfl ?_
        refine z_istore (M := M_X12_chains) (lv' := [some (vr 277), some (vi i_3), some (vl x_25), none, some (vl x_37), none, some (vi x_39), some (vi x_41)]) dX12_chains_115 (Nat.le_of_ble_eq_true rfl) rfl rfl ?_
        obtain ⟨rl_47, hw_44, hk_45⟩ := bd_e H
        have J_96 : ∀ h_68 σ_69, rl_47 = (h_68, σ_69) → YY l E M_X12_chains 3 0 0 (pS (some (zv r)) σ') 146 [some (vr 277), some (vi i_3), some (vl x_25), none, some (vl x_37), none, some (vi x_39), some (vi h_68)] [] σ_69 0 0 := by
          intro h_68 σ_69 e
          have H := hk_45
          rw [e] at H
          refine z_aload_n (M := M_X12_chains) dX12_chains_146 rfl ?_
          refine z_dup (M := M_X12_chains) dX12_chains_147 rfl ?_
          refine z_getI (M := M_X12_chains) (ci := 15) (C := RX12) (T := TX12) (Nf := 135) (ty := tyX12) cl15 dX12_chains_148 ly_277 70 (by decide) t_2461 rfl rfl ?_
          refine z_aload_n (M := M_X12_chains) dX12_chains_151 rfl ?_
          refine z_getI (M := M_X12_chains) (ci := 15) (C := RX12) (T := TX12) (Nf := 135) (ty := tyX12) cl15 dX12_chains_152 ly_277 75 (by decide) t_2466 rfl rfl ?_
          refine z_iadd (M := M_X12_chains) dX12_chains_155 ?_
          obtain ⟨σ_70, σ_70_e, H⟩ := wf_e H
          refine z_putI (M := M_X12_chains) (ci := 15) (C := RX12) (T := TX12) (Nf := 135) (ty := tyX12) cl15 dX12_chains_156 ly_277 70 (by decide) t_2461 rfl rfl rfl rfl σ_70_e ?_
          refine z_aload_n (M := M_X12_chains) dX12_chains_159 rfl ?_
          refine z_getI (M := M_X12_chains) (ci := 15) (C := RX12) (T := TX12) (Nf := 135) (ty := tyX12) cl15 dX12_chains_160 ly_277 70 (by decide) t_2461 rfl rfl ?_
          refine z_sipush (M := M_X12_chains) dX12_chains_163 (by decide +kernel) ?_
          rcases if_e H with ⟨h_71, H⟩ | ⟨h_71, H⟩
          · refine z_icmp_le_f (M := M_X12_chains) (tgt := 171) dX12_chains_166 (by decide) rfl (by decide +kernel) h_71 ?_
            refine z_zconst (M := M_X12_chains) (b := false) dX12_chains_169 rfl ?_
            have H := congrArg some (hk_7 _ ((K_11 _ (Option.some.inj H).symm).symm))
            cases H
            exact z_zret (M := M_X12_chains) dX12_chains_170 rfl (Nat.le_of_ble_eq_true rfl) (Nat.le_of_ble_eq_true rfl) ⟨rfl, rfl⟩
          · refine z_icmp_le_t (M := M_X12_chains) (tgt := 171) dX12_chains_166 (by decide) rfl (by decide +kernel) (Int.not_lt.mp h_71) ?_
            refine z_iconst (M := M_X12_chains) dX12_chains_171 ?_
            refine z_istore (M := M_X12_chains) (lv' := [some (vr 277), some (vi i_3), some (vl x_25), none, some (vl x_37), none, some (vi x_39), some (vi 1)]) dX12_chains_172 (Nat.le_of_ble_eq_true rfl) rfl rfl ?_
            obtain ⟨rl_77, hw_74, hk_75⟩ := bd_e H
            have J_95 : ∀ k_92 σ_93, rl_77 = (k_92, σ_93) → YY l E M_X12_chains 3 0 0 (pS (some (zv r)) σ') 217 [some (vr 277), some (vi i_3), some (vl x_25), none, some (vl x_37), none, some (vi x_39), some (vi k_92)] [] σ_93 0 0 := by
              intro k_92 σ_93 e
              have H := hk_75
              rw [e] at H
              refine z_iinc (M := M_X12_chains) (lv' := [some (vr 277), some (vi (i_3 + 1)), some (vl x_25), none, some (vl x_37), none, some (vi x_39), some (vi k_92)]) dX12_chains_217 rfl (Nat.le_of_ble_eq_true rfl) rfl rfl ?_
              refine z_goto (M := M_X12_chains) (tgt := 12) dX12_chains_220 (by decide) ?_
              refine z_le (lv' := [some (vr 277), some (vi (i_3 + 1)), none, none, none, none, none, none]) ⟨Or.inr rfl, Or.inr rfl, Or.inl rfl, Or.inl rfl, Or.inl rfl, Or.inl rfl, Or.inl rfl, Or.inl rfl, trivial⟩ ?_
              exact K_10 _ (Option.some.inj H).symm
            refine whl_go hw_74 (fun (k_72, σ_73) => YY l E M_X12_chains 3 0 0 (pS (some (zv r)) σ') 174 [some (vr 277), some (vi i_3), some (vl x_25), none, some (vl x_37), none, some (vi x_39), some (vi k_72)] [] σ_73 0 0) ?_
            rintro ⟨k_72, σ_73⟩ o_78 H K_79 K_80
            refine z_iload (M := M_X12_chains) dX12_chains_174 rfl ?_
            refine z_aload_n (M := M_X12_chains) dX12_chains_176 rfl ?_
            refine z_getI (M := M_X12_chains) (ci := 15) (C := RX12) (T := TX12) (Nf := 135) (ty := tyX12) cl15 dX12_chains_177 ly_277 75 (by decide) t_2466 rfl rfl ?_
            rcases if_e H with ⟨h_81, H⟩ | ⟨h_81, H⟩
            · refine z_icmp_ge_f (M := M_X12_chains) (tgt := 217) dX12_chains_180 (by decide) rfl rfl h_81 ?_
              refine z_aload_n (M := M_X12_chains) dX12_chains_183 rfl ?_
              refine z_aload_n (M := M_X12_chains) dX12_chains_184 rfl ?_
              refine z_getR (M := M_X12_chains) (ci := 15) (C := RX12) (T := TX12) (Nf := 135) (ty := tyX12) cl15 dX12_chains_185 ly_277 71 (by decide) t_2462 rfl ?_
              refine z_iload (M := M_X12_chains) dX12_chains_188 rfl ?_
              refine z_iconst (M := M_X12_chains) dX12_chains_190 ?_
              refine z_isub (M := M_X12_chains) dX12_chains_191 ?_
              obtain ⟨x_82, x_82_e, hi_83, H⟩ := rd_e H
              refine z_iald (M := M_X12_chains) dX12_chains_192 ly_319 rfl rfl rfl hi_83 x_82_e ?_
              refine z_aload_n (M := M_X12_chains) dX12_chains_193 rfl ?_
              refine z_getR (M := M_X12_chains) (ci := 15) (C := RX12) (T := TX12) (Nf := 135) (ty := tyX12) cl15 dX12_chains_194 ly_277 71 (by decide) t_2462 rfl ?_
              refine z_iload (M := M_X12_chains) dX12_chains_197 rfl ?_
              obtain ⟨x_84, x_84_e, hi_85, H⟩ := rd_e H
              refine z_iald (M := M_X12_chains) dX12_chains_199 ly_319 rfl rfl rfl hi_85 x_84_e ?_
              refine z_iconst (M := M_X12_chains) dX12_chains_200 ?_
              refine z_aload_n (M := M_X12_chains) dX12_chains_201 rfl ?_
              refine z_getR (M := M_X12_chains) (ci := 15) (C := RX12) (T := TX12) (Nf := 135) (ty := tyX12) cl15 dX12_chains_202 ly_277 47 (by decide) t_2438 rfl ?_
              refine z_iload_n (M := M_X12_chains) dX12_chains_205 rfl ?_
              obtain ⟨x_86, x_86_e, hi_87, H⟩ := rd_e H
              refine z_iald (M := M_X12_chains) dX12_chains_206 ly_305 rfl rfl rfl hi_87 x_86_e ?_
              refine z_ishl (M := M_X12_chains) dX12_chains_207 ?_
              obtain ⟨σ_89, hc_88, H⟩ := bd_e H
              refine z_callV (M := M_X12_chains) (M' := M_X12_addPiece) (as := [vi x_82, vi x_84, vi (q_isl 1 x_86)]) (rest := []) rfl rfl dX12_chains_208 m_X12_addPiece t_3416 t_3418 s_264 (c_X12_addPiece hl  hc_88) rfl rfl ly_277 rfl (Nat.le_of_ble_eq_true rfl) (Nat.le_of_ble_eq_true rfl) (Nat.le_of_ble_eq_true rfl) (Nat.le_of_ble_eq_true rfl) ?_
              refine z_st (st' := []) rfl ?_
              refine z_iinc (M := M_X12_chains) (lv' := [some (vr 277), some (vi i_3), some (vl x_25), none, some (vl x_37), none, some (vi x_39), some (vi (k_72 + 1))]) dX12_chains_211 rfl (Nat.le_of_ble_eq_true rfl) rfl rfl ?_
              refine z_goto (M := M_X12_chains) (tgt := 174) dX12_chains_214 (by decide) ?_
              exact K_79 _ (Option.some.inj H).symm
            · refine z_icmp_ge_t (M := M_X12_chains) (tgt := 217) dX12_chains_180 (by decide) rfl rfl (Int.not_lt.mp h_81) ?_
              exact J_95 _ _ (K_80 _ (Option.some.inj H).symm).symm
        refine whl_go hw_44 (fun (h_42, σ_43) => YY l E M_X12_chains 3 0 0 (pS (some (zv r)) σ') 117 [some (vr 277), some (vi i_3), some (vl x_25), none, some (vl x_37), none, some (vi x_39), some (vi h_42)] [] σ_43 0 0) ?_
        rintro ⟨h_42, σ_43⟩ o_48 H K_49 K_50
        refine z_iload (M := M_X12_chains) dX12_chains_117 rfl ?_
        refine z_iload (M := M_X12_chains) dX12_chains_119 rfl ?_
        rcases if_e H with ⟨h_51, H⟩ | ⟨h_51, H⟩
        · refine z_icmp_ge_f (M := M_X12_chains) (tgt := 146) dX12_chains_121 (by decide) rfl rfl h_51 ?_
          obtain ⟨v_55, he_52, hk_53⟩ := bd_e H
          have J_66 : ∀ σ_64, v_55 = σ_64 → YY l E M_X12_chains 3 0 0 (pS (some (zv r)) σ') 140 [some (vr 277), some (vi i_3), some (vl x_25), none, some (vl x_37), none, some (vi x_39), some (vi h_42)] [] σ_64 0 0 := by
            intro σ_64 e
            have H := hk_53
            rw [e] at H
            refine z_iinc (M := M_X12_chains) (lv' := [some (vr 277), some (vi i_3), some (vl x_25), none, some (vl x_37), none, some (vi x_39), some (vi (h_42 + 1))]) dX12_chains_140 rfl (Nat.le_of_ble_eq_true rfl) rfl rfl ?_
            refine z_goto (M := M_X12_chains) (tgt := 117) dX12_chains_143 (by decide) ?_
            exact K_49 _ (Option.some.inj H).symm
          have H := he_52
          refine z_aload_n (M := M_X12_chains) dX12_chains_124 rfl ?_
          refine z_iload_n (M := M_X12_chains) dX12_chains_125 rfl ?_
          refine z_iload (M := M_X12_chains) dX12_chains_126 rfl ?_
          obtain ⟨⟨x_58, σ_57⟩, hc_56, H⟩ := bd_e H
          refine z_callV (M := M_X12_chains) (M' := M_X12_meetsPixel) (as := [vi i_3, vi h_42]) (rest := []) rfl rfl dX12_chains_128 m_X12_meetsPixel t_3400 t_3402 s_260 (c_X12_meetsPixel hl  hc_56) rfl rfl ly_277 rfl (Nat.le_of_ble_eq_true rfl) (Nat.le_of_ble_eq_true rfl) (Nat.le_of_ble_eq_true rfl) (Nat.le_of_ble_eq_true rfl) ?_
          refine z_st (st' := [zv x_58]) rfl ?_
          rcases if_e H with ⟨h_59, H⟩ | ⟨h_59, H⟩
          · refine z_zeq_f (M := M_X12_chains) (tgt := 140) dX12_chains_131 (by decide) h_59 ?_
            refine z_aload_n (M := M_X12_chains) dX12_chains_134 rfl ?_
            refine z_iload (M := M_X12_chains) dX12_chains_135 rfl ?_
            obtain ⟨σ_61, hc_60, H⟩ := bd_e H
            refine z_callV (M := M_X12_chains) (M' := M_X12_link) (as := [vi h_42]) (rest := []) rfl rfl dX12_chains_137 m_X12_link t_3408 t_3410 s_262 (c_X12_link hl  hc_60) rfl rfl ly_277 rfl (Nat.le_of_ble_eq_true rfl) (Nat.le_of_ble_eq_true rfl) (Nat.le_of_ble_eq_true rfl) (Nat.le_of_ble_eq_true rfl) ?_
            refine z_st (st' := []) rfl ?_
            exact J_66 _ (Option.some.inj H).symm
          · refine z_zeq_t (M := M_X12_chains) (tgt := 140) dX12_chains_131 (by decide) h_59 ?_
            exact J_66 _ (Option.some.inj H).symm
        · refine z_icmp_ge_t (M := M_X12_chains) (tgt := 146) dX12_chains_121 (by decide) rfl rfl (Int.not_lt.mp h_51) ?_
          exact J_96 _ _ (K_50 _ (Option.some.inj H).symm).symm
      have H := he_98
      refine z_aload_n (M := M_X12_chains) dX12_chains_57 rfl ?_
      refine z_getR (M := M_X12_chains) (ci := 15) (C := RX12) (T := TX12) (Nf := 135) (ty := tyX12) cl15 dX12_chains_58 ly_277 41 (by decide) t_2432 rfl ?_
      refine z_iload_n (M := M_X12_chains) dX12_chains_61 rfl ?_
      obtain ⟨x_26, x_26_e, hi_27, H⟩ := rd_e H
      refine z_lald (M := M_X12_chains) dX12_chains_62 ly_299 rfl rfl rfl hi_27 x_26_e ?_
      refine z_aload_n (M := M_X12_chains) dX12_chains_63 rfl ?_
      refine z_getR (M := M_X12_chains) (ci := 15) (C := RX12) (T := TX12) (Nf := 135) (ty := tyX12) cl15 dX12_chains_64 ly_277 43 (by decide) t_2434 rfl ?_
      refine z_iload_n (M := M_X12_chains) dX12_chains_67 rfl ?_
      obtain ⟨x_28, x_28_e, hi_29, H⟩ := rd_e H
      refine z_lald (M := M_X12_chains) dX12_chains_68 ly_301 rfl rfl rfl hi_29 x_28_e ?_
      refine z_lcmp (M := M_X12_chains) dX12_chains_69 ?_
      rcases if_e H with ⟨h_30, H⟩ | ⟨h_30, H⟩
      · refine z_lif_ge_f (M := M_X12_chains) (tgt := 82) dX12_chains_70 (by decide) rfl rfl h_30 ?_
        refine z_aload_n (M := M_X12_chains) dX12_chains_73 rfl ?_
        refine z_getR (M := M_X12_chains) (ci := 15) (C := RX12) (T := TX12) (Nf := 135) (ty := tyX12) cl15 dX12_chains_74 ly_277 43 (by decide) t_2434 rfl ?_
        refine z_iload_n (M := M_X12_chains) dX12_chains_77 rfl ?_
        obtain ⟨x_31, x_31_e, hi_32, H⟩ := rd_e H
        refine z_lald (M := M_X12_chains) dX12_chains_78 ly_301 rfl rfl rfl hi_32 x_31_e ?_
        refine z_goto (M := M_X12_chains) (tgt := 88) dX12_chains_79 (by decide) ?_
        exact J_100 _ (Option.some.inj H).symm
      · refine z_lif_ge_t (M := M_X12_chains) (tgt := 82) dX12_chains_70 (by decide) rfl rfl (Int.not_lt.mp h_30) ?_
        refine z_aload_n (M := M_X12_chains) dX12_chains_82 rfl ?_
        refine z_getR (M := M_X12_chains) (ci := 15) (C := RX12) (T := TX12) (Nf := 135) (ty := tyX12) cl15 dX12_chains_83 ly_277 41 (by decide) t_2432 rfl ?_
        refine z_iload_n (M := M_X12_chains) dX12_chains_86 rfl ?_
        obtain ⟨x_34, x_34_e, hi_35, H⟩ := rd_e H
        refine z_lald (M := M_X12_chains) dX12_chains_87 ly_299 rfl rfl rfl hi_35 x_34_e ?_
        exact J_100 _ (Option.some.inj H).symm
    have H := he_102
    refine z_aload_n (M := M_X12_chains) dX12_chains_25 rfl ?_
    refine z_getR (M := M_X12_chains) (ci := 15) (C := RX12) (T := TX12) (Nf := 135) (ty := tyX12) cl15 dX12_chains_26 ly_277 41 (by decide) t_2432 rfl ?_
    refine z_iload_n (M := M_X12_chains) dX12_chains_29 rfl ?_
    obtain ⟨x_14, x_14_e, hi_15, H⟩ := rd_e H
    refine z_lald (M := M_X12_chains) dX12_chains_30 ly_299 rfl rfl rfl hi_15 x_14_e ?_
    refine z_aload_n (M := M_X12_chains) dX12_chains_31 rfl ?_
    refine z_getR (M := M_X12_chains) (ci := 15) (C := RX12) (T := TX12) (Nf := 135) (ty := tyX12) cl15 dX12_chains_32 ly_277 43 (by decide) t_2434 rfl ?_
    refine z_iload_n (M := M_X12_chains) dX12_chains_35 rfl ?_
    obtain ⟨x_16, x_16_e, hi_17, H⟩ := rd_e H
    refine z_lald (M := M_X12_chains) dX12_chains_36 ly_301 rfl rfl rfl hi_17 x_16_e ?_
    refine z_lcmp (M := M_X12_chains) dX12_chains_37 ?_
    rcases if_e H with ⟨h_18, H⟩ | ⟨h_18, H⟩
    · refine z_lif_ge_f (M := M_X12_chains) (tgt := 50) dX12_chains_38 (by decide) rfl rfl h_18 ?_
      refine z_aload_n (M := M_X12_chains) dX12_chains_41 rfl ?_
      refine z_getR (M := M_X12_chains) (ci := 15) (C := RX12) (T := TX12) (Nf := 135) (ty := tyX12) cl15 dX12_chains_42 ly_277 41 (by decide) t_2432 rfl ?_
      refine z_iload_n (M := M_X12_chains) dX12_chains_45 rfl ?_
      obtain ⟨x_19, x_19_e, hi_20, H⟩ := rd_e H
      refine z_lald (M := M_X12_chains) dX12_chains_46 ly_299 rfl rfl rfl hi_20 x_19_e ?_
      refine z_goto (M := M_X12_chains) (tgt := 56) dX12_chains_47 (by decide) ?_
      exact J_104 _ (Option.some.inj H).symm
    · refine z_lif_ge_t (M := M_X12_chains) (tgt := 50) dX12_chains_38 (by decide) rfl rfl (Int.not_lt.mp h_18) ?_
      refine z_aload_n (M := M_X12_chains) dX12_chains_50 rfl ?_
      refine z_getR (M := M_X12_chains) (ci := 15) (C := RX12) (T := TX12) (Nf := 135) (ty := tyX12) cl15 dX12_chains_51 ly_277 43 (by decide) t_2434 rfl ?_
      refine z_iload_n (M := M_X12_chains) dX12_chains_54 rfl ?_
      obtain ⟨x_22, x_22_e, hi_23, H⟩ := rd_e H
      refine z_lald (M := M_X12_chains) dX12_chains_55 ly_301 rfl rfl rfl hi_23 x_22_e ?_
      exact J_104 _ (Option.some.inj H).symm
  · refine z_icmp_ge_t (M := M_X12_chains) (tgt := 223) dX12_chains_17 (by decide) rfl rfl (Int.not_lt.mp h_12) ?_
    exact J_108 _ _ (K_11 _ (Option.some.inj H).symm).symm
theorem c_X12_insideOf (hl : l.stackTraces = false) {σ : SG} {piece_0 : Int} {below_0 : Bool} {r : Int}  (H : fR_insideOf σ piece_0 below_0 = some r) : en_S l E M_X12_insideOf 3 0 0 [vr 277, vi piece_0, zv below_0] σ (pS (some (vi r)) σ) := by
  unfold fR_insideOf at H
  refine z_mk (lv := [some (vr 277), some (vi piece_0), some (zv below_0), none, none, none, none, none, none, none, none, none, none, none, none, none]) m_X12_insideOf rfl hl (Nat.le_of_ble_eq_true rfl) rfl ?_
  refine z_aload_n (M := M_X12_insideOf) dX12_insideOf_0 rfl ?_
  refine z_getR (M := M_X12_insideOf) (ci := 15) (C := RX12) (T := TX12) (Nf := 135) (ty := tyX12) cl15 dX12_insideOf_1 ly_277 67 (by decide) t_2458 rfl ?_
  refine z_aload_n (M := M_X12_insideOf) dX12_insideOf_4 rfl ?_
  refine z_getR (M := M_X12_insideOf) (ci := 15) (C := RX12) (T := TX12) (Nf := 135) (ty := tyX12) cl15 dX12_insideOf_5 ly_277 82 (by decide) t_2473 rfl ?_
  refine z_iload_n (M := M_X12_insideOf) dX12_insideOf_8 rfl ?_
  obtain ⟨x_1, x_1_e, hi_2, H⟩ := rd_e H
  refine z_iald (M := M_X12_insideOf) dX12_insideOf_9 ly_323 rfl rfl rfl hi_2 x_1_e ?_
  obtain ⟨x_3, x_3_e, hi_4, H⟩ := rd_e H
  refine z_lald (M := M_X12_insideOf) dX12_insideOf_10 ly_317 rfl rfl rfl hi_4 x_3_e ?_
  refine z_aload_n (M := M_X12_insideOf) dX12_insideOf_11 rfl ?_
  refine z_getR (M := M_X12_insideOf) (ci := 15) (C := RX12) (T := TX12) (Nf := 135) (ty := tyX12) cl15 dX12_insideOf_12 ly_277 67 (by decide) t_2458 rfl ?_
  refine z_aload_n (M := M_X12_insideOf) dX12_insideOf_15 rfl ?_
  refine z_getR (M := M_X12_insideOf) (ci := 15) (C := RX12) (T := TX12) (Nf := 135) (ty := tyX12) cl15 dX12_insideOf_16 ly_277 83 (by decide) t_2474 rfl ?_
  refine z_iload_n (M := M_X12_insideOf) dX12_insideOf_19 rfl ?_
  obtain ⟨x_5, x_5_e, hi_6, H⟩ := rd_e H
  refine z_iald (M := M_X12_insideOf) dX12_insideOf_20 ly_324 rfl rfl rfl hi_6 x_5_e ?_
  obtain ⟨x_7, x_7_e, hi_8, H⟩ := rd_e H
  refine z_lald (M := M_X12_insideOf) dX12_insideOf_21 ly_317 rfl rfl rfl hi_8 x_7_e ?_
  refine z_ladd (M := M_X12_insideOf) dX12_insideOf_22 ?_
  refine z_lstore_n (M := M_X12_insideOf) (lv' := [some (vr 277), some (vi piece_0), some (zv below_0), some (vl (x_3 + x_7)), none, none, none, none, none, none, none, none, none, none, none, none]) dX12_insideOf_23 (Nat.le_of_ble_eq_true rfl) rfl rfl ?_
  refine z_aload_n (M := M_X12_insideOf) dX12_insideOf_24 rfl ?_
  refine z_getR (M := M_X12_insideOf) (ci := 15) (C := RX12) (T := TX12) (Nf := 135) (ty := tyX12) cl15 dX12_insideOf_25 ly_277 68 (by decide) t_2459 rfl ?_
  refine z_aload_n (M := M_X12_insideOf) dX12_insideOf_28 rfl ?_
  refine z_getR (M := M_X12_insideOf) (ci := 15) (C := RX12) (T := TX12) (Nf := 135) (ty := tyX12) cl15 dX12_insideOf_29 ly_277 82 (by decide) t_2473 rfl ?_
  refine z_iload_n (M := M_X12_insideOf) dX12_insideOf_32 rfl ?_
  obtain ⟨x_9, x_9_e, hi_10, H⟩ := rd_e H
  refine z_iald (M := M_X12_insideOf) dX12_insideOf_33 ly_323 rfl rfl rfl hi_10 x_9_e ?_
  obtain ⟨x_11, x_11_e, hi_12, H⟩ := rd_e H
  refine z_lald (M := M_X12_insideOf) dX12_insideOf_34 ly_318 rfl rfl rfl hi_12 x_11_e ?_
  refine z_aload_n (M := M_X12_insideOf) dX12_insideOf_35 rfl ?_
  refine z_getR (M := M_X12_insideOf) (ci := 15) (C := RX12) (T := TX12) (Nf := 135) (ty := tyX12) cl15 dX12_insideOf_36 ly_277 68 (by decide) t_2459 rfl ?_
  refine z_aload_n (M := M_X12_insideOf) dX12_insideOf_39 rfl ?_
  refine z_getR (M := M_X12_insideOf) (ci := 15) (C := RX12) (T := TX12) (Nf := 135) (ty := tyX12) cl15 dX12_insideOf_40 ly_277 83 (by decide) t_2474 rfl ?_
  refine z_iload_n (M := M_X12_insideOf) dX12_insideOf_43 rfl ?_
  obtain ⟨x_13, x_13_e, hi_14, H⟩ := rd_e H
  refine z_iald (M := M_X12_insideOf) dX12_insideOf_44 ly_324 rfl rfl rfl hi_14 x_13_e ?_
  obtain ⟨x_15, x_15_e, hi_16, H⟩ := rd_e H
  refine z_lald (M := M_X12_insideOf) dX12_insideOf_45 ly_318 rfl rfl rfl hi_16 x_15_e ?_
  refine z_ladd (M := M_X12_insideOf) dX12_insideOf_46 ?_
  refine z_lstore (M := M_X12_insideOf) (lv' := [some (vr 277), some (vi piece_0), some (zv below_0), some (vl (x_3 + x_7)), none, some (vl (x_11 + x_15)), none, none, none, none, none, none, none, none, none, none]) dX12_insideOf_47 (Nat.le_of_ble_eq_true rfl) rfl rfl ?_
  refine z_iconst (M := M_X12_insideOf) dX12_insideOf_49 ?_
  refine z_istore (M := M_X12_insideOf) (lv' := [some (vr 277), some (vi piece_0), some (zv below_0), some (vl (x_3 + x_7)), none, some (vl (x_11 + x_15)), none, some (vi 0), none, none, none, none, none, none, none, none]) dX12_insideOf_50 (Nat.le_of_ble_eq_true rfl) rfl rfl ?_
  refine z_iconst (M := M_X12_insideOf) dX12_insideOf_52 ?_
  refine z_istore (M := M_X12_insideOf) (lv' := [some (vr 277), some (vi piece_0), some (zv below_0), some (vl (x_3 + x_7)), none, some (vl (x_11 + x_15)), none, some (vi 0), some (vi 0), none, none, none, none, none, none, none]) dX12_insideOf_53 (Nat.le_of_ble_eq_true rfl) rfl rfl ?_
  obtain ⟨rl_22, hw_19, hk_20⟩ := bd_e H
  have J_125 : ∀ bits_123 k_124, rl_22 = (bits_123, k_124) → YY l E M_X12_insideOf 3 0 0 (pS (some (vi r)) σ) 296 [some (vr 277), some (vi piece_0), some (zv below_0), some (vl (x_3 + x_7)), none, some (vl (x_11 + x_15)), none, some (vi bits_123), some (vi k_124), none, none, none, none, none, none, none] [] σ 0 0 := by
    intro bits_123 k_124 e
    have H := hk_20
    rw [e] at H
    refine z_iload (M := M_X12_insideOf) dX12_insideOf_296 rfl ?_
    cases H
    exact z_iret (M := M_X12_insideOf) dX12_insideOf_298 rfl (Nat.le_of_ble_eq_true rfl) (Nat.le_of_ble_eq_true rfl) ⟨rfl, rfl⟩
  refine whl_go hw_19 (fun (bits_17, k_18) => YY l E M_X12_insideOf 3 0 0 (pS (some (vi r)) σ) 55 [some (vr 277), some (vi piece_0), some (zv below_0), some (vl (x_3 + x_7)), none, some (vl (x_11 + x_15)), none, some (vi bits_17), some (vi k_18), none, none, none, none, none, none, none] [] σ 0 0) ?_
  rintro ⟨bits_17, k_18⟩ o_23 H K_24 K_25
  refine z_iload (M := M_X12_insideOf) dX12_insideOf_55 rfl ?_
  refine z_aload_n (M := M_X12_insideOf) dX12_insideOf_57 rfl ?_
  refine z_getI (M := M_X12_insideOf) (ci := 15) (C := RX12) (T := TX12) (Nf := 135) (ty := tyX12) cl15 dX12_insideOf_58 ly_277 85 (by decide) t_2476 rfl rfl ?_
  rcases if_e H with ⟨h_26, H⟩ | ⟨h_26, H⟩
  · refine z_icmp_ge_f (M := M_X12_insideOf) (tgt := 296) dX12_insideOf_61 (by decide) rfl rfl h_26 ?_
    refine z_iload (M := M_X12_insideOf) dX12_insideOf_64 rfl ?_
    refine z_iload_n (M := M_X12_insideOf) dX12_insideOf_66 rfl ?_
    rcases if_e H with ⟨h_35, H⟩ | ⟨h_35, H⟩
    · refine z_icmp_eq_t (M := M_X12_insideOf) (tgt := 290) dX12_insideOf_67 (by decide) rfl rfl h_35 ?_
      refine z_iinc (M := M_X12_insideOf) (lv' := [some (vr 277), some (vi piece_0), some (zv below_0), some (vl (x_3 + x_7)), none, some (vl (x_11 + x_15)), none, some (vi bits_17), some (vi (k_18 + 1)), none, none, none, none, none, none, none]) dX12_insideOf_290 rfl (Nat.le_of_ble_eq_true rfl) rfl rfl ?_
      refine z_goto (M := M_X12_insideOf) (tgt := 55) dX12_insideOf_293 (by decide) ?_
      exact K_24 _ (Option.some.inj H).symm
    · refine z_icmp_eq_f (M := M_X12_insideOf) (tgt := 290) dX12_insideOf_67 (by decide) rfl rfl h_35 ?_
      refine z_aload_n (M := M_X12_insideOf) dX12_insideOf_70 rfl ?_
      refine z_getR (M := M_X12_insideOf) (ci := 15) (C := RX12) (T := TX12) (Nf := 135) (ty := tyX12) cl15 dX12_insideOf_71 ly_277 84 (by decide) t_2475 rfl ?_
      refine z_iload (M := M_X12_insideOf) dX12_insideOf_74 rfl ?_
      obtain ⟨x_37, x_37_e, hi_38, H⟩ := rd_e H
      refine z_iald (M := M_X12_insideOf) dX12_insideOf_76 ly_325 rfl rfl rfl hi_38 x_37_e ?_
      rcases if_e H with ⟨h_39, H⟩ | ⟨h_39, H⟩
      · refine z_if_ne_f (M := M_X12_insideOf) (tgt := 83) dX12_insideOf_77 (by decide) rfl h_39 ?_
        refine z_goto (M := M_X12_insideOf) (tgt := 290) dX12_insideOf_80 (by decide) ?_
        refine z_iinc (M := M_X12_insideOf) (lv' := [some (vr 277), some (vi piece_0), some (zv below_0), some (vl (x_3 + x_7)), none, some (vl (x_11 + x_15)), none, some (vi bits_17), some (vi (k_18 + 1)), none, none, none, none, none, none, none]) dX12_insideOf_290 rfl (Nat.le_of_ble_eq_true rfl) rfl rfl ?_
        refine z_goto (M := M_X12_insideOf) (tgt := 55) dX12_insideOf_293 (by decide) ?_
        exact K_24 _ (Option.some.inj H).symm
      · refine z_if_ne_t (M := M_X12_insideOf) (tgt := 83) dX12_insideOf_77 (by decide) rfl h_39 ?_
        obtain ⟨v_118, he_119, hk_120⟩ := bd_e H
        have J_121 : ∀ x_56, v_118 = x_56 → YY l E M_X12_insideOf 3 0 0 (pS (some (vi r)) σ) 128 [some (vr 277), some (vi piece_0), some (zv below_0), some (vl (x_3 + x_7)), none, some (vl (x_11 + x_15)), none, some (vi bits_17), some (vi k_18), none, none, none, none, none, none, none] [vi x_56] σ 0 0 := by
          intro x_56 e
          have H := hk_120
          rw [e] at H
          refine z_istore (M := M_X12_insideOf) (lv' := [some (vr 277), some (vi piece_0), some (zv below_0), some (vl (x_3 + x_7)), none, some (vl (x_11 + x_15)), none, some (vi bits_17), some (vi k_18), some (vi x_56), none, none, none, none, none, none]) dX12_insideOf_128 (Nat.le_of_ble_eq_true rfl) rfl rfl ?_
          obtain ⟨v_114, he_115, hk_116⟩ := bd_e H
          have J_117 : ∀ x_66, v_114 = x_66 → YY l E M_X12_insideOf 3 0 0 (pS (some (vi r)) σ) 159 [some (vr 277), some (vi piece_0), some (zv below_0), some (vl (x_3 + x_7)), none, some (vl (x_11 + x_15)), none, some (vi bits_17), some (vi k_18), some (vi x_56), none, none, none, none, none, none] [vi x_66] σ 0 0 := by
            intro x_66 e
            have H := hk_116
            rw [e] at H
            refine z_istore (M := M_X12_insideOf) (lv' := [some (vr 277), some (vi piece_0), some (zv below_0), some (vl (x_3 + x_7)), none, some (vl (x_11 + x_15)), none, some (vi bits_17), some (vi k_18), some (vi x_56), some (vi x_66), none, none, none, none, none]) dX12_insideOf_159 (Nat.le_of_ble_eq_true rfl) rfl rfl ?_
            refine z_ldc2 (M := M_X12_insideOf) (n := 2) dX12_insideOf_161 t_3091 (by decide +kernel) ?_
            refine z_aload_n (M := M_X12_insideOf) dX12_insideOf_164 rfl ?_
            refine z_getR (M := M_X12_insideOf) (ci := 15) (C := RX12) (T := TX12) (Nf := 135) (ty := tyX12) cl15 dX12_insideOf_165 ly_277 68 (by decide) t_2459 rfl ?_
            refine z_iload (M := M_X12_insideOf) dX12_insideOf_168 rfl ?_
            obtain ⟨x_67, x_67_e, hi_68, H⟩ := rd_e H
            refine z_lald (M := M_X12_insideOf) dX12_insideOf_170 ly_318 rfl rfl rfl hi_68 x_67_e ?_
            refine z_lmul (M := M_X12_insideOf) dX12_insideOf_171 ?_
            refine z_lstore (M := M_X12_insideOf) (lv' := [some (vr 277), some (vi piece_0), some (zv below_0), some (vl (x_3 + x_7)), none, some (vl (x_11 + x_15)), none, some (vi bits_17), some (vi k_18), some (vi x_56), some (vi x_66), some (vl (2 * x_67)), none, none, none, none]) dX12_insideOf_172 (Nat.le_of_ble_eq_true rfl) rfl rfl ?_
            refine z_ldc2 (M := M_X12_insideOf) (n := 2) dX12_insideOf_174 t_3091 (by decide +kernel) ?_
            refine z_aload_n (M := M_X12_insideOf) dX12_insideOf_177 rfl ?_
            refine z_getR (M := M_X12_insideOf) (ci := 15) (C := RX12) (T := TX12) (Nf := 135) (ty := tyX12) cl15 dX12_insideOf_178 ly_277 68 (by decide) t_2459 rfl ?_
            refine z_iload (M := M_X12_insideOf) dX12_insideOf_181 rfl ?_
            obtain ⟨x_69, x_69_e, hi_70, H⟩ := rd_e H
            refine z_lald (M := M_X12_insideOf) dX12_insideOf_183 ly_318 rfl rfl rfl hi_70 x_69_e ?_
            refine z_lmul (M := M_X12_insideOf) dX12_insideOf_184 ?_
            refine z_lstore (M := M_X12_insideOf) (lv' := [some (vr 277), some (vi piece_0), some (zv below_0), some (vl (x_3 + x_7)), none, some (vl (x_11 + x_15)), none, some (vi bits_17), some (vi k_18), some (vi x_56), some (vi x_66), some (vl (2 * x_67)), none, some (vl (2 * x_69)), none, none]) dX12_insideOf_185 (Nat.le_of_ble_eq_true rfl) rfl rfl ?_
            have J_77 : YY l E M_X12_insideOf 3 0 0 (pS (some (vi r)) σ) 236 [some (vr 277), some (vi piece_0), some (zv below_0), some (vl (x_3 + x_7)), none, some (vl (x_11 + x_15)), none, some (vi bits_17), some (vi k_18), some (vi x_56), some (vi x_66), some (vl (2 * x_67)), none, some (vl (2 * x_69)), none, none] [zv (if below_0 = true then (decide (((w64 (2 * x_67)) < (w64 (x_11 + x_15))) ∧ ((w64 (x_11 + x_15)) ≤ (w64 (2 * x_69))))) else (decide (((w64 (2 * x_67)) ≤ (w64 (x_11 + x_15))) ∧ ((w64 (x_11 + x_15)) < (w64 (2 * x_69))))) : Bool)] σ 0 0 := by
              obtain ⟨x_78, x_78_e, H⟩ := lt_e H
              refine z_st (congrArg (fun z => zv z :: []) x_78_e) ?_
              refine z_zstore (M := M_X12_insideOf) (lv' := [some (vr 277), some (vi piece_0), some (zv below_0), some (vl (x_3 + x_7)), none, some (vl (x_11 + x_15)), none, some (vi bits_17), some (vi k_18), some (vi x_56), some (vi x_66), some (vl (2 * x_67)), none, some (vl (2 * x_69)), none, some (zv x_78)]) dX12_insideOf_236 (Nat.le_of_ble_eq_true rfl) rfl rfl ?_
              obtain ⟨v_82, he_79, hk_80⟩ := bd_e H
              have J_106 : ∀ bits_104, v_82 = bits_104 → YY l E M_X12_insideOf 3 0 0 (pS (some (vi r)) σ) 290 [some (vr 277), some (vi piece_0), some (zv below_0), some (vl (x_3 + x_7)), none, some (vl (x_11 + x_15)), none, some (vi bits_104), some (vi k_18), some (vi x_56), some (vi x_66), some (vl (2 * x_67)), none, some (vl (2 * x_69)), none, some (zv x_78)] [] σ 0 0 := by
                intro bits_104 e
                have H := hk_80
                rw [e] at H
                refine z_iinc (M := M_X12_insideOf) (lv' := [some (vr 277), some (vi piece_0), some (zv below_0), some (vl (x_3 + x_7)), none, some (vl (x_11 + x_15)), none, some (vi bits_104), some (vi (k_18 + 1)), some (vi x_56), some (vi x_66), some (vl (2 * x_67)), none, some (vl (2 * x_69)), none, some (zv x_78)]) dX12_insideOf_290 rfl (Nat.le_of_ble_eq_true rfl) rfl rfl ?_
                refine z_goto (M := M_X12_insideOf) (tgt := 55) dX12_insideOf_293 (by decide) ?_
                refine z_le (lv' := [some (vr 277), some (vi piece_0), some (zv below_0), some (vl (x_3 + x_7)), none, some (vl (x_11 + x_15)), none, some (vi bits_104), some (vi (k_18 + 1)), none, none, none, none, none, none, none]) ⟨Or.inr rfl, Or.inr rfl, Or.inr rfl, Or.inr rfl, Or.inl rfl, Or.inr rfl, Or.inl rfl, Or.inr rfl, Or.inr rfl, Or.inl rfl, Or.inl rfl, Or.inl rfl, Or.inl rfl, Or.inl rfl, Or.inl rfl, Or.inl rfl, trivial⟩ ?_
                exact K_24 _ (Option.some.inj H).symm
              have H := he_79
              refine z_zload (M := M_X12_insideOf) dX12_insideOf_238 rfl ?_
              rcases if_e H with ⟨h_93, H⟩ | ⟨h_93, H⟩
              · refine z_zeq_f (M := M_X12_insideOf) (tgt := 290) dX12_insideOf_240 (by decide) h_93 ?_
                refine z_ldc2 (M := M_X12_insideOf) (n := 2) dX12_insideOf_243 t_3091 (by decide +kernel) ?_
                refine z_aload_n (M := M_X12_insideOf) dX12_insideOf_246 rfl ?_
                refine z_getR (M := M_X12_insideOf) (ci := 15) (C := RX12) (T := TX12) (Nf := 135) (ty := tyX12) cl15 dX12_insideOf_247 ly_277 67 (by decide) t_2458 rfl ?_
                refine z_iload (M := M_X12_insideOf) dX12_insideOf_250 rfl ?_
                obtain ⟨x_94, x_94_e, hi_95, H⟩ := rd_e H
                refine z_lald (M := M_X12_insideOf) dX12_insideOf_252 ly_317 rfl rfl rfl hi_95 x_94_e ?_
                refine z_lmul (M := M_X12_insideOf) dX12_insideOf_253 ?_
                refine z_lload (M := M_X12_insideOf) dX12_insideOf_254 rfl ?_
                refine z_ldc2 (M := M_X12_insideOf) (n := 2) dX12_insideOf_256 t_3091 (by decide +kernel) ?_
                refine z_aload_n (M := M_X12_insideOf) dX12_insideOf_259 rfl ?_
                refine z_getR (M := M_X12_insideOf) (ci := 15) (C := RX12) (T := TX12) (Nf := 135) (ty := tyX12) cl15 dX12_insideOf_260 ly_277 67 (by decide) t_2458 rfl ?_
                refine z_iload (M := M_X12_insideOf) dX12_insideOf_263 rfl ?_
                obtain ⟨x_96, x_96_e, hi_97, H⟩ := rd_e H
                refine z_lald (M := M_X12_insideOf) dX12_insideOf_265 ly_317 rfl rfl rfl hi_97 x_96_e ?_
                refine z_lmul (M := M_X12_insideOf) dX12_insideOf_266 ?_
                refine z_lload (M := M_X12_insideOf) dX12_insideOf_267 rfl ?_
                refine z_lload_n (M := M_X12_insideOf) dX12_insideOf_269 rfl ?_
                refine z_lload (M := M_X12_insideOf) dX12_insideOf_270 rfl ?_
                refine z_callS (M := M_X12_insideOf) (M' := M_X12_turn) (as := [vl (2 * x_94), vl (2 * x_67), vl (2 * x_96), vl (2 * x_69), vl (x_3 + x_7), vl (x_11 + x_15)]) (rest := []) rfl rfl dX12_insideOf_272 m_X12_turn t_3262 t_3263 (c_X12_turn hl  rfl) rfl rfl (Nat.le_of_ble_eq_true rfl) (Nat.le_of_ble_eq_true rfl) (Nat.le_of_ble_eq_true rfl) (Nat.le_of_ble_eq_true rfl) ?_
                refine z_st (st' := [vi (fR_turn (2 * x_94) (2 * x_67) (2 * x_96) (2 * x_69) (x_3 + x_7) (x_11 + x_15))]) rfl ?_
                rcases if_e H with ⟨h_98, H⟩ | ⟨h_98, H⟩
                · refine z_if_le_f (M := M_X12_insideOf) (tgt := 290) dX12_insideOf_275 (by decide) rfl h_98 ?_
                  refine z_iload (M := M_X12_insideOf) dX12_insideOf_278 rfl ?_
                  refine z_aload_n (M := M_X12_insideOf) dX12_insideOf_280 rfl ?_
                  refine z_getR (M := M_X12_insideOf) (ci := 15) (C := RX12) (T := TX12) (Nf := 135) (ty := tyX12) cl15 dX12_insideOf_281 ly_277 84 (by decide) t_2475 rfl ?_
                  refine z_iload (M := M_X12_insideOf) dX12_insideOf_284 rfl ?_
                  obtain ⟨x_99, x_99_e, hi_100, H⟩ := rd_e H
                  refine z_iald (M := M_X12_insideOf) dX12_insideOf_286 ly_325 rfl rfl rfl hi_100 x_99_e ?_
                  refine z_ixor (M := M_X12_insideOf) dX12_insideOf_287 ?_
                  refine z_istore (M := M_X12_insideOf) (lv' := [some (vr 277), some (vi piece_0), some (zv below_0), some (vl (x_3 + x_7)), none, some (vl (x_11 + x_15)), none, some (vi (q_ixo bits_17 x_99)), some (vi k_18), some (vi x_56), some (vi x_66), some (vl (2 * x_67)), none, some (vl (2 * x_69)), none, some (zv x_78)]) dX12_insideOf_288 (Nat.le_of_ble_eq_true rfl) rfl rfl ?_
                  exact J_106 _ (Option.some.inj H).symm
                · refine z_if_le_t (M := M_X12_insideOf) (tgt := 290) dX12_insideOf_275 (by decide) rfl (Int.not_lt.mp h_98) ?_
                  exact J_106 _ (Option.some.inj H).symm
              · refine z_zeq_t (M := M_X12_insideOf) (tgt := 290) dX12_insideOf_240 (by decide) h_93 ?_
                exact J_106 _ (Option.some.inj H).symm
            refine z_zload_n (M := M_X12_insideOf) dX12_insideOf_187 rfl ?_
            by_cases h_107 : below_0 = true
            · refine z_zeq_f (M := M_X12_insideOf) (tgt := 215) dX12_insideOf_188 (by decide) h_107 ?_
              have J_108 : YY l E M_X12_insideOf 3 0 0 (pS (some (vi r)) σ) 236 [some (vr 277), some (vi piece_0), some (zv below_0), some (vl (x_3 + x_7)), none, some (vl (x_11 + x_15)), none, some (vi bits_17), some (vi k_18), some (vi x_56), some (vi x_66), some (vl (2 * x_67)), none, some (vl (2 * x_69)), none, none] [zv (decide (((w64 (2 * x_67)) < (w64 (x_11 + x_15))) ∧ ((w64 (x_11 + x_15)) ≤ (w64 (2 * x_69)))))] σ 0 0 := by
                exact z_st (by rw [if_pos (c := below_0 = true) h_107]) J_77
              refine z_lload (M := M_X12_insideOf) dX12_insideOf_191 rfl ?_
              refine z_lload (M := M_X12_insideOf) dX12_insideOf_193 rfl ?_
              refine z_lcmp (M := M_X12_insideOf) dX12_insideOf_195 ?_
              by_cases h_109 : (w64 (2 * x_67)) < (w64 (x_11 + x_15))
              · refine z_lif_ge_f (M := M_X12_insideOf) (tgt := 211) dX12_insideOf_196 (by decide) rfl rfl h_109 ?_
                refine z_lload (M := M_X12_insideOf) dX12_insideOf_199 rfl ?_
                refine z_lload (M := M_X12_insideOf) dX12_insideOf_201 rfl ?_
                refine z_lcmp (M := M_X12_insideOf) dX12_insideOf_203 ?_
                by_cases h_110 : (w64 (x_11 + x_15)) ≤ (w64 (2 * x_69))
                · refine z_lif_gt_f (M := M_X12_insideOf) (tgt := 211) dX12_insideOf_204 (by decide) rfl rfl h_110 ?_
                  refine z_iconst (M := M_X12_insideOf) dX12_insideOf_207 ?_
                  refine z_goto (M := M_X12_insideOf) (tgt := 236) dX12_insideOf_208 (by decide) ?_
                  exact z_st (by rw [zv_t (p := ((w64 (2 * x_67)) < (w64 (x_11 + x_15))) ∧ ((w64 (x_11 + x_15)) ≤ (w64 (2 * x_69)))) ⟨h_109, h_110⟩]) J_108
                · refine z_lif_gt_t (M := M_X12_insideOf) (tgt := 211) dX12_insideOf_204 (by decide) rfl rfl (Int.not_le.mp h_110) ?_
                  refine z_iconst (M := M_X12_insideOf) dX12_insideOf_211 ?_
                  refine z_goto (M := M_X12_insideOf) (tgt := 236) dX12_insideOf_212 (by decide) ?_
                  exact z_st (by rw [zv_f (p := ((w64 (2 * x_67)) < (w64 (x_11 + x_15))) ∧ ((w64 (x_11 + x_15)) ≤ (w64 (2 * x_69)))) (fun q => h_110 q.2)]) J_108
              · refine z_lif_ge_t (M := M_X12_insideOf) (tgt := 211) dX12_insideOf_196 (by decide) rfl rfl (Int.not_lt.mp h_109) ?_
                refine z_iconst (M := M_X12_insideOf) dX12_insideOf_211 ?_
                refine z_goto (M := M_X12_insideOf) (tgt := 236) dX12_insideOf_212 (by decide) ?_
                exact z_st (by rw [zv_f (p := ((w64 (2 * x_67)) < (w64 (x_11 + x_15))) ∧ ((w64 (x_11 + x_15)) ≤ (w64 (2 * x_69)))) (fun q => h_109 q.1)]) J_108
            · refine z_zeq_t (M := M_X12_insideOf) (tgt := 215) dX12_insideOf_188 (by decide) h_107 ?_
              have J_111 : YY l E M_X12_insideOf 3 0 0 (pS (some (vi r)) σ) 236 [some (vr 277), some (vi piece_0), some (zv below_0), some (vl (x_3 + x_7)), none, some (vl (x_11 + x_15)), none, some (vi bits_17), some (vi k_18), some (vi x_56), some (vi x_66), some (vl (2 * x_67)), none, some (vl (2 * x_69)), none, none] [zv (decide (((w64 (2 * x_67)) ≤ (w64 (x_11 + x_15))) ∧ ((w64 (x_11 + x_15)) < (w64 (2 * x_69)))))] σ 0 0 := by
                exact z_st (by rw [if_neg (c := below_0 = true) h_107]) J_77
              refine z_lload (M := M_X12_insideOf) dX12_insideOf_215 rfl ?_
              refine z_lload (M := M_X12_insideOf) dX12_insideOf_217 rfl ?_
              refine z_lcmp (M := M_X12_insideOf) dX12_insideOf_219 ?_
              by_cases h_112 : (w64 (2 * x_67)) ≤ (w64 (x_11 + x_15))
              · refine z_lif_gt_f (M := M_X12_insideOf) (tgt := 235) dX12_insideOf_220 (by decide) rfl rfl h_112 ?_
                refine z_lload (M := M_X12_insideOf) dX12_insideOf_223 rfl ?_
                refine z_lload (M := M_X12_insideOf) dX12_insideOf_225 rfl ?_
                refine z_lcmp (M := M_X12_insideOf) dX12_insideOf_227 ?_
                by_cases h_113 : (w64 (x_11 + x_15)) < (w64 (2 * x_69))
                · refine z_lif_ge_f (M := M_X12_insideOf) (tgt := 235) dX12_insideOf_228 (by decide) rfl rfl h_113 ?_
                  refine z_iconst (M := M_X12_insideOf) dX12_insideOf_231 ?_
                  refine z_goto (M := M_X12_insideOf) (tgt := 236) dX12_insideOf_232 (by decide) ?_
                  exact z_st (by rw [zv_t (p := ((w64 (2 * x_67)) ≤ (w64 (x_11 + x_15))) ∧ ((w64 (x_11 + x_15)) < (w64 (2 * x_69)))) ⟨h_112, h_113⟩]) J_111
                · refine z_lif_ge_t (M := M_X12_insideOf) (tgt := 235) dX12_insideOf_228 (by decide) rfl rfl (Int.not_lt.mp h_113) ?_
                  refine z_iconst (M := M_X12_insideOf) dX12_insideOf_235 ?_
                  exact z_st (by rw [zv_f (p := ((w64 (2 * x_67)) ≤ (w64 (x_11 + x_15))) ∧ ((w64 (x_11 + x_15)) < (w64 (2 * x_69)))) (fun q => h_113 q.2)]) J_111
              · refine z_lif_gt_t (M := M_X12_insideOf) (tgt := 235) dX12_insideOf_220 (by decide) rfl rfl (Int.not_le.mp h_112) ?_
                refine z_iconst (M := M_X12_insideOf) dX12_insideOf_235 ?_
                exact z_st (by rw [zv_f (p := ((w64 (2 * x_67)) ≤ (w64 (x_11 + x_15))) ∧ ((w64 (x_11 + x_15)) < (w64 (2 * x_69)))) (fun q => h_112 q.1)]) J_111
          have H := he_115
          refine z_iload (M := M_X12_insideOf) dX12_insideOf_130 rfl ?_
          refine z_aload_n (M := M_X12_insideOf) dX12_insideOf_132 rfl ?_
          refine z_getR (M := M_X12_insideOf) (ci := 15) (C := RX12) (T := TX12) (Nf := 135) (ty := tyX12) cl15 dX12_insideOf_133 ly_277 82 (by decide) t_2473 rfl ?_
          refine z_iload (M := M_X12_insideOf) dX12_insideOf_136 rfl ?_
          obtain ⟨x_57, x_57_e, hi_58, H⟩ := rd_e H
          refine z_iald (M := M_X12_insideOf) dX12_insideOf_138 ly_323 rfl rfl rfl hi_58 x_57_e ?_
          rcases if_e H with ⟨h_59, H⟩ | ⟨h_59, H⟩
          · refine z_icmp_ne_f (M := M_X12_insideOf) (tgt := 152) dX12_insideOf_139 (by decide) rfl rfl h_59 ?_
            refine z_aload_n (M := M_X12_insideOf) dX12_insideOf_142 rfl ?_
            refine z_getR (M := M_X12_insideOf) (ci := 15) (C := RX12) (T := TX12) (Nf := 135) (ty := tyX12) cl15 dX12_insideOf_143 ly_277 83 (by decide) t_2474 rfl ?_
            refine z_iload (M := M_X12_insideOf) dX12_insideOf_146 rfl ?_
            obtain ⟨x_60, x_60_e, hi_61, H⟩ := rd_e H
            refine z_iald (M := M_X12_insideOf) dX12_insideOf_148 ly_324 rfl rfl rfl hi_61 x_60_e ?_
            refine z_goto (M := M_X12_insideOf) (tgt := 159) dX12_insideOf_149 (by decide) ?_
            exact J_117 _ (Option.some.inj H).symm
          · refine z_icmp_ne_t (M := M_X12_insideOf) (tgt := 152) dX12_insideOf_139 (by decide) rfl rfl h_59 ?_
            refine z_aload_n (M := M_X12_insideOf) dX12_insideOf_152 rfl ?_
            refine z_getR (M := M_X12_insideOf) (ci := 15) (C := RX12) (T := TX12) (Nf := 135) (ty := tyX12) cl15 dX12_insideOf_153 ly_277 82 (by decide) t_2473 rfl ?_
            refine z_iload (M := M_X12_insideOf) dX12_insideOf_156 rfl ?_
            obtain ⟨x_63, x_63_e, hi_64, H⟩ := rd_e H
            refine z_iald (M := M_X12_insideOf) dX12_insideOf_158 ly_323 rfl rfl rfl hi_64 x_63_e ?_
            exact J_117 _ (Option.some.inj H).symm
        have H := he_119
        refine z_aload_n (M := M_X12_insideOf) dX12_insideOf_83 rfl ?_
        refine z_getR (M := M_X12_insideOf) (ci := 15) (C := RX12) (T := TX12) (Nf := 135) (ty := tyX12) cl15 dX12_insideOf_84 ly_277 68 (by decide) t_2459 rfl ?_
        refine z_aload_n (M := M_X12_insideOf) dX12_insideOf_87 rfl ?_
        refine z_getR (M := M_X12_insideOf) (ci := 15) (C := RX12) (T := TX12) (Nf := 135) (ty := tyX12) cl15 dX12_insideOf_88 ly_277 82 (by decide) t_2473 rfl ?_
        refine z_iload (M := M_X12_insideOf) dX12_insideOf_91 rfl ?_
        obtain ⟨x_41, x_41_e, hi_42, H⟩ := rd_e H
        refine z_iald (M := M_X12_insideOf) dX12_insideOf_93 ly_323 rfl rfl rfl hi_42 x_41_e ?_
        obtain ⟨x_43, x_43_e, hi_44, H⟩ := rd_e H
        refine z_lald (M := M_X12_insideOf) dX12_insideOf_94 ly_318 rfl rfl rfl hi_44 x_43_e ?_
        refine z_aload_n (M := M_X12_insideOf) dX12_insideOf_95 rfl ?_
        refine z_getR (M := M_X12_insideOf) (ci := 15) (C := RX12) (T := TX12) (Nf := 135) (ty := tyX12) cl15 dX12_insideOf_96 ly_277 68 (by decide) t_2459 rfl ?_
        refine z_aload_n (M := M_X12_insideOf) dX12_insideOf_99 rfl ?_
        refine z_getR (M := M_X12_insideOf) (ci := 15) (C := RX12) (T := TX12) (Nf := 135) (ty := tyX12) cl15 dX12_insideOf_100 ly_277 83 (by decide) t_2474 rfl ?_
        refine z_iload (M := M_X12_insideOf) dX12_insideOf_103 rfl ?_
        obtain ⟨x_45, x_45_e, hi_46, H⟩ := rd_e H
        refine z_iald (M := M_X12_insideOf) dX12_insideOf_105 ly_324 rfl rfl rfl hi_46 x_45_e ?_
        obtain ⟨x_47, x_47_e, hi_48, H⟩ := rd_e H
        refine z_lald (M := M_X12_insideOf) dX12_insideOf_106 ly_318 rfl rfl rfl hi_48 x_47_e ?_
        refine z_lcmp (M := M_X12_insideOf) dX12_insideOf_107 ?_
        rcases if_e H with ⟨h_49, H⟩ | ⟨h_49, H⟩
        · refine z_lif_ge_f (M := M_X12_insideOf) (tgt := 121) dX12_insideOf_108 (by decide) rfl rfl h_49 ?_
          refine z_aload_n (M := M_X12_insideOf) dX12_insideOf_111 rfl ?_
          refine z_getR (M := M_X12_insideOf) (ci := 15) (C := RX12) (T := TX12) (Nf := 135) (ty := tyX12) cl15 dX12_insideOf_112 ly_277 82 (by decide) t_2473 rfl ?_
          refine z_iload (M := M_X12_insideOf) dX12_insideOf_115 rfl ?_
          obtain ⟨x_50, x_50_e, hi_51, H⟩ := rd_e H
          refine z_iald (M := M_X12_insideOf) dX12_insideOf_117 ly_323 rfl rfl rfl hi_51 x_50_e ?_
          refine z_goto (M := M_X12_insideOf) (tgt := 128) dX12_insideOf_118 (by decide) ?_
          exact J_121 _ (Option.some.inj H).symm
        · refine z_lif_ge_t (M := M_X12_insideOf) (tgt := 121) dX12_insideOf_108 (by decide) rfl rfl (Int.not_lt.mp h_49) ?_
          refine z_aload_n (M := M_X12_insideOf) dX12_insideOf_121 rfl ?_
          refine z_getR (M := M_X12_insideOf) (ci := 15) (C := RX12) (T := TX12) (Nf := 135) (ty := tyX12) cl15 dX12_insideOf_122 ly_277 83 (by decide) t_2474 rfl ?_
          refine z_iload (M := M_X12_insideOf) dX12_insideOf_125 rfl ?_
          obtain ⟨x_53, x_53_e, hi_54, H⟩ := rd_e H
          refine z_iald (M := M_X12_insideOf) dX12_insideOf_127 ly_324 rfl rfl rfl hi_54 x_53_e ?_
          exact J_121 _ (Option.some.inj H).symm
  · refine z_icmp_ge_t (M := M_X12_insideOf) (tgt := 296) dX12_insideOf_61 (by decide) rfl rfl (Int.not_lt.mp h_26) ?_
    exact J_125 _ _ (K_25 _ (Option.some.inj H).symm).symm
theorem c_X12_isResult (hl : l.stackTraces = false) {σ : SG} {what_0 : Int} {bits_0 : Int} {r : Bool}  (H : fR_isResult what_0 bits_0 = r) : en_S l E M_X12_isResult 1 0 0 [vi what_0, vi bits_0] σ (pS (some (zv r)) σ) := by
  unfold fR_isResult at H
  refine z_mk (lv := [some (vi what_0), some (vi bits_0)]) m_X12_isResult rfl hl (Nat.le_of_ble_eq_true rfl) rfl ?_
  refine z_iload_n (M := M_X12_isResult) dX12_isResult_0 rfl ?_
  rcases if_e H with ⟨h_1, H⟩ | ⟨h_1, H⟩
  · refine z_tabIn (M := M_X12_isResult) (tgt := 32) (off := 31) dX12_isResult_1 h_1 (by decide) (by decide) rfl (by decide) ?_
    have J_2 : YY l E M_X12_isResult 1 0 0 (pS (some (zv r)) σ) 42 [some (vi what_0), some (vi bits_0)] [zv (decide ((w32 bits_0) = 3))] σ 0 0 := by
      cases H
      exact z_zret (M := M_X12_isResult) dX12_isResult_42 rfl (Nat.le_of_ble_eq_true rfl) (Nat.le_of_ble_eq_true rfl) ⟨rfl, rfl⟩
    refine z_iload_n (M := M_X12_isResult) dX12_isResult_32 rfl ?_
    refine z_iconst (M := M_X12_isResult) dX12_isResult_33 ?_
    by_cases h_3 : (w32 bits_0) = 3
    · refine z_icmp_ne_f (M := M_X12_isResult) (tgt := 41) dX12_isResult_34 (by decide) rfl (by decide +kernel) h_3 ?_
      refine z_iconst (M := M_X12_isResult) dX12_isResult_37 ?_
      refine z_goto (M := M_X12_isResult) (tgt := 42) dX12_isResult_38 (by decide) ?_
      exact z_st (by rw [zv_t (p := (w32 bits_0) = 3) h_3]) J_2
    · refine z_icmp_ne_t (M := M_X12_isResult) (tgt := 41) dX12_isResult_34 (by decide) rfl (by decide +kernel) h_3 ?_
      refine z_iconst (M := M_X12_isResult) dX12_isResult_41 ?_
      exact z_st (by rw [zv_f (p := (w32 bits_0) = 3) h_3]) J_2
  · rcases if_e H with ⟨h_4, H⟩ | ⟨h_4, H⟩
    · refine z_tabIn (M := M_X12_isResult) (tgt := 43) (off := 42) dX12_isResult_1 h_4 (by decide) (by decide) rfl (by decide) ?_
      have J_5 : YY l E M_X12_isResult 1 0 0 (pS (some (zv r)) σ) 52 [some (vi what_0), some (vi bits_0)] [zv (decide (¬ (w32 bits_0) = 0))] σ 0 0 := by
        cases H
        exact z_zret (M := M_X12_isResult) dX12_isResult_52 rfl (Nat.le_of_ble_eq_true rfl) (Nat.le_of_ble_eq_true rfl) ⟨rfl, rfl⟩
      refine z_iload_n (M := M_X12_isResult) dX12_isResult_43 rfl ?_
      by_cases h_6 : ¬ (w32 bits_0) = 0
      · refine z_if_eq_f (M := M_X12_isResult) (tgt := 51) dX12_isResult_44 (by decide) rfl h_6 ?_
        refine z_iconst (M := M_X12_isResult) dX12_isResult_47 ?_
        refine z_goto (M := M_X12_isResult) (tgt := 52) dX12_isResult_48 (by decide) ?_
        exact z_st (by rw [zv_t (p := ¬ (w32 bits_0) = 0) h_6]) J_5
      · refine z_if_eq_t (M := M_X12_isResult) (tgt := 51) dX12_isResult_44 (by decide) rfl (Decidable.not_not.mp h_6) ?_
        refine z_iconst (M := M_X12_isResult) dX12_isResult_51 ?_
        exact z_st (by rw [zv_f (p := ¬ (w32 bits_0) = 0) h_6]) J_5
    · rcases if_e H with ⟨h_7, H⟩ | ⟨h_7, H⟩
      · refine z_tabIn (M := M_X12_isResult) (tgt := 53) (off := 52) dX12_isResult_1 h_7 (by decide) (by decide) rfl (by decide) ?_
        have J_8 : YY l E M_X12_isResult 1 0 0 (pS (some (zv r)) σ) 63 [some (vi what_0), some (vi bits_0)] [zv (decide ((w32 bits_0) = 1))] σ 0 0 := by
          cases H
          exact z_zret (M := M_X12_isResult) dX12_isResult_63 rfl (Nat.le_of_ble_eq_true rfl) (Nat.le_of_ble_eq_true rfl) ⟨rfl, rfl⟩
        refine z_iload_n (M := M_X12_isResult) dX12_isResult_53 rfl ?_
        refine z_iconst (M := M_X12_isResult) dX12_isResult_54 ?_
        by_cases h_9 : (w32 bits_0) = 1
        · refine z_icmp_ne_f (M := M_X12_isResult) (tgt := 62) dX12_isResult_55 (by decide) rfl (by decide +kernel) h_9 ?_
          refine z_iconst (M := M_X12_isResult) dX12_isResult_58 ?_
          refine z_goto (M := M_X12_isResult) (tgt := 63) dX12_isResult_59 (by decide) ?_
          exact z_st (by rw [zv_t (p := (w32 bits_0) = 1) h_9]) J_8
        · refine z_icmp_ne_t (M := M_X12_isResult) (tgt := 62) dX12_isResult_55 (by decide) rfl (by decide +kernel) h_9 ?_
          refine z_iconst (M := M_X12_isResult) dX12_isResult_62 ?_
          exact z_st (by rw [zv_f (p := (w32 bits_0) = 1) h_9]) J_8
      · rcases if_e H with ⟨h_10, H⟩ | ⟨h_10, H⟩
        · refine z_tabIn (M := M_X12_isResult) (tgt := 64) (off := 63) dX12_isResult_1 h_10 (by decide) (by decide) rfl (by decide) ?_
          have J_11 : YY l E M_X12_isResult 1 0 0 (pS (some (zv r)) σ) 79 [some (vi what_0), some (vi bits_0)] [zv (decide (((w32 bits_0) = 1) ∨ ((w32 bits_0) = 2)))] σ 0 0 := by
            cases H
            exact z_zret (M := M_X12_isResult) dX12_isResult_79 rfl (Nat.le_of_ble_eq_true rfl) (Nat.le_of_ble_eq_true rfl) ⟨rfl, rfl⟩
          refine z_iload_n (M := M_X12_isResult) dX12_isResult_64 rfl ?_
          refine z_iconst (M := M_X12_isResult) dX12_isResult_65 ?_
          by_cases h_12 : (w32 bits_0) = 1
          · refine z_icmp_eq_t (M := M_X12_isResult) (tgt := 74) dX12_isResult_66 (by decide) rfl (by decide +kernel) h_12 ?_
            refine z_iconst (M := M_X12_isResult) dX12_isResult_74 ?_
            refine z_goto (M := M_X12_isResult) (tgt := 79) dX12_isResult_75 (by decide) ?_
            exact z_st (by rw [zv_t (p := ((w32 bits_0) = 1) ∨ ((w32 bits_0) = 2)) (Or.inl h_12)]) J_11
          · refine z_icmp_eq_f (M := M_X12_isResult) (tgt := 74) dX12_isResult_66 (by decide) rfl (by decide +kernel) h_12 ?_
            refine z_iload_n (M := M_X12_isResult) dX12_isResult_69 rfl ?_
            refine z_iconst (M := M_X12_isResult) dX12_isResult_70 ?_
            by_cases h_13 : (w32 bits_0) = 2
            · refine z_icmp_ne_f (M := M_X12_isResult) (tgt := 78) dX12_isResult_71 (by decide) rfl (by decide +kernel) h_13 ?_
              refine z_iconst (M := M_X12_isResult) dX12_isResult_74 ?_
              refine z_goto (M := M_X12_isResult) (tgt := 79) dX12_isResult_75 (by decide) ?_
              exact z_st (by rw [zv_t (p := ((w32 bits_0) = 1) ∨ ((w32 bits_0) = 2)) (Or.inr h_13)]) J_11
            · refine z_icmp_ne_t (M := M_X12_isResult) (tgt := 78) dX12_isResult_71 (by decide) rfl (by decide +kernel) h_13 ?_
              refine z_iconst (M := M_X12_isResult) dX12_isResult_78 ?_
              exact z_st (by rw [zv_f (p := ((w32 bits_0) = 1) ∨ ((w32 bits_0) = 2)) (fun q => q.elim h_12 h_13)]) J_11
        · refine z_tabOut (M := M_X12_isResult) (tgt := 80) dX12_isResult_1 rfl (by omega) (by decide) ?_
          have J_14 : YY l E M_X12_isResult 1 0 0 (pS (some (zv r)) σ) 90 [some (vi what_0), some (vi bits_0)] [zv (decide ((w32 bits_0) = 2))] σ 0 0 := by
            cases H
            exact z_zret (M := M_X12_isResult) dX12_isResult_90 rfl (Nat.le_of_ble_eq_true rfl) (Nat.le_of_ble_eq_true rfl) ⟨rfl, rfl⟩
          refine z_iload_n (M := M_X12_isResult) dX12_isResult_80 rfl ?_
          refine z_iconst (M := M_X12_isResult) dX12_isResult_81 ?_
          by_cases h_15 : (w32 bits_0) = 2
          · refine z_icmp_ne_f (M := M_X12_isResult) (tgt := 89) dX12_isResult_82 (by decide) rfl (by decide +kernel) h_15 ?_
            refine z_iconst (M := M_X12_isResult) dX12_isResult_85 ?_
            refine z_goto (M := M_X12_isResult) (tgt := 90) dX12_isResult_86 (by decide) ?_
            exact z_st (by rw [zv_t (p := (w32 bits_0) = 2) h_15]) J_14
          · refine z_icmp_ne_t (M := M_X12_isResult) (tgt := 89) dX12_isResult_82 (by decide) rfl (by decide +kernel) h_15 ?_
            refine z_iconst (M := M_X12_isResult) dX12_isResult_89 ?_
            exact z_st (by rw [zv_f (p := (w32 bits_0) = 2) h_15]) J_14
theorem c_X12_boundary (hl : l.stackTraces = false) {σ : SG} {what_0 : Int} {σ' : SG}  (H : fR_boundary σ what_0 = some σ') : en_S l E M_X12_boundary 4 0 0 [vr 277, vi what_0] σ (pS (none) σ') := by
  unfold fR_boundary at H
  refine z_mk (lv := [some (vr 277), some (vi what_0), none, none, none, none, none, none]) m_X12_boundary rfl hl (Nat.le_of_ble_eq_true rfl) rfl ?_
  refine z_aload_n (M := M_X12_boundary) dX12_boundary_0 rfl ?_
  refine z_iconst (M := M_X12_boundary) dX12_boundary_1 ?_
  obtain ⟨σ_1, σ_1_e, H⟩ := wf_e H
  refine z_putI (M := M_X12_boundary) (ci := 15) (C := RX12) (T := TX12) (Nf := 135) (ty := tyX12) cl15 dX12_boundary_2 ly_277 89 (by decide) t_2480 rfl rfl rfl rfl σ_1_e ?_
  refine z_iconst (M := M_X12_boundary) dX12_boundary_5 ?_
  refine z_istore_n (M := M_X12_boundary) (lv' := [some (vr 277), some (vi what_0), some (vi 0), none, none, none, none, none]) dX12_boundary_6 (Nat.le_of_ble_eq_true rfl) rfl rfl ?_
  obtain ⟨rl_7, hw_4, hk_5⟩ := bd_e H
  have J_87 : ∀ k_85 σ_86, rl_7 = (k_85, σ_86) → YY l E M_X12_boundary 4 0 0 (pS (none) σ') 236 [some (vr 277), some (vi what_0), some (vi k_85), none, none, none, none, none] [] σ_86 0 0 := by
    intro k_85 σ_86 e
    have H := hk_5
    rw [e] at H
    cases H
    exact z_vret (M := M_X12_boundary) dX12_boundary_236 rfl (Nat.le_of_ble_eq_true rfl) (Nat.le_of_ble_eq_true rfl) ⟨rfl, rfl⟩
  refine whl_go hw_4 (fun (k_2, σ_3) => YY l E M_X12_boundary 4 0 0 (pS (none) σ') 7 [some (vr 277), some (vi what_0), some (vi k_2), none, none, none, none, none] [] σ_3 0 0) ?_
  rintro ⟨k_2, σ_3⟩ o_8 H K_9 K_10
  refine z_iload_n (M := M_X12_boundary) dX12_boundary_7 rfl ?_
  refine z_aload_n (M := M_X12_boundary) dX12_boundary_8 rfl ?_
  refine z_getI (M := M_X12_boundary) (ci := 15) (C := RX12) (T := TX12) (Nf := 135) (ty := tyX12) cl15 dX12_boundary_9 ly_277 85 (by decide) t_2476 rfl rfl ?_
  rcases if_e H with ⟨h_11, H⟩ | ⟨h_11, H⟩
  · refine z_icmp_ge_f (M := M_X12_boundary) (tgt := 236) dX12_boundary_12 (by decide) rfl rfl h_11 ?_
    refine z_aload_n (M := M_X12_boundary) dX12_boundary_15 rfl ?_
    refine z_getR (M := M_X12_boundary) (ci := 15) (C := RX12) (T := TX12) (Nf := 135) (ty := tyX12) cl15 dX12_boundary_16 ly_277 84 (by decide) t_2475 rfl ?_
    refine z_iload_n (M := M_X12_boundary) dX12_boundary_19 rfl ?_
    obtain ⟨x_12, x_12_e, hi_13, H⟩ := rd_e H
    refine z_iald (M := M_X12_boundary) dX12_boundary_20 ly_325 rfl rfl rfl hi_13 x_12_e ?_
    rcases if_e H with ⟨h_14, H⟩ | ⟨h_14, H⟩
    · refine z_if_ne_f (M := M_X12_boundary) (tgt := 27) dX12_boundary_21 (by decide) rfl h_14 ?_
      refine z_goto (M := M_X12_boundary) (tgt := 230) dX12_boundary_24 (by decide) ?_
      refine z_iinc (M := M_X12_boundary) (lv' := [some (vr 277), some (vi what_0), some (vi (k_2 + 1)), none, none, none, none, none]) dX12_boundary_230 rfl (Nat.le_of_ble_eq_true rfl) rfl rfl ?_
      refine z_goto (M := M_X12_boundary) (tgt := 7) dX12_boundary_233 (by decide) ?_
      exact K_9 _ (Option.some.inj H).symm
    · refine z_if_ne_t (M := M_X12_boundary) (tgt := 27) dX12_boundary_21 (by decide) rfl h_14 ?_
      refine z_aload_n (M := M_X12_boundary) dX12_boundary_27 rfl ?_
      refine z_getR (M := M_X12_boundary) (ci := 15) (C := RX12) (T := TX12) (Nf := 135) (ty := tyX12) cl15 dX12_boundary_28 ly_277 82 (by decide) t_2473 rfl ?_
      refine z_iload_n (M := M_X12_boundary) dX12_boundary_31 rfl ?_
      obtain ⟨x_16, x_16_e, hi_17, H⟩ := rd_e H
      refine z_iald (M := M_X12_boundary) dX12_boundary_32 ly_323 rfl rfl rfl hi_17 x_16_e ?_
      refine z_istore_n (M := M_X12_boundary) (lv' := [some (vr 277), some (vi what_0), some (vi k_2), some (vi x_16), none, none, none, none]) dX12_boundary_33 (Nat.le_of_ble_eq_true rfl) rfl rfl ?_
      refine z_aload_n (M := M_X12_boundary) dX12_boundary_34 rfl ?_
      refine z_getR (M := M_X12_boundary) (ci := 15) (C := RX12) (T := TX12) (Nf := 135) (ty := tyX12) cl15 dX12_boundary_35 ly_277 83 (by decide) t_2474 rfl ?_
      refine z_iload_n (M := M_X12_boundary) dX12_boundary_38 rfl ?_
      obtain ⟨x_18, x_18_e, hi_19, H⟩ := rd_e H
      refine z_iald (M := M_X12_boundary) dX12_boundary_39 ly_324 rfl rfl rfl hi_19 x_18_e ?_
      refine z_istore (M := M_X12_boundary) (lv' := [some (vr 277), some (vi what_0), some (vi k_2), some (vi x_16), some (vi x_18), none, none, none]) dX12_boundary_40 (Nat.le_of_ble_eq_true rfl) rfl rfl ?_
      obtain ⟨v_23, he_20, hk_21⟩ := bd_e H
      have J_83 : ∀ a_65 b_66 leftBits_67 rightBits_68, v_23 = (a_65, b_66, leftBits_67, rightBits_68) → YY l E M_X12_boundary 4 0 0 (pS (none) σ') 148 [some (vr 277), some (vi what_0), some (vi k_2), some (vi a_65), some (vi b_66), some (vi leftBits_67), some (vi rightBits_68), none] [] σ_3 0 0 := by
        intro a_65 b_66 leftBits_67 rightBits_68 e
        have H := hk_21
        rw [e] at H
        refine z_iload_n (M := M_X12_boundary) dX12_boundary_148 rfl ?_
        refine z_iload (M := M_X12_boundary) dX12_boundary_149 rfl ?_
        refine z_callS (M := M_X12_boundary) (M' := M_X12_isResult) (as := [vi what_0, vi leftBits_67]) (rest := []) rfl rfl dX12_boundary_151 m_X12_isResult t_3428 t_3429 (c_X12_isResult hl  rfl) rfl rfl (Nat.le_of_ble_eq_true rfl) (Nat.le_of_ble_eq_true rfl) (Nat.le_of_ble_eq_true rfl) (Nat.le_of_ble_eq_true rfl) ?_
        refine z_st (st' := [zv (fR_isResult what_0 leftBits_67)]) rfl ?_
        refine z_zstore (M := M_X12_boundary) (lv' := [some (vr 277), some (vi what_0), some (vi k_2), some (vi a_65), some (vi b_66), some (vi leftBits_67), some (vi rightBits_68), some (zv (fR_isResult what_0 leftBits_67))]) dX12_boundary_154 (Nat.le_of_ble_eq_true rfl) rfl rfl ?_
        refine z_zload (M := M_X12_boundary) dX12_boundary_156 rfl ?_
        refine z_iload_n (M := M_X12_boundary) dX12_boundary_158 rfl ?_
        refine z_iload (M := M_X12_boundary) dX12_boundary_159 rfl ?_
        refine z_callS (M := M_X12_boundary) (M' := M_X12_isResult) (as := [vi what_0, vi rightBits_68]) (rest := [zv (fR_isResult what_0 leftBits_67)]) rfl rfl dX12_boundary_161 m_X12_isResult t_3428 t_3429 (c_X12_isResult hl  rfl) rfl rfl (Nat.le_of_ble_eq_true rfl) (Nat.le_of_ble_eq_true rfl) (Nat.le_of_ble_eq_true rfl) (Nat.le_of_ble_eq_true rfl) ?_
        refine z_st (st' := [zv (fR_isResult what_0 rightBits_68), zv (fR_isResult what_0 leftBits_67)]) rfl ?_
        rcases if_e H with ⟨h_69, H⟩ | ⟨h_69, H⟩
        · refine z_cne_f (M := M_X12_boundary) (tgt := 170) dX12_boundary_164 (by decide)  h_69 ?_
          refine z_goto (M := M_X12_boundary) (tgt := 230) dX12_boundary_167 (by decide) ?_
          refine z_iinc (M := M_X12_boundary) (lv' := [some (vr 277), some (vi what_0), some (vi (k_2 + 1)), some (vi a_65), some (vi b_66), some (vi leftBits_67), some (vi rightBits_68), some (zv (fR_isResult what_0 leftBits_67))]) dX12_boundary_230 rfl (Nat.le_of_ble_eq_true rfl) rfl rfl ?_
          refine z_goto (M := M_X12_boundary) (tgt := 7) dX12_boundary_233 (by decide) ?_
          refine z_le (lv' := [some (vr 277), some (vi what_0), some (vi (k_2 + 1)), none, none, none, none, none]) ⟨Or.inr rfl, Or.inr rfl, Or.inr rfl, Or.inl rfl, Or.inl rfl, Or.inl rfl, Or.inl rfl, Or.inl rfl, trivial⟩ ?_
          exact K_9 _ (Option.some.inj H).symm
        · refine z_cne_t (M := M_X12_boundary) (tgt := 170) dX12_boundary_164 (by decide)  h_69 ?_
          refine z_aload_n (M := M_X12_boundary) dX12_boundary_170 rfl ?_
          refine z_getR (M := M_X12_boundary) (ci := 15) (C := RX12) (T := TX12) (Nf := 135) (ty := tyX12) cl15 dX12_boundary_171 ly_277 86 (by decide) t_2477 rfl ?_
          refine z_aload_n (M := M_X12_boundary) dX12_boundary_174 rfl ?_
          refine z_getI (M := M_X12_boundary) (ci := 15) (C := RX12) (T := TX12) (Nf := 135) (ty := tyX12) cl15 dX12_boundary_175 ly_277 89 (by decide) t_2480 rfl rfl ?_
          have J_71 : YY l E M_X12_boundary 4 0 0 (pS (none) σ') 189 [some (vr 277), some (vi what_0), some (vi k_2), some (vi a_65), some (vi b_66), some (vi leftBits_67), some (vi rightBits_68), some (zv (fR_isResult what_0 leftBits_67))] [vi (if (fR_isResult what_0 leftBits_67) = true then a_65 else b_66), vi (σ_3 kR_edges 0), vr 326] σ_3 0 0 := by
            obtain ⟨σ_72, σ_72_e, hi_73, H⟩ := wa_e H
            refine z_iast (M := M_X12_boundary) dX12_boundary_189 ly_326 rfl rfl rfl hi_73 σ_72_e ?_
            refine z_aload_n (M := M_X12_boundary) dX12_boundary_190 rfl ?_
            refine z_getR (M := M_X12_boundary) (ci := 15) (C := RX12) (T := TX12) (Nf := 135) (ty := tyX12) cl15 dX12_boundary_191 ly_277 87 (by decide) t_2478 rfl ?_
            refine z_aload_n (M := M_X12_boundary) dX12_boundary_194 rfl ?_
            refine z_getI (M := M_X12_boundary) (ci := 15) (C := RX12) (T := TX12) (Nf := 135) (ty := tyX12) cl15 dX12_boundary_195 ly_277 89 (by decide) t_2480 rfl rfl ?_
            have J_74 : YY l E M_X12_boundary 4 0 0 (pS (none) σ') 209 [some (vr 277), some (vi what_0), some (vi k_2), some (vi a_65), some (vi b_66), some (vi leftBits_67), some (vi rightBits_68), some (zv (fR_isResult what_0 leftBits_67))] [vi (if (fR_isResult what_0 leftBits_67) = true then b_66 else a_65), vi (σ_72 kR_edges 0), vr 327] σ_72 0 0 := by
              obtain ⟨σ_75, σ_75_e, hi_76, H⟩ := wa_e H
              refine z_iast (M := M_X12_boundary) dX12_boundary_209 ly_327 rfl rfl rfl hi_76 σ_75_e ?_
              refine z_aload_n (M := M_X12_boundary) dX12_boundary_210 rfl ?_
              refine z_getR (M := M_X12_boundary) (ci := 15) (C := RX12) (T := TX12) (Nf := 135) (ty := tyX12) cl15 dX12_boundary_211 ly_277 88 (by decide) t_2479 rfl ?_
              refine z_aload_n (M := M_X12_boundary) dX12_boundary_214 rfl ?_
              refine z_getI (M := M_X12_boundary) (ci := 15) (C := RX12) (T := TX12) (Nf := 135) (ty := tyX12) cl15 dX12_boundary_215 ly_277 89 (by decide) t_2480 rfl rfl ?_
              refine z_zconst (M := M_X12_boundary) (b := false) dX12_boundary_218 rfl ?_
              obtain ⟨σ_77, σ_77_e, hi_78, H⟩ := wa_e H
              refine z_zast (M := M_X12_boundary) dX12_boundary_219 ly_328 rfl rfl rfl hi_78 σ_77_e ?_
              refine z_aload_n (M := M_X12_boundary) dX12_boundary_220 rfl ?_
              refine z_dup (M := M_X12_boundary) dX12_boundary_221 rfl ?_
              refine z_getI (M := M_X12_boundary) (ci := 15) (C := RX12) (T := TX12) (Nf := 135) (ty := tyX12) cl15 dX12_boundary_222 ly_277 89 (by decide) t_2480 rfl rfl ?_
              refine z_iconst (M := M_X12_boundary) dX12_boundary_225 ?_
              refine z_iadd (M := M_X12_boundary) dX12_boundary_226 ?_
              obtain ⟨σ_79, σ_79_e, H⟩ := wf_e H
              refine z_putI (M := M_X12_boundary) (ci := 15) (C := RX12) (T := TX12) (Nf := 135) (ty := tyX12) cl15 dX12_boundary_227 ly_277 89 (by decide) t_2480 rfl rfl rfl rfl σ_79_e ?_
              refine z_iinc (M := M_X12_boundary) (lv' := [some (vr 277), some (vi what_0), some (vi (k_2 + 1)), some (vi a_65), some (vi b_66), some (vi leftBits_67), some (vi rightBits_68), some (zv (fR_isResult what_0 leftBits_67))]) dX12_boundary_230 rfl (Nat.le_of_ble_eq_true rfl) rfl rfl ?_
              refine z_goto (M := M_X12_boundary) (tgt := 7) dX12_boundary_233 (by decide) ?_
              refine z_le (lv' := [some (vr 277), some (vi what_0), some (vi (k_2 + 1)), none, none, none, none, none]) ⟨Or.inr rfl, Or.inr rfl, Or.inr rfl, Or.inl rfl, Or.inl rfl, Or.inl rfl, Or.inl rfl, Or.inl rfl, trivial⟩ ?_
              exact K_9 _ (Option.some.inj H).symm
            refine z_zload (M := M_X12_boundary) dX12_boundary_198 rfl ?_
            by_cases h_81 : (fR_isResult what_0 leftBits_67) = true
            · refine z_zeq_f (M := M_X12_boundary) (tgt := 208) dX12_boundary_200 (by decide) h_81 ?_
              refine z_iload (M := M_X12_boundary) dX12_boundary_203 rfl ?_
              refine z_goto (M := M_X12_boundary) (tgt := 209) dX12_boundary_205 (by decide) ?_
              exact z_st (by rw [if_pos (c := (fR_isResult what_0 leftBits_67) = true) h_81]) J_74
            · refine z_zeq_t (M := M_X12_boundary) (tgt := 208) dX12_boundary_200 (by decide) h_81 ?_
              refine z_iload_n (M := M_X12_boundary) dX12_boundary_208 rfl ?_
              exact z_st (by rw [if_neg (c := (fR_isResult what_0 leftBits_67) = true) h_81]) J_74
          refine z_zload (M := M_X12_boundary) dX12_boundary_178 rfl ?_
          by_cases h_82 : (fR_isResult what_0 leftBits_67) = true
          · refine z_zeq_f (M := M_X12_boundary) (tgt := 187) dX12_boundary_180 (by decide) h_82 ?_
            refine z_iload_n (M := M_X12_boundary) dX12_boundary_183 rfl ?_
            refine z_goto (M := M_X12_boundary) (tgt := 189) dX12_boundary_184 (by decide) ?_
            exact z_st (by rw [if_pos (c := (fR_isResult what_0 leftBits_67) = true) h_82]) J_71
          · refine z_zeq_t (M := M_X12_boundary) (tgt := 187) dX12_boundary_180 (by decide) h_82 ?_
            refine z_iload (M := M_X12_boundary) dX12_boundary_187 rfl ?_
            exact z_st (by rw [if_neg (c := (fR_isResult what_0 leftBits_67) = true) h_82]) J_71
      have H := he_20
      refine z_aload_n (M := M_X12_boundary) dX12_boundary_42 rfl ?_
      refine z_getR (M := M_X12_boundary) (ci := 15) (C := RX12) (T := TX12) (Nf := 135) (ty := tyX12) cl15 dX12_boundary_43 ly_277 68 (by decide) t_2459 rfl ?_
      refine z_iload_n (M := M_X12_boundary) dX12_boundary_46 rfl ?_
      obtain ⟨x_24, x_24_e, hi_25, H⟩ := rd_e H
      refine z_lald (M := M_X12_boundary) dX12_boundary_47 ly_318 rfl rfl rfl hi_25 x_24_e ?_
      refine z_aload_n (M := M_X12_boundary) dX12_boundary_48 rfl ?_
      refine z_getR (M := M_X12_boundary) (ci := 15) (C := RX12) (T := TX12) (Nf := 135) (ty := tyX12) cl15 dX12_boundary_49 ly_277 68 (by decide) t_2459 rfl ?_
      refine z_iload (M := M_X12_boundary) dX12_boundary_52 rfl ?_
      obtain ⟨x_26, x_26_e, hi_27, H⟩ := rd_e H
      refine z_lald (M := M_X12_boundary) dX12_boundary_54 ly_318 rfl rfl rfl hi_27 x_26_e ?_
      refine z_lcmp (M := M_X12_boundary) dX12_boundary_55 ?_
      rcases if_e H with ⟨h_28, H⟩ | ⟨h_28, H⟩
      · refine z_lif_ne_f (M := M_X12_boundary) (tgt := 78) dX12_boundary_56 (by decide) rfl rfl h_28 ?_
        refine z_aload_n (M := M_X12_boundary) dX12_boundary_59 rfl ?_
        refine z_iload_n (M := M_X12_boundary) dX12_boundary_60 rfl ?_
        refine z_zconst (M := M_X12_boundary) (b := false) dX12_boundary_61 rfl ?_
        obtain ⟨x_30, hc_29, H⟩ := bd_e H
        refine z_callV (M := M_X12_boundary) (M' := M_X12_insideOf) (as := [vi k_2, zv false]) (rest := []) rfl rfl dX12_boundary_62 m_X12_insideOf t_3424 t_3426 s_266 (c_X12_insideOf hl  hc_29) rfl rfl ly_277 rfl (Nat.le_of_ble_eq_true rfl) (Nat.le_of_ble_eq_true rfl) (Nat.le_of_ble_eq_true rfl) (Nat.le_of_ble_eq_true rfl) ?_
        refine z_st (st' := [vi x_30]) rfl ?_
        refine z_istore (M := M_X12_boundary) (lv' := [some (vr 277), some (vi what_0), some (vi k_2), some (vi x_16), some (vi x_18), some (vi x_30), none, none]) dX12_boundary_65 (Nat.le_of_ble_eq_true rfl) rfl rfl ?_
        refine z_aload_n (M := M_X12_boundary) dX12_boundary_67 rfl ?_
        refine z_iload_n (M := M_X12_boundary) dX12_boundary_68 rfl ?_
        refine z_zconst (M := M_X12_boundary) (b := true) dX12_boundary_69 rfl ?_
        obtain ⟨x_32, hc_31, H⟩ := bd_e H
        refine z_callV (M := M_X12_boundary) (M' := M_X12_insideOf) (as := [vi k_2, zv true]) (rest := []) rfl rfl dX12_boundary_70 m_X12_insideOf t_3424 t_3426 s_266 (c_X12_insideOf hl  hc_31) rfl rfl ly_277 rfl (Nat.le_of_ble_eq_true rfl) (Nat.le_of_ble_eq_true rfl) (Nat.le_of_ble_eq_true rfl) (Nat.le_of_ble_eq_true rfl) ?_
        refine z_st (st' := [vi x_32]) rfl ?_
        refine z_istore (M := M_X12_boundary) (lv' := [some (vr 277), some (vi what_0), some (vi k_2), some (vi x_16), some (vi x_18), some (vi x_30), some (vi x_32), none]) dX12_boundary_73 (Nat.le_of_ble_eq_true rfl) rfl rfl ?_
        refine z_goto (M := M_X12_boundary) (tgt := 148) dX12_boundary_75 (by decide) ?_
        exact J_83 _ _ _ _ (Option.some.inj H).symm
      · refine z_lif_ne_t (M := M_X12_boundary) (tgt := 78) dX12_boundary_56 (by decide) rfl rfl h_28 ?_
        obtain ⟨v_61, he_62, hk_63⟩ := bd_e H
        have J_64 : ∀ x_41, v_61 = x_41 → YY l E M_X12_boundary 4 0 0 (pS (none) σ') 101 [some (vr 277), some (vi what_0), some (vi k_2), some (vi x_16), some (vi x_18), none, none, none] [vi x_41] σ_3 0 0 := by
          intro x_41 e
          have H := hk_63
          rw [e] at H
          refine z_istore_n (M := M_X12_boundary) (lv' := [some (vr 277), some (vi what_0), some (vi k_2), some (vi x_41), some (vi x_18), none, none, none]) dX12_boundary_101 (Nat.le_of_ble_eq_true rfl) rfl rfl ?_
          obtain ⟨v_57, he_58, hk_59⟩ := bd_e H
          have J_60 : ∀ x_51, v_57 = x_51 → YY l E M_X12_boundary 4 0 0 (pS (none) σ') 127 [some (vr 277), some (vi what_0), some (vi k_2), some (vi x_41), some (vi x_18), none, none, none] [vi x_51] σ_3 0 0 := by
            intro x_51 e
            have H := hk_59
            rw [e] at H
            refine z_istore (M := M_X12_boundary) (lv' := [some (vr 277), some (vi what_0), some (vi k_2), some (vi x_41), some (vi x_51), none, none, none]) dX12_boundary_127 (Nat.le_of_ble_eq_true rfl) rfl rfl ?_
            refine z_aload_n (M := M_X12_boundary) dX12_boundary_129 rfl ?_
            refine z_iload_n (M := M_X12_boundary) dX12_boundary_130 rfl ?_
            refine z_zconst (M := M_X12_boundary) (b := false) dX12_boundary_131 rfl ?_
            obtain ⟨x_53, hc_52, H⟩ := bd_e H
            refine z_callV (M := M_X12_boundary) (M' := M_X12_insideOf) (as := [vi k_2, zv false]) (rest := []) rfl rfl dX12_boundary_132 m_X12_insideOf t_3424 t_3426 s_266 (c_X12_insideOf hl  hc_52) rfl rfl ly_277 rfl (Nat.le_of_ble_eq_true rfl) (Nat.le_of_ble_eq_true rfl) (Nat.le_of_ble_eq_true rfl) (Nat.le_of_ble_eq_true rfl) ?_
            refine z_st (st' := [vi x_53]) rfl ?_
            refine z_istore (M := M_X12_boundary) (lv' := [some (vr 277), some (vi what_0), some (vi k_2), some (vi x_41), some (vi x_51), none, some (vi x_53), none]) dX12_boundary_135 (Nat.le_of_ble_eq_true rfl) rfl rfl ?_
            refine z_iload (M := M_X12_boundary) dX12_boundary_137 rfl ?_
            refine z_aload_n (M := M_X12_boundary) dX12_boundary_139 rfl ?_
            refine z_getR (M := M_X12_boundary) (ci := 15) (C := RX12) (T := TX12) (Nf := 135) (ty := tyX12) cl15 dX12_boundary_140 ly_277 84 (by decide) t_2475 rfl ?_
            refine z_iload_n (M := M_X12_boundary) dX12_boundary_143 rfl ?_
            obtain ⟨x_54, x_54_e, hi_55, H⟩ := rd_e H
            refine z_iald (M := M_X12_boundary) dX12_boundary_144 ly_325 rfl rfl rfl hi_55 x_54_e ?_
            refine z_ixor (M := M_X12_boundary) dX12_boundary_145 ?_
            refine z_istore (M := M_X12_boundary) (lv' := [some (vr 277), some (vi what_0), some (vi k_2), some (vi x_41), some (vi x_51), some (vi (q_ixo x_53 x_54)), some (vi x_53), none]) dX12_boundary_146 (Nat.le_of_ble_eq_true rfl) rfl rfl ?_
            exact J_83 _ _ _ _ (Option.some.inj H).symm
          have H := he_58
          refine z_iload_n (M := M_X12_boundary) dX12_boundary_102 rfl ?_
          refine z_aload_n (M := M_X12_boundary) dX12_boundary_103 rfl ?_
          refine z_getR (M := M_X12_boundary) (ci := 15) (C := RX12) (T := TX12) (Nf := 135) (ty := tyX12) cl15 dX12_boundary_104 ly_277 82 (by decide) t_2473 rfl ?_
          refine z_iload_n (M := M_X12_boundary) dX12_boundary_107 rfl ?_
          obtain ⟨x_42, x_42_e, hi_43, H⟩ := rd_e H
          refine z_iald (M := M_X12_boundary) dX12_boundary_108 ly_323 rfl rfl rfl hi_43 x_42_e ?_
          rcases if_e H with ⟨h_44, H⟩ | ⟨h_44, H⟩
          · refine z_icmp_ne_f (M := M_X12_boundary) (tgt := 121) dX12_boundary_109 (by decide) rfl rfl h_44 ?_
            refine z_aload_n (M := M_X12_boundary) dX12_boundary_112 rfl ?_
            refine z_getR (M := M_X12_boundary) (ci := 15) (C := RX12) (T := TX12) (Nf := 135) (ty := tyX12) cl15 dX12_boundary_113 ly_277 83 (by decide) t_2474 rfl ?_
            refine z_iload_n (M := M_X12_boundary) dX12_boundary_116 rfl ?_
            obtain ⟨x_45, x_45_e, hi_46, H⟩ := rd_e H
            refine z_iald (M := M_X12_boundary) dX12_boundary_117 ly_324 rfl rfl rfl hi_46 x_45_e ?_
            refine z_goto (M := M_X12_boundary) (tgt := 127) dX12_boundary_118 (by decide) ?_
            exact J_60 _ (Option.some.inj H).symm
          · refine z_icmp_ne_t (M := M_X12_boundary) (tgt := 121) dX12_boundary_109 (by decide) rfl rfl h_44 ?_
            refine z_aload_n (M := M_X12_boundary) dX12_boundary_121 rfl ?_
            refine z_getR (M := M_X12_boundary) (ci := 15) (C := RX12) (T := TX12) (Nf := 135) (ty := tyX12) cl15 dX12_boundary_122 ly_277 82 (by decide) t_2473 rfl ?_
            refine z_iload_n (M := M_X12_boundary) dX12_boundary_125 rfl ?_
            obtain ⟨x_48, x_48_e, hi_49, H⟩ := rd_e H
            refine z_iald (M := M_X12_boundary) dX12_boundary_126 ly_323 rfl rfl rfl hi_49 x_48_e ?_
            exact J_60 _ (Option.some.inj H).symm
        have H := he_62
        refine z_aload_n (M := M_X12_boundary) dX12_boundary_78 rfl ?_
        refine z_getR (M := M_X12_boundary) (ci := 15) (C := RX12) (T := TX12) (Nf := 135) (ty := tyX12) cl15 dX12_boundary_79 ly_277 68 (by decide) t_2459 rfl ?_
        refine z_iload_n (M := M_X12_boundary) dX12_boundary_82 rfl ?_
        obtain ⟨x_34, x_34_e, hi_35, H⟩ := rd_e H
        refine z_lald (M := M_X12_boundary) dX12_boundary_83 ly_318 rfl rfl rfl hi_35 x_34_e ?_
        refine z_aload_n (M := M_X12_boundary) dX12_boundary_84 rfl ?_
        refine z_getR (M := M_X12_boundary) (ci := 15) (C := RX12) (T := TX12) (Nf := 135) (ty := tyX12) cl15 dX12_boundary_85 ly_277 68 (by decide) t_2459 rfl ?_
        refine z_iload (M := M_X12_boundary) dX12_boundary_88 rfl ?_
        obtain ⟨x_36, x_36_e, hi_37, H⟩ := rd_e H
        refine z_lald (M := M_X12_boundary) dX12_boundary_90 ly_318 rfl rfl rfl hi_37 x_36_e ?_
        refine z_lcmp (M := M_X12_boundary) dX12_boundary_91 ?_
        rcases if_e H with ⟨h_38, H⟩ | ⟨h_38, H⟩
        · refine z_lif_ge_f (M := M_X12_boundary) (tgt := 99) dX12_boundary_92 (by decide) rfl rfl h_38 ?_
          refine z_iload_n (M := M_X12_boundary) dX12_boundary_95 rfl ?_
          refine z_goto (M := M_X12_boundary) (tgt := 101) dX12_boundary_96 (by decide) ?_
          exact J_64 _ (Option.some.inj H).symm
        · refine z_lif_ge_t (M := M_X12_boundary) (tgt := 99) dX12_boundary_92 (by decide) rfl rfl (Int.not_lt.mp h_38) ?_
          refine z_iload (M := M_X12_boundary) dX12_boundary_99 rfl ?_
          exact J_64 _ (Option.some.inj H).symm
  · refine z_icmp_ge_t (M := M_X12_boundary) (tgt := 236) dX12_boundary_12 (by decide) rfl rfl (Int.not_lt.mp h_11) ?_
    exact J_87 _ _ (K_10 _ (Option.some.inj H).symm).symm
theorem c_X12_isAhead (hl : l.stackTraces = false) {σ : SG} {bx_0 : Int} {by_0 : Int} {vx_0 : Int} {vy_0 : Int} {ux_0 : Int} {uy_0 : Int} {r : Bool}  (H : fR_isAhead bx_0 by_0 vx_0 vy_0 ux_0 uy_0 = r) : en_S l E M_X12_isAhead 2 0 0 [vl bx_0, vl by_0, vl vx_0, vl vy_0, vl ux_0, vl uy_0] σ (pS (some (zv r)) σ) := by
  unfold fR_isAhead at H
  refine z_mk (lv := [some (vl bx_0), none, some (vl by_0), none, some (vl vx_0), none, some (vl vy_0), none, some (vl ux_0), none, some (vl uy_0), none, none, none, none, none, none, none]) m_X12_isAhead rfl hl (Nat.le_of_ble_eq_true rfl) rfl ?_
  refine z_lload_n (M := M_X12_isAhead) dX12_isAhead_0 rfl ?_
  refine z_lload_n (M := M_X12_isAhead) dX12_isAhead_1 rfl ?_
  refine z_lload (M := M_X12_isAhead) dX12_isAhead_2 rfl ?_
  refine z_lload (M := M_X12_isAhead) dX12_isAhead_4 rfl ?_
  refine z_callS (M := M_X12_isAhead) (M' := M_X12_cross) (as := [vl bx_0, vl by_0, vl vx_0, vl vy_0]) (rest := []) rfl rfl dX12_isAhead_6 m_X12_cross t_3265 t_3266 (c_X12_cross hl  rfl) rfl rfl (Nat.le_of_ble_eq_true rfl) (Nat.le_of_ble_eq_true rfl) (Nat.le_of_ble_eq_true rfl) (Nat.le_of_ble_eq_true rfl) ?_
  refine z_st (st' := [vl (fR_cross bx_0 by_0 vx_0 vy_0)]) rfl ?_
  refine z_lstore (M := M_X12_isAhead) (lv' := [some (vl bx_0), none, some (vl by_0), none, some (vl vx_0), none, some (vl vy_0), none, some (vl ux_0), none, some (vl uy_0), none, some (vl (fR_cross bx_0 by_0 vx_0 vy_0)), none, none, none, none, none]) dX12_isAhead_9 (Nat.le_of_ble_eq_true rfl) rfl rfl ?_
  refine z_lload_n (M := M_X12_isAhead) dX12_isAhead_11 rfl ?_
  refine z_lload_n (M := M_X12_isAhead) dX12_isAhead_12 rfl ?_
  refine z_lload (M := M_X12_isAhead) dX12_isAhead_13 rfl ?_
  refine z_lload (M := M_X12_isAhead) dX12_isAhead_15 rfl ?_
  refine z_callS (M := M_X12_isAhead) (M' := M_X12_cross) (as := [vl bx_0, vl by_0, vl ux_0, vl uy_0]) (rest := []) rfl rfl dX12_isAhead_17 m_X12_cross t_3265 t_3266 (c_X12_cross hl  rfl) rfl rfl (Nat.le_of_ble_eq_true rfl) (Nat.le_of_ble_eq_true rfl) (Nat.le_of_ble_eq_true rfl) (Nat.le_of_ble_eq_true rfl) ?_
  refine z_st (st' := [vl (fR_cross bx_0 by_0 ux_0 uy_0)]) rfl ?_
  refine z_lstore (M := M_X12_isAhead) (lv' := [some (vl bx_0), none, some (vl by_0), none, some (vl vx_0), none, some (vl vy_0), none, some (vl ux_0), none, some (vl uy_0), none, some (vl (fR_cross bx_0 by_0 vx_0 vy_0)), none, some (vl (fR_cross bx_0 by_0 ux_0 uy_0)), none, none, none]) dX12_isAhead_20 (Nat.le_of_ble_eq_true rfl) rfl rfl ?_
  have J_3 : YY l E M_X12_isAhead 2 0 0 (pS (some (zv r)) σ) 45 [some (vl bx_0), none, some (vl by_0), none, some (vl vx_0), none, some (vl vy_0), none, some (vl ux_0), none, some (vl uy_0), none, some (vl (fR_cross bx_0 by_0 vx_0 vy_0)), none, some (vl (fR_cross bx_0 by_0 ux_0 uy_0)), none, none, none] [vi (if (w64 (fR_cross bx_0 by_0 vx_0 vy_0)) < 0 then 0 else (if (w64 (fR_cross bx_0 by_0 vx_0 vy_0)) = 0 then 1 else 2))] σ 0 0 := by
    refine z_istore (M := M_X12_isAhead) (lv' := [some (vl bx_0), none, some (vl by_0), none, some (vl vx_0), none, some (vl vy_0), none, some (vl ux_0), none, some (vl uy_0), none, some (vl (fR_cross bx_0 by_0 vx_0 vy_0)), none, some (vl (fR_cross bx_0 by_0 ux_0 uy_0)), none, some (vi (if (w64 (fR_cross bx_0 by_0 vx_0 vy_0)) < 0 then 0 else (if (w64 (fR_cross bx_0 by_0 vx_0 vy_0)) = 0 then 1 else 2))), none]) dX12_isAhead_45 (Nat.le_of_ble_eq_true rfl) rfl rfl ?_
    have J_6 : YY l E M_X12_isAhead 2 0 0 (pS (some (zv r)) σ) 70 [some (vl bx_0), none, some (vl by_0), none, some (vl vx_0), none, some (vl vy_0), none, some (vl ux_0), none, some (vl uy_0), none, some (vl (fR_cross bx_0 by_0 vx_0 vy_0)), none, some (vl (fR_cross bx_0 by_0 ux_0 uy_0)), none, some (vi (if (w64 (fR_cross bx_0 by_0 vx_0 vy_0)) < 0 then 0 else (if (w64 (fR_cross bx_0 by_0 vx_0 vy_0)) = 0 then 1 else 2))), none] [vi (if (w64 (fR_cross bx_0 by_0 ux_0 uy_0)) < 0 then 0 else (if (w64 (fR_cross bx_0 by_0 ux_0 uy_0)) = 0 then 1 else 2))] σ 0 0 := by
      refine z_istore (M := M_X12_isAhead) (lv' := [some (vl bx_0), none, some (vl by_0), none, some (vl vx_0), none, some (vl vy_0), none, some (vl ux_0), none, some (vl uy_0), none, some (vl (fR_cross bx_0 by_0 vx_0 vy_0)), none, some (vl (fR_cross bx_0 by_0 ux_0 uy_0)), none, some (vi (if (w64 (fR_cross bx_0 by_0 vx_0 vy_0)) < 0 then 0 else (if (w64 (fR_cross bx_0 by_0 vx_0 vy_0)) = 0 then 1 else 2))), some (vi (if (w64 (fR_cross bx_0 by_0 ux_0 uy_0)) < 0 then 0 else (if (w64 (fR_cross bx_0 by_0 ux_0 uy_0)) = 0 then 1 else 2)))]) dX12_isAhead_70 (Nat.le_of_ble_eq_true rfl) rfl rfl ?_
      have J_7 : YY l E M_X12_isAhead 2 0 0 (pS (some (zv r)) σ) 107 [some (vl bx_0), none, some (vl by_0), none, some (vl vx_0), none, some (vl vy_0), none, some (vl ux_0), none, some (vl uy_0), none, some (vl (fR_cross bx_0 by_0 vx_0 vy_0)), none, some (vl (fR_cross bx_0 by_0 ux_0 uy_0)), none, some (vi (if (w64 (fR_cross bx_0 by_0 vx_0 vy_0)) < 0 then 0 else (if (w64 (fR_cross bx_0 by_0 vx_0 vy_0)) = 0 then 1 else 2))), some (vi (if (w64 (fR_cross bx_0 by_0 ux_0 uy_0)) < 0 then 0 else (if (w64 (fR_cross bx_0 by_0 ux_0 uy_0)) = 0 then 1 else 2)))] [zv (decide (((w32 (if (w64 (fR_cross bx_0 by_0 vx_0 vy_0)) < 0 then 0 else (if (w64 (fR_cross bx_0 by_0 vx_0 vy_0)) = 0 then 1 else 2))) < (w32 (if (w64 (fR_cross bx_0 by_0 ux_0 uy_0)) < 0 then 0 else (if (w64 (fR_cross bx_0 by_0 ux_0 uy_0)) = 0 then 1 else 2)))) ∨ (((w32 (if (w64 (fR_cross bx_0 by_0 vx_0 vy_0)) < 0 then 0 else (if (w64 (fR_cross bx_0 by_0 vx_0 vy_0)) = 0 then 1 else 2))) = (w32 (if (w64 (fR_cross bx_0 by_0 ux_0 uy_0)) < 0 then 0 else (if (w64 (fR_cross bx_0 by_0 ux_0 uy_0)) = 0 then 1 else 2)))) ∧ ((w64 (fR_cross vx_0 vy_0 ux_0 uy_0)) < 0))))] σ 0 0 := by
        cases H
        exact z_zret (M := M_X12_isAhead) dX12_isAhead_107 rfl (Nat.le_of_ble_eq_true rfl) (Nat.le_of_ble_eq_true rfl) ⟨rfl, rfl⟩
      refine z_iload (M := M_X12_isAhead) dX12_isAhead_72 rfl ?_
      refine z_iload (M := M_X12_isAhead) dX12_isAhead_74 rfl ?_
      by_cases h_8 : (w32 (if (w64 (fR_cross bx_0 by_0 vx_0 vy_0)) < 0 then 0 else (if (w64 (fR_cross bx_0 by_0 vx_0 vy_0)) = 0 then 1 else 2))) < (w32 (if (w64 (fR_cross bx_0 by_0 ux_0 uy_0)) < 0 then 0 else (if (w64 (fR_cross bx_0 by_0 ux_0 uy_0)) = 0 then 1 else 2)))
      · refine z_icmp_lt_t (M := M_X12_isAhead) (tgt := 102) dX12_isAhead_76 (by decide) rfl rfl h_8 ?_
        refine z_iconst (M := M_X12_isAhead) dX12_isAhead_102 ?_
        refine z_goto (M := M_X12_isAhead) (tgt := 107) dX12_isAhead_103 (by decide) ?_
        exact z_st (by rw [zv_t (p := ((w32 (if (w64 (fR_cross bx_0 by_0 vx_0 vy_0)) < 0 then 0 else (if (w64 (fR_cross bx_0 by_0 vx_0 vy_0)) = 0 then 1 else 2))) < (w32 (if (w64 (fR_cross bx_0 by_0 ux_0 uy_0)) < 0 then 0 else (if (w64 (fR_cross bx_0 by_0 ux_0 uy_0)) = 0 then 1 else 2)))) ∨ (((w32 (if (w64 (fR_cross bx_0 by_0 vx_0 vy_0)) < 0 then 0 else (if (w64 (fR_cross bx_0 by_0 vx_0 vy_0)) = 0 then 1 else 2))) = (w32 (if (w64 (fR_cross bx_0 by_0 ux_0 uy_0)) < 0 then 0 else (if (w64 (fR_cross bx_0 by_0 ux_0 uy_0)) = 0 then 1 else 2)))) ∧ ((w64 (fR_cross vx_0 vy_0 ux_0 uy_0)) < 0))) (Or.inl h_8)]) J_7
      · refine z_icmp_lt_f (M := M_X12_isAhead) (tgt := 102) dX12_isAhead_76 (by decide) rfl rfl (Int.not_lt.mp h_8) ?_
        refine z_iload (M := M_X12_isAhead) dX12_isAhead_79 rfl ?_
        refine z_iload (M := M_X12_isAhead) dX12_isAhead_81 rfl ?_
        by_cases h_9 : (w32 (if (w64 (fR_cross bx_0 by_0 vx_0 vy_0)) < 0 then 0 else (if (w64 (fR_cross bx_0 by_0 vx_0 vy_0)) = 0 then 1 else 2))) = (w32 (if (w64 (fR_cross bx_0 by_0 ux_0 uy_0)) < 0 then 0 else (if (w64 (fR_cross bx_0 by_0 ux_0 uy_0)) = 0 then 1 else 2)))
        · refine z_icmp_ne_f (M := M_X12_isAhead) (tgt := 106) dX12_isAhead_83 (by decide) rfl rfl h_9 ?_
          refine z_lload (M := M_X12_isAhead) dX12_isAhead_86 rfl ?_
          refine z_lload (M := M_X12_isAhead) dX12_isAhead_88 rfl ?_
          refine z_lload (M := M_X12_isAhead) dX12_isAhead_90 rfl ?_
          refine z_lload (M := M_X12_isAhead) dX12_isAhead_92 rfl ?_
          refine z_callS (M := M_X12_isAhead) (M' := M_X12_cross) (as := [vl vx_0, vl vy_0, vl ux_0, vl uy_0]) (rest := []) rfl rfl dX12_isAhead_94 m_X12_cross t_3265 t_3266 (c_X12_cross hl  rfl) rfl rfl (Nat.le_of_ble_eq_true rfl) (Nat.le_of_ble_eq_true rfl) (Nat.le_of_ble_eq_true rfl) (Nat.le_of_ble_eq_true rfl) ?_
          refine z_st (st' := [vl (fR_cross vx_0 vy_0 ux_0 uy_0)]) rfl ?_
          refine z_lconst (M := M_X12_isAhead) (m := 0) dX12_isAhead_97 (by decide +kernel) ?_
          refine z_lcmp (M := M_X12_isAhead) dX12_isAhead_98 ?_
          by_cases h_10 : (w64 (fR_cross vx_0 vy_0 ux_0 uy_0)) < 0
          · refine z_lif_ge_f (M := M_X12_isAhead) (tgt := 106) dX12_isAhead_99 (by decide) rfl (by decide +kernel) h_10 ?_
            refine z_iconst (M := M_X12_isAhead) dX12_isAhead_102 ?_
            refine z_goto (M := M_X12_isAhead) (tgt := 107) dX12_isAhead_103 (by decide) ?_
            exact z_st (by rw [zv_t (p := ((w32 (if (w64 (fR_cross bx_0 by_0 vx_0 vy_0)) < 0 then 0 else (if (w64 (fR_cross bx_0 by_0 vx_0 vy_0)) = 0 then 1 else 2))) < (w32 (if (w64 (fR_cross bx_0 by_0 ux_0 uy_0)) < 0 then 0 else (if (w64 (fR_cross bx_0 by_0 ux_0 uy_0)) = 0 then 1 else 2)))) ∨ (((w32 (if (w64 (fR_cross bx_0 by_0 vx_0 vy_0)) < 0 then 0 else (if (w64 (fR_cross bx_0 by_0 vx_0 vy_0)) = 0 then 1 else 2))) = (w32 (if (w64 (fR_cross bx_0 by_0 ux_0 uy_0)) < 0 then 0 else (if (w64 (fR_cross bx_0 by_0 ux_0 uy_0)) = 0 then 1 else 2)))) ∧ ((w64 (fR_cross vx_0 vy_0 ux_0 uy_0)) < 0))) (Or.inr ⟨h_9, h_10⟩)]) J_7
          · refine z_lif_ge_t (M := M_X12_isAhead) (tgt := 106) dX12_isAhead_99 (by decide) rfl (by decide +kernel) (Int.not_lt.mp h_10) ?_
            refine z_iconst (M := M_X12_isAhead) dX12_isAhead_106 ?_
            exact z_st (by rw [zv_f (p := ((w32 (if (w64 (fR_cross bx_0 by_0 vx_0 vy_0)) < 0 then 0 else (if (w64 (fR_cross bx_0 by_0 vx_0 vy_0)) = 0 then 1 else 2))) < (w32 (if (w64 (fR_cross bx_0 by_0 ux_0 uy_0)) < 0 then 0 else (if (w64 (fR_cross bx_0 by_0 ux_0 uy_0)) = 0 then 1 else 2)))) ∨ (((w32 (if (w64 (fR_cross bx_0 by_0 vx_0 vy_0)) < 0 then 0 else (if (w64 (fR_cross bx_0 by_0 vx_0 vy_0)) = 0 then 1 else 2))) = (w32 (if (w64 (fR_cross bx_0 by_0 ux_0 uy_0)) < 0 then 0 else (if (w64 (fR_cross bx_0 by_0 ux_0 uy_0)) = 0 then 1 else 2)))) ∧ ((w64 (fR_cross vx_0 vy_0 ux_0 uy_0)) < 0))) (fun q => q.elim h_8 (fun q => h_10 q.2))]) J_7
        · refine z_icmp_ne_t (M := M_X12_isAhead) (tgt := 106) dX12_isAhead_83 (by decide) rfl rfl h_9 ?_
          refine z_iconst (M := M_X12_isAhead) dX12_isAhead_106 ?_
          exact z_st (by rw [zv_f (p := ((w32 (if (w64 (fR_cross bx_0 by_0 vx_0 vy_0)) < 0 then 0 else (if (w64 (fR_cross bx_0 by_0 vx_0 vy_0)) = 0 then 1 else 2))) < (w32 (if (w64 (fR_cross bx_0 by_0 ux_0 uy_0)) < 0 then 0 else (if (w64 (fR_cross bx_0 by_0 ux_0 uy_0)) = 0 then 1 else 2)))) ∨ (((w32 (if (w64 (fR_cross bx_0 by_0 vx_0 vy_0)) < 0 then 0 else (if (w64 (fR_cross bx_0 by_0 vx_0 vy_0)) = 0 then 1 else 2))) = (w32 (if (w64 (fR_cross bx_0 by_0 ux_0 uy_0)) < 0 then 0 else (if (w64 (fR_cross bx_0 by_0 ux_0 uy_0)) = 0 then 1 else 2)))) ∧ ((w64 (fR_cross vx_0 vy_0 ux_0 uy_0)) < 0))) (fun q => q.elim h_8 (fun q => h_9 q.1))]) J_7
    refine z_lload (M := M_X12_isAhead) dX12_isAhead_47 rfl ?_
    refine z_lconst (M := M_X12_isAhead) (m := 0) dX12_isAhead_49 (by decide +kernel) ?_
    refine z_lcmp (M := M_X12_isAhead) dX12_isAhead_50 ?_
    by_cases h_11 : (w64 (fR_cross bx_0 by_0 ux_0 uy_0)) < 0
    · refine z_lif_ge_f (M := M_X12_isAhead) (tgt := 58) dX12_isAhead_51 (by decide) rfl (by decide +kernel) h_11 ?_
      refine z_iconst (M := M_X12_isAhead) dX12_isAhead_54 ?_
      refine z_goto (M := M_X12_isAhead) (tgt := 70) dX12_isAhead_55 (by decide) ?_
      exact z_st (by rw [if_pos (c := (w64 (fR_cross bx_0 by_0 ux_0 uy_0)) < 0) h_11]) J_6
    · refine z_lif_ge_t (M := M_X12_isAhead) (tgt := 58) dX12_isAhead_51 (by decide) rfl (by decide +kernel) (Int.not_lt.mp h_11) ?_
      have J_12 : YY l E M_X12_isAhead 2 0 0 (pS (some (zv r)) σ) 70 [some (vl bx_0), none, some (vl by_0), none, some (vl vx_0), none, some (vl vy_0), none, some (vl ux_0), none, some (vl uy_0), none, some (vl (fR_cross bx_0 by_0 vx_0 vy_0)), none, some (vl (fR_cross bx_0 by_0 ux_0 uy_0)), none, some (vi (if (w64 (fR_cross bx_0 by_0 vx_0 vy_0)) < 0 then 0 else (if (w64 (fR_cross bx_0 by_0 vx_0 vy_0)) = 0 then 1 else 2))), none] [vi (if (w64 (fR_cross bx_0 by_0 ux_0 uy_0)) = 0 then 1 else 2)] σ 0 0 := by
        exact z_st (by rw [if_neg (c := (w64 (fR_cross bx_0 by_0 ux_0 uy_0)) < 0) h_11]) J_6
      refine z_lload (M := M_X12_isAhead) dX12_isAhead_58 rfl ?_
      refine z_lconst (M := M_X12_isAhead) (m := 0) dX12_isAhead_60 (by decide +kernel) ?_
      refine z_lcmp (M := M_X12_isAhead) dX12_isAhead_61 ?_
      by_cases h_13 : (w64 (fR_cross bx_0 by_0 ux_0 uy_0)) = 0
      · refine z_lif_ne_f (M := M_X12_isAhead) (tgt := 69) dX12_isAhead_62 (by decide) rfl (by decide +kernel) h_13 ?_
        refine z_iconst (M := M_X12_isAhead) dX12_isAhead_65 ?_
        refine z_goto (M := M_X12_isAhead) (tgt := 70) dX12_isAhead_66 (by decide) ?_
        exact z_st (by rw [if_pos (c := (w64 (fR_cross bx_0 by_0 ux_0 uy_0)) = 0) h_13]) J_12
      · refine z_lif_ne_t (M := M_X12_isAhead) (tgt := 69) dX12_isAhead_62 (by decide) rfl (by decide +kernel) h_13 ?_
        refine z_iconst (M := M_X12_isAhead) dX12_isAhead_69 ?_
        exact z_st (by rw [if_neg (c := (w64 (fR_cross bx_0 by_0 ux_0 uy_0)) = 0) h_13]) J_12
  refine z_lload (M := M_X12_isAhead) dX12_isAhead_22 rfl ?_
  refine z_lconst (M := M_X12_isAhead) (m := 0) dX12_isAhead_24 (by decide +kernel) ?_
  refine z_lcmp (M := M_X12_isAhead) dX12_isAhead_25 ?_
  by_cases h_14 : (w64 (fR_cross bx_0 by_0 vx_0 vy_0)) < 0
  · refine z_lif_ge_f (M := M_X12_isAhead) (tgt := 33) dX12_isAhead_26 (by decide) rfl (by decide +kernel) h_14 ?_
    refine z_iconst (M := M_X12_isAhead) dX12_isAhead_29 ?_
    refine z_goto (M := M_X12_isAhead) (tgt := 45) dX12_isAhead_30 (by decide) ?_
    exact z_st (by rw [if_pos (c := (w64 (fR_cross bx_0 by_0 vx_0 vy_0)) < 0) h_14]) J_3
  · refine z_lif_ge_t (M := M_X12_isAhead) (tgt := 33) dX12_isAhead_26 (by decide) rfl (by decide +kernel) (Int.not_lt.mp h_14) ?_
    have J_15 : YY l E M_X12_isAhead 2 0 0 (pS (some (zv r)) σ) 45 [some (vl bx_0), none, some (vl by_0), none, some (vl vx_0), none, some (vl vy_0), none, some (vl ux_0), none, some (vl uy_0), none, some (vl (fR_cross bx_0 by_0 vx_0 vy_0)), none, some (vl (fR_cross bx_0 by_0 ux_0 uy_0)), none, none, none] [vi (if (w64 (fR_cross bx_0 by_0 vx_0 vy_0)) = 0 then 1 else 2)] σ 0 0 := by
      exact z_st (by rw [if_neg (c := (w64 (fR_cross bx_0 by_0 vx_0 vy_0)) < 0) h_14]) J_3
    refine z_lload (M := M_X12_isAhead) dX12_isAhead_33 rfl ?_
    refine z_lconst (M := M_X12_isAhead) (m := 0) dX12_isAhead_35 (by decide +kernel) ?_
    refine z_lcmp (M := M_X12_isAhead) dX12_isAhead_36 ?_
    by_cases h_16 : (w64 (fR_cross bx_0 by_0 vx_0 vy_0)) = 0
    · refine z_lif_ne_f (M := M_X12_isAhead) (tgt := 44) dX12_isAhead_37 (by decide) rfl (by decide +kernel) h_16 ?_
      refine z_iconst (M := M_X12_isAhead) dX12_isAhead_40 ?_
      refine z_goto (M := M_X12_isAhead) (tgt := 45) dX12_isAhead_41 (by decide) ?_
      exact z_st (by rw [if_pos (c := (w64 (fR_cross bx_0 by_0 vx_0 vy_0)) = 0) h_16]) J_15
    · refine z_lif_ne_t (M := M_X12_isAhead) (tgt := 44) dX12_isAhead_37 (by decide) rfl (by decide +kernel) h_16 ?_
      refine z_iconst (M := M_X12_isAhead) dX12_isAhead_44 ?_
      exact z_st (by rw [if_neg (c := (w64 (fR_cross bx_0 by_0 vx_0 vy_0)) = 0) h_16]) J_15
end LFAX
