section LFAN
variable {l : Launch} {E : EE}
theorem c_X11_area (hl : l.stackTraces = false) {σ : SG} {slot_0 : Int} {r : Int ⊕ Nat} {σ' : SG}  (H : fQ_area σ slot_0 = some (r, σ')) : en_S l E M_X11_area 7 2 12 [vr 32, vi slot_0] σ (pT (rlT r) σ') := by
  unfold fQ_area at H
  refine z_mk (lv := [some (vr 32), some (vi slot_0), none, none, none, none, none, none, none, none, none]) m_X11_area rfl hl (Nat.le_of_ble_eq_true rfl) rfl ?_
  refine z_aload_n (M := M_X11_area) dX11_area_0 rfl ?_
  refine z_iload_n (M := M_X11_area) dX11_area_1 rfl ?_
  obtain ⟨z_69, σ_2, hc_1, K_4, K_5⟩ := bt_e H
  rcases z_69 with x_3 | z_69
  · have H := K_4 _ rfl
    refine z_callV (M := M_X11_area) (M' := M_X11_slotNumbered) (as := [vi slot_0]) (rest := []) rfl rfl dX11_area_2 m_X11_slotNumbered t_744 t_746 s_2 (v := some (vr x_3)) (c_X11_slotNumbered hl  hc_1) rfl rfl ly_32 rfl (Nat.le_of_ble_eq_true rfl) (Nat.le_of_ble_eq_true rfl) (Nat.le_of_ble_eq_true rfl) (Nat.le_of_ble_eq_true rfl) ?_
    refine z_st (st' := [vr x_3]) rfl ?_
    obtain ⟨hs_6, H⟩ := ck_e H
    refine z_astore_n (M := M_X11_area) (lv' := [some (vr 32), some (vi slot_0), some (vr x_3), none, none, none, none, none, none, none, none]) dX11_area_5 (Nat.le_of_ble_eq_true rfl) rfl rfl ?_
    refine z_aload_n (M := M_X11_area) dX11_area_6 rfl ?_
    obtain ⟨z_68, σ_8, hc_7, K_10, K_11⟩ := bt_e H
    rcases z_68 with x_9 | z_68
    · have H := K_10 _ rfl
      refine z_callS (M := M_X11_area) (M' := M_X11_mustBeThere) (as := [vr x_3]) (rest := []) rfl rfl dX11_area_7 m_X11_mustBeThere t_1047 t_1048 (v := none) (c_X11_mustBeThere hl hs_6 hc_7) rfl rfl (Nat.le_of_ble_eq_true rfl) (Nat.le_of_ble_eq_true rfl) (Nat.le_of_ble_eq_true rfl) (Nat.le_of_ble_eq_true rfl) ?_
      refine z_st (st' := []) rfl ?_
      refine z_lconst (M := M_X11_area) (m := 0) dX11_area_10 (by decide +kernel) ?_
      refine z_lstore_n (M := M_X11_area) (lv' := [some (vr 32), some (vi slot_0), some (vr x_3), some (vl 0), none, none, none, none, none, none, none]) dX11_area_11 (Nat.le_of_ble_eq_true rfl) rfl rfl ?_
      refine z_iconst (M := M_X11_area) dX11_area_12 ?_
      refine z_istore (M := M_X11_area) (lv' := [some (vr 32), some (vi slot_0), some (vr x_3), some (vl 0), none, some (vi 0), none, none, none, none, none]) dX11_area_13 (Nat.le_of_ble_eq_true rfl) rfl rfl ?_
      refine z_iconst (M := M_X11_area) dX11_area_15 ?_
      refine z_istore (M := M_X11_area) (lv' := [some (vr 32), some (vi slot_0), some (vr x_3), some (vl 0), none, some (vi 0), some (vi 0), none, none, none, none]) dX11_area_16 (Nat.le_of_ble_eq_true rfl) rfl rfl ?_
      obtain ⟨rl_18, hw_15, hk_16⟩ := bd_e H
      have J_67 : ∀ total_64 from_65 at_66, rl_18 = (total_64, from_65, at_66) → YY l E M_X11_area 7 2 12 (pT (rlT r) σ') 117 [some (vr 32), some (vi slot_0), some (vr x_3), some (vl total_64), none, some (vi from_65), some (vi at_66), none, none, none, none] [] σ_8 2 12 := by
        intro total_64 from_65 at_66 e
        have H := hk_16
        rw [e] at H
        refine z_lload_n (M := M_X11_area) dX11_area_117 rfl ?_
        cases H
        exact z_lret (M := M_X11_area) dX11_area_118 rfl (Nat.le_of_ble_eq_true rfl) (Nat.le_of_ble_eq_true rfl) ⟨rfl, rfl⟩
      refine whl_go hw_15 (fun (total_12, from_13, at_14) => YY l E M_X11_area 7 2 12 (pT (rlT r) σ') 18 [some (vr 32), some (vi slot_0), some (vr x_3), some (vl total_12), none, some (vi from_13), some (vi at_14), none, none, none, none] [] σ_8 2 12) ?_
      rintro ⟨total_12, from_13, at_14⟩ o_19 H K_20 K_21
      refine z_iload (M := M_X11_area) dX11_area_18 rfl ?_
      refine z_iconst (M := M_X11_area) dX11_area_20 ?_
      refine z_iadd (M := M_X11_area) dX11_area_21 ?_
      refine z_aload_n (M := M_X11_area) dX11_area_22 rfl ?_
      refine z_getI (M := M_X11_area) (ci := 9) (C := RX6) (T := TX6) (Nf := 5) (ty := tyX6) cl9 dX11_area_23 (ly_S hs_6) 3 (by decide) t_79 rfl rfl ?_
      rcases if_e H with ⟨h_22, H⟩ | ⟨h_22, H⟩
      · refine z_icmp_ge_f (M := M_X11_area) (tgt := 117) dX11_area_26 (by decide) rfl rfl h_22 ?_
        refine z_iconst (M := M_X11_area) dX11_area_29 ?_
        refine z_istore (M := M_X11_area) (lv' := [some (vr 32), some (vi slot_0), some (vr x_3), some (vl total_12), none, some (vi from_13), some (vi at_14), some (vi 0), none, none, none]) dX11_area_30 (Nat.le_of_ble_eq_true rfl) rfl rfl ?_
        obtain ⟨rl_29, hw_26, hk_27⟩ := bd_e H
        have J_62 : ∀ total_56 from_57 row_58, rl_29 = (total_56, from_57, row_58) → YY l E M_X11_area 7 2 12 (pT (rlT r) σ') 106 [some (vr 32), some (vi slot_0), some (vr x_3), some (vl total_56), none, some (vi from_57), some (vi at_14), some (vi row_58), none, none, none] [] σ_8 2 12 := by
          intro total_56 from_57 row_58 e
          have H := hk_27
          rw [e] at H
          refine z_aload_n (M := M_X11_area) dX11_area_106 rfl ?_
          refine z_iload (M := M_X11_area) dX11_area_107 rfl ?_
          obtain ⟨x_60, hc_59, H⟩ := bd_e H
          refine z_callV (M := M_X11_area) (M' := M_X6_behind) (as := [vi at_14]) (rest := []) rfl rfl dX11_area_109 m_X6_behind t_1391 t_1107 t_1108 (c_X6_behind hl hs_6 hc_59) rfl rfl (ly_S hs_6) rfl (Nat.le_of_ble_eq_true rfl) (Nat.le_of_ble_eq_true rfl) (Nat.le_of_ble_eq_true rfl) (Nat.le_of_ble_eq_true rfl) ?_
          refine z_st (st' := [vi x_60]) rfl ?_
          refine z_istore (M := M_X11_area) (lv' := [some (vr 32), some (vi slot_0), some (vr x_3), some (vl total_56), none, some (vi from_57), some (vi x_60), some (vi row_58), none, none, none]) dX11_area_112 (Nat.le_of_ble_eq_true rfl) rfl rfl ?_
          refine z_goto (M := M_X11_area) (tgt := 18) dX11_area_114 (by decide) ?_
          refine z_le (lv' := [some (vr 32), some (vi slot_0), some (vr x_3), some (vl total_56), none, some (vi from_57), some (vi x_60), none, none, none, none]) ⟨Or.inr rfl, Or.inr rfl, Or.inr rfl, Or.inr rfl, Or.inl rfl, Or.inr rfl, Or.inr rfl, Or.inl rfl, Or.inl rfl, Or.inl rfl, Or.inl rfl, trivial⟩ ?_
          exact K_20 _ (Option.some.inj H).symm
        refine whl_go hw_26 (fun (total_23, from_24, row_25) => YY l E M_X11_area 7 2 12 (pT (rlT r) σ') 32 [some (vr 32), some (vi slot_0), some (vr x_3), some (vl total_23), none, some (vi from_24), some (vi at_14), some (vi row_25), none, none, none] [] σ_8 2 12) ?_
        rintro ⟨total_23, from_24, row_25⟩ o_30 H K_31 K_32
        refine z_iload (M := M_X11_area) dX11_area_32 rfl ?_
        refine z_aload_n (M := M_X11_area) dX11_area_34 rfl ?_
        refine z_iload (M := M_X11_area) dX11_area_35 rfl ?_
        obtain ⟨x_34, hc_33, H⟩ := bd_e H
        refine z_callV (M := M_X11_area) (M' := M_X6_rows) (as := [vi at_14]) (rest := [vi row_25]) rfl rfl dX11_area_37 m_X6_rows t_1388 t_1075 t_1076 (c_X6_rows hl hs_6 hc_33) rfl rfl (ly_S hs_6) rfl (Nat.le_of_ble_eq_true rfl) (Nat.le_of_ble_eq_true rfl) (Nat.le_of_ble_eq_true rfl) (Nat.le_of_ble_eq_true rfl) ?_
        refine z_st (st' := [vi x_34, vi row_25]) rfl ?_
        rcases if_e H with ⟨h_35, H⟩ | ⟨h_35, H⟩
        · refine z_icmp_ge_f (M := M_X11_area) (tgt := 106) dX11_area_40 (by decide) rfl rfl h_35 ?_
          refine z_aload_n (M := M_X11_area) dX11_area_43 rfl ?_
          refine z_iload (M := M_X11_area) dX11_area_44 rfl ?_
          refine z_iload (M := M_X11_area) dX11_area_46 rfl ?_
          obtain ⟨x_37, hc_36, H⟩ := bd_e H
          refine z_callV (M := M_X11_area) (M' := M_X6_rowLength) (as := [vi at_14, vi row_25]) (rest := []) rfl rfl dX11_area_48 m_X6_rowLength t_1389 t_1080 t_1081 (c_X6_rowLength hl hs_6 hc_36) rfl rfl (ly_S hs_6) rfl (Nat.le_of_ble_eq_true rfl) (Nat.le_of_ble_eq_true rfl) (Nat.le_of_ble_eq_true rfl) (Nat.le_of_ble_eq_true rfl) ?_
          refine z_st (st' := [vi x_37]) rfl ?_
          refine z_istore (M := M_X11_area) (lv' := [some (vr 32), some (vi slot_0), some (vr x_3), some (vl total_23), none, some (vi from_24), some (vi at_14), some (vi row_25), some (vi x_37), none, none]) dX11_area_51 (Nat.le_of_ble_eq_true rfl) rfl rfl ?_
          obtain ⟨v_41, he_38, hk_39⟩ := bd_e H
          have J_54 : ∀ total_52, v_41 = total_52 → YY l E M_X11_area 7 2 12 (pT (rlT r) σ') 93 [some (vr 32), some (vi slot_0), some (vr x_3), some (vl total_52), none, some (vi from_24), some (vi at_14), some (vi row_25), some (vi x_37), none, none] [] σ_8 2 12 := by
            intro total_52 e
            have H := hk_39
            rw [e] at H
            refine z_iload (M := M_X11_area) dX11_area_93 rfl ?_
            refine z_iload (M := M_X11_area) dX11_area_95 rfl ?_
            refine z_iadd (M := M_X11_area) dX11_area_97 ?_
            refine z_istore (M := M_X11_area) (lv' := [some (vr 32), some (vi slot_0), some (vr x_3), some (vl total_52), none, some (vi (from_24 + x_37)), some (vi at_14), some (vi row_25), some (vi x_37), none, none]) dX11_area_98 (Nat.le_of_ble_eq_true rfl) rfl rfl ?_
            refine z_iinc (M := M_X11_area) (lv' := [some (vr 32), some (vi slot_0), some (vr x_3), some (vl total_52), none, some (vi (from_24 + x_37)), some (vi at_14), some (vi (row_25 + 1)), some (vi x_37), none, none]) dX11_area_100 rfl (Nat.le_of_ble_eq_true rfl) rfl rfl ?_
            refine z_goto (M := M_X11_area) (tgt := 32) dX11_area_103 (by decide) ?_
            refine z_le (lv' := [some (vr 32), some (vi slot_0), some (vr x_3), some (vl total_52), none, some (vi (from_24 + x_37)), some (vi at_14), some (vi (row_25 + 1)), none, none, none]) ⟨Or.inr rfl, Or.inr rfl, Or.inr rfl, Or.inr rfl, Or.inl rfl, Or.inr rfl, Or.inr rfl, Or.inr rfl, Or.inl rfl, Or.inl rfl, Or.inl rfl, trivial⟩ ?_
            exact K_31 _ (Option.some.inj H).symm
          have H := he_38
          refine z_aload_n (M := M_X11_area) dX11_area_53 rfl ?_
          refine z_getR (M := M_X11_area) (ci := 9) (C := RX6) (T := TX6) (Nf := 5) (ty := tyX6) cl9 dX11_area_54 (ly_S hs_6) 0 (by decide) t_55 rfl ?_
          refine z_iload (M := M_X11_area) dX11_area_57 rfl ?_
          obtain ⟨x_42, x_42_e, hi_43, H⟩ := rd_e H
          refine z_iald (M := M_X11_area) dX11_area_59 (ly_Sp hs_6) rfl rfl rfl hi_43 x_42_e ?_
          refine z_iconst (M := M_X11_area) dX11_area_60 ?_
          rcases if_e H with ⟨h_44, H⟩ | ⟨h_44, H⟩
          · refine z_icmp_ne_f (M := M_X11_area) (tgt := 93) dX11_area_61 (by decide) rfl (by decide +kernel) h_44 ?_
            refine z_aload_n (M := M_X11_area) dX11_area_64 rfl ?_
            refine z_iload (M := M_X11_area) dX11_area_65 rfl ?_
            refine z_iload (M := M_X11_area) dX11_area_67 rfl ?_
            obtain ⟨x_46, hc_45, H⟩ := bd_e H
            refine z_callV (M := M_X11_area) (M' := M_X6_twiceAround) (as := [vi from_24, vi x_37]) (rest := []) rfl rfl dX11_area_69 m_X6_twiceAround t_2224 t_2225 t_2226 (c_X6_twiceAround hl hs_6 hc_45) rfl rfl (ly_S hs_6) rfl (Nat.le_of_ble_eq_true rfl) (Nat.le_of_ble_eq_true rfl) (Nat.le_of_ble_eq_true rfl) (Nat.le_of_ble_eq_true rfl) ?_
            refine z_st (st' := [vl x_46]) rfl ?_
            refine z_labs (M := M_X11_area) dX11_area_72 t_2228 t_1131 t_20 t_1132 (Nat.le_of_ble_eq_true rfl) (Nat.le_of_ble_eq_true rfl) (Nat.le_of_ble_eq_true rfl) (Nat.le_of_ble_eq_true rfl) ?_
            refine z_lstore (M := M_X11_area) (lv' := [some (vr 32), some (vi slot_0), some (vr x_3), some (vl total_23), none, some (vi from_24), some (vi at_14), some (vi row_25), some (vi x_37), some (vl (q_abl x_46)), none]) dX11_area_75 (Nat.le_of_ble_eq_true rfl) rfl rfl ?_
            refine z_lload_n (M := M_X11_area) dX11_area_77 rfl ?_
            have J_47 : YY l E M_X11_area 7 2 12 (pT (rlT r) σ') 91 [some (vr 32), some (vi slot_0), some (vr x_3), some (vl total_23), none, some (vi from_24), some (vi at_14), some (vi row_25), some (vi x_37), some (vl (q_abl x_46)), none] [vl (if (w32 row_25) = 0 then (q_abl x_46) else (-(q_abl x_46))), vl total_23] σ_8 2 12 := by
              refine z_ladd (M := M_X11_area) dX11_area_91 ?_
              obtain ⟨x_48, x_48_e, H⟩ := lt_e H
              refine z_st (congrArg (fun z => vl z :: []) x_48_e) ?_
              refine z_lstore_n (M := M_X11_area) (lv' := [some (vr 32), some (vi slot_0), some (vr x_3), some (vl x_48), none, some (vi from_24), some (vi at_14), some (vi row_25), some (vi x_37), some (vl (q_abl x_46)), none]) dX11_area_92 (Nat.le_of_ble_eq_true rfl) rfl rfl ?_
              refine z_le (lv' := [some (vr 32), some (vi slot_0), some (vr x_3), some (vl x_48), none, some (vi from_24), some (vi at_14), some (vi row_25), some (vi x_37), none, none]) ⟨Or.inr rfl, Or.inr rfl, Or.inr rfl, Or.inr rfl, Or.inl rfl, Or.inr rfl, Or.inr rfl, Or.inr rfl, Or.inr rfl, Or.inl rfl, Or.inl rfl, trivial⟩ ?_
              exact J_54 _ (Option.some.inj H).symm
            refine z_iload (M := M_X11_area) dX11_area_78 rfl ?_
            by_cases h_50 : (w32 row_25) = 0
            · refine z_if_ne_f (M := M_X11_area) (tgt := 88) dX11_area_80 (by decide) rfl h_50 ?_
              refine z_lload (M := M_X11_area) dX11_area_83 rfl ?_
              refine z_goto (M := M_X11_area) (tgt := 91) dX11_area_85 (by decide) ?_
              exact z_st (by rw [if_pos (c := (w32 row_25) = 0) h_50]) J_47
            · refine z_if_ne_t (M := M_X11_area) (tgt := 88) dX11_area_80 (by decide) rfl h_50 ?_
              refine z_lload (M := M_X11_area) dX11_area_88 rfl ?_
              refine z_lneg (M := M_X11_area) dX11_area_90 ?_
              exact z_st (by rw [if_neg (c := (w32 row_25) = 0) h_50]) J_47
          · refine z_icmp_ne_t (M := M_X11_area) (tgt := 93) dX11_area_61 (by decide) rfl (by decide +kernel) h_44 ?_
            exact J_54 _ (Option.some.inj H).symm
        · refine z_icmp_ge_t (M := M_X11_area) (tgt := 106) dX11_area_40 (by decide) rfl rfl (Int.not_lt.mp h_35) ?_
          exact J_62 _ _ _ (K_32 _ (Option.some.inj H).symm).symm
      · refine z_icmp_ge_t (M := M_X11_area) (tgt := 117) dX11_area_26 (by decide) rfl rfl (Int.not_lt.mp h_22) ?_
        exact J_67 _ _ _ (K_21 _ (Option.some.inj H).symm).symm
    · have H := K_11 _ rfl
      cases H
      exact z_callSX (M := M_X11_area) (M' := M_X11_mustBeThere) (as := [vr x_3]) (rest := []) rfl rfl dX11_area_7 m_X11_mustBeThere t_1047 t_1048 (e := z_68) (c_X11_mustBeThere hl hs_6 hc_7) rfl rfl (Nat.le_of_ble_eq_true rfl) (Nat.le_of_ble_eq_true rfl) (Nat.le_of_ble_eq_true rfl) (Nat.le_of_ble_eq_true rfl) ⟨rfl, rfl⟩
  · have H := K_5 _ rfl
    cases H
    exact z_callVX (M := M_X11_area) (M' := M_X11_slotNumbered) (as := [vi slot_0]) (rest := []) rfl rfl dX11_area_2 m_X11_slotNumbered t_744 t_746 s_2 (e := z_69) (c_X11_slotNumbered hl  hc_1) rfl rfl ly_32 rfl (Nat.le_of_ble_eq_true rfl) (Nat.le_of_ble_eq_true rfl) (Nat.le_of_ble_eq_true rfl) (Nat.le_of_ble_eq_true rfl) ⟨rfl, rfl⟩
theorem c_X6_putBox (hl : l.stackTraces = false) {σ : SG} {this_0 : Nat} {r : Bool} {σ' : SG} (h_this : isS this_0) (H : fA_putBox σ this_0 = some (r, σ')) : en_S l E M_X6_putBox 1 0 0 [vr this_0, vr 274] σ (pS (some (zv r)) σ') := by
  unfold fA_putBox at H
  refine z_mk (lv := [some (vr this_0), some (vr 274), none]) m_X6_putBox rfl hl (Nat.le_of_ble_eq_true rfl) rfl ?_
  refine z_iconst (M := M_X6_putBox) dX6_putBox_0 ?_
  refine z_istore_n (M := M_X6_putBox) (lv' := [some (vr this_0), some (vr 274), some (vi 0)]) dX6_putBox_1 (Nat.le_of_ble_eq_true rfl) rfl rfl ?_
  obtain ⟨rl_6, hw_3, hk_4⟩ := bd_e H
  have J_105 : ∀ i_101 σ_102, rl_6 = (i_101, σ_102) → YY l E M_X6_putBox 1 0 0 (pS (some (zv r)) σ') 128 [some (vr this_0), some (vr 274), some (vi i_101)] [] σ_102 0 0 := by
    intro i_101 σ_102 e
    have H := hk_4
    rw [e] at H
    have J_103 : YY l E M_X6_putBox 1 0 0 (pS (some (zv r)) σ') 140 [some (vr this_0), some (vr 274), some (vi i_101)] [zv (decide (0 < (w32 (σ_102 (kA_points this_0) 0))))] σ_102 0 0 := by
      cases H
      exact z_zret (M := M_X6_putBox) dX6_putBox_140 rfl (Nat.le_of_ble_eq_true rfl) (Nat.le_of_ble_eq_true rfl) ⟨rfl, rfl⟩
    refine z_aload_n (M := M_X6_putBox) dX6_putBox_128 rfl ?_
    refine z_getI (M := M_X6_putBox) (ci := 9) (C := RX6) (T := TX6) (Nf := 5) (ty := tyX6) cl9 dX6_putBox_129 (ly_S h_this) 4 (by decide) t_83 rfl rfl ?_
    by_cases h_104 : 0 < (w32 (σ_102 (kA_points this_0) 0))
    · refine z_if_le_f (M := M_X6_putBox) (tgt := 139) dX6_putBox_132 (by decide) rfl h_104 ?_
      refine z_iconst (M := M_X6_putBox) dX6_putBox_135 ?_
      refine z_goto (M := M_X6_putBox) (tgt := 140) dX6_putBox_136 (by decide) ?_
      exact z_st (by rw [zv_t (p := 0 < (w32 (σ_102 (kA_points this_0) 0))) h_104]) J_103
    · refine z_if_le_t (M := M_X6_putBox) (tgt := 139) dX6_putBox_132 (by decide) rfl (Int.not_lt.mp h_104) ?_
      refine z_iconst (M := M_X6_putBox) dX6_putBox_139 ?_
      exact z_st (by rw [zv_f (p := 0 < (w32 (σ_102 (kA_points this_0) 0))) h_104]) J_103
  refine whl_go hw_3 (fun (i_1, σ_2) => YY l E M_X6_putBox 1 0 0 (pS (some (zv r)) σ') 2 [some (vr this_0), some (vr 274), some (vi i_1)] [] σ_2 0 0) ?_
  rintro ⟨i_1, σ_2⟩ o_7 H K_8 K_9
  refine z_iload_n (M := M_X6_putBox) dX6_putBox_2 rfl ?_
  refine z_aload_n (M := M_X6_putBox) dX6_putBox_3 rfl ?_
  refine z_getI (M := M_X6_putBox) (ci := 9) (C := RX6) (T := TX6) (Nf := 5) (ty := tyX6) cl9 dX6_putBox_4 (ly_S h_this) 4 (by decide) t_83 rfl rfl ?_
  rcases if_e H with ⟨h_10, H⟩ | ⟨h_10, H⟩
  · refine z_icmp_ge_f (M := M_X6_putBox) (tgt := 128) dX6_putBox_7 (by decide) rfl rfl h_10 ?_
    refine z_aload_n (M := M_X6_putBox) dX6_putBox_10 rfl ?_
    refine z_iconst (M := M_X6_putBox) dX6_putBox_11 ?_
    obtain ⟨v_96, he_97, hk_98⟩ := bd_e H
    have J_99 : ∀ x_26, v_96 = x_26 → YY l E M_X6_putBox 1 0 0 (pS (some (zv r)) σ') 37 [some (vr this_0), some (vr 274), some (vi i_1)] [vi x_26, vi 0, vr 274] σ_2 0 0 := by
      intro x_26 e
      have H := hk_98
      rw [e] at H
      obtain ⟨σ_27, σ_27_e, hi_28, H⟩ := wa_e H
      refine z_iast (M := M_X6_putBox) dX6_putBox_37 ly_274 rfl (by decide +kernel) rfl hi_28 σ_27_e ?_
      refine z_aload_n (M := M_X6_putBox) dX6_putBox_38 rfl ?_
      refine z_iconst (M := M_X6_putBox) dX6_putBox_39 ?_
      obtain ⟨v_92, he_93, hk_94⟩ := bd_e H
      have J_95 : ∀ x_44, v_92 = x_44 → YY l E M_X6_putBox 1 0 0 (pS (some (zv r)) σ') 65 [some (vr this_0), some (vr 274), some (vi i_1)] [vi x_44, vi 1, vr 274] σ_27 0 0 := by
        intro x_44 e
        have H := hk_94
        rw [e] at H
        obtain ⟨σ_45, σ_45_e, hi_46, H⟩ := wa_e H
        refine z_iast (M := M_X6_putBox) dX6_putBox_65 ly_274 rfl (by decide +kernel) rfl hi_46 σ_45_e ?_
        refine z_aload_n (M := M_X6_putBox) dX6_putBox_66 rfl ?_
        refine z_iconst (M := M_X6_putBox) dX6_putBox_67 ?_
        obtain ⟨v_88, he_89, hk_90⟩ := bd_e H
        have J_91 : ∀ x_62, v_88 = x_62 → YY l E M_X6_putBox 1 0 0 (pS (some (zv r)) σ') 93 [some (vr this_0), some (vr 274), some (vi i_1)] [vi x_62, vi 2, vr 274] σ_45 0 0 := by
          intro x_62 e
          have H := hk_90
          rw [e] at H
          obtain ⟨σ_63, σ_63_e, hi_64, H⟩ := wa_e H
          refine z_iast (M := M_X6_putBox) dX6_putBox_93 ly_274 rfl (by decide +kernel) rfl hi_64 σ_63_e ?_
          refine z_aload_n (M := M_X6_putBox) dX6_putBox_94 rfl ?_
          refine z_iconst (M := M_X6_putBox) dX6_putBox_95 ?_
          obtain ⟨v_84, he_85, hk_86⟩ := bd_e H
          have J_87 : ∀ x_80, v_84 = x_80 → YY l E M_X6_putBox 1 0 0 (pS (some (zv r)) σ') 121 [some (vr this_0), some (vr 274), some (vi i_1)] [vi x_80, vi 3, vr 274] σ_63 0 0 := by
            intro x_80 e
            have H := hk_86
            rw [e] at H
            obtain ⟨σ_81, σ_81_e, hi_82, H⟩ := wa_e H
            refine z_iast (M := M_X6_putBox) dX6_putBox_121 ly_274 rfl (by decide +kernel) rfl hi_82 σ_81_e ?_
            refine z_iinc (M := M_X6_putBox) (lv' := [some (vr this_0), some (vr 274), some (vi (i_1 + 1))]) dX6_putBox_122 rfl (Nat.le_of_ble_eq_true rfl) rfl rfl ?_
            refine z_goto (M := M_X6_putBox) (tgt := 2) dX6_putBox_125 (by decide) ?_
            exact K_8 _ (Option.some.inj H).symm
          have H := he_85
          refine z_iload_n (M := M_X6_putBox) dX6_putBox_96 rfl ?_
          rcases if_e H with ⟨h_71, H⟩ | ⟨h_71, H⟩
          · refine z_if_ne_f (M := M_X6_putBox) (tgt := 109) dX6_putBox_97 (by decide) rfl h_71 ?_
            refine z_aload_n (M := M_X6_putBox) dX6_putBox_100 rfl ?_
            refine z_getR (M := M_X6_putBox) (ci := 9) (C := RX6) (T := TX6) (Nf := 5) (ty := tyX6) cl9 dX6_putBox_101 (ly_S h_this) 2 (by decide) t_65 rfl ?_
            refine z_iload_n (M := M_X6_putBox) dX6_putBox_104 rfl ?_
            obtain ⟨x_72, x_72_e, hi_73, H⟩ := rd_e H
            refine z_iald (M := M_X6_putBox) dX6_putBox_105 (ly_Sy h_this) rfl rfl rfl hi_73 x_72_e ?_
            refine z_goto (M := M_X6_putBox) (tgt := 121) dX6_putBox_106 (by decide) ?_
            exact J_87 _ (Option.some.inj H).symm
          · refine z_if_ne_t (M := M_X6_putBox) (tgt := 109) dX6_putBox_97 (by decide) rfl h_71 ?_
            refine z_aload_n (M := M_X6_putBox) dX6_putBox_109 rfl ?_
            refine z_iconst (M := M_X6_putBox) dX6_putBox_110 ?_
            obtain ⟨x_75, x_75_e, hi_76, H⟩ := rd_e H
            refine z_iald (M := M_X6_putBox) dX6_putBox_111 ly_274 rfl (by decide +kernel) rfl hi_76 x_75_e ?_
            refine z_aload_n (M := M_X6_putBox) dX6_putBox_112 rfl ?_
            refine z_getR (M := M_X6_putBox) (ci := 9) (C := RX6) (T := TX6) (Nf := 5) (ty := tyX6) cl9 dX6_putBox_113 (ly_S h_this) 2 (by decide) t_65 rfl ?_
            refine z_iload_n (M := M_X6_putBox) dX6_putBox_116 rfl ?_
            obtain ⟨x_77, x_77_e, hi_78, H⟩ := rd_e H
            refine z_iald (M := M_X6_putBox) dX6_putBox_117 (ly_Sy h_this) rfl rfl rfl hi_78 x_77_e ?_
            refine z_mmax (M := M_X6_putBox) dX6_putBox_118 t_2241 t_1013 t_20 t_1014 (Nat.le_of_ble_eq_true rfl) (Nat.le_of_ble_eq_true rfl) (Nat.le_of_ble_eq_true rfl) (Nat.le_of_ble_eq_true rfl) ?_
            exact J_87 _ (Option.some.inj H).symm
        have H := he_89
        refine z_iload_n (M := M_X6_putBox) dX6_putBox_68 rfl ?_
        rcases if_e H with ⟨h_53, H⟩ | ⟨h_53, H⟩
        · refine z_if_ne_f (M := M_X6_putBox) (tgt := 81) dX6_putBox_69 (by decide) rfl h_53 ?_
          refine z_aload_n (M := M_X6_putBox) dX6_putBox_72 rfl ?_
          refine z_getR (M := M_X6_putBox) (ci := 9) (C := RX6) (T := TX6) (Nf := 5) (ty := tyX6) cl9 dX6_putBox_73 (ly_S h_this) 1 (by decide) t_58 rfl ?_
          refine z_iload_n (M := M_X6_putBox) dX6_putBox_76 rfl ?_
          obtain ⟨x_54, x_54_e, hi_55, H⟩ := rd_e H
          refine z_iald (M := M_X6_putBox) dX6_putBox_77 (ly_Sx h_this) rfl rfl rfl hi_55 x_54_e ?_
          refine z_goto (M := M_X6_putBox) (tgt := 93) dX6_putBox_78 (by decide) ?_
          exact J_91 _ (Option.some.inj H).symm
        · refine z_if_ne_t (M := M_X6_putBox) (tgt := 81) dX6_putBox_69 (by decide) rfl h_53 ?_
          refine z_aload_n (M := M_X6_putBox) dX6_putBox_81 rfl ?_
          refine z_iconst (M := M_X6_putBox) dX6_putBox_82 ?_
          obtain ⟨x_57, x_57_e, hi_58, H⟩ := rd_e H
          refine z_iald (M := M_X6_putBox) dX6_putBox_83 ly_274 rfl (by decide +kernel) rfl hi_58 x_57_e ?_
          refine z_aload_n (M := M_X6_putBox) dX6_putBox_84 rfl ?_
          refine z_getR (M := M_X6_putBox) (ci := 9) (C := RX6) (T := TX6) (Nf := 5) (ty := tyX6) cl9 dX6_putBox_85 (ly_S h_this) 1 (by decide) t_58 rfl ?_
          refine z_iload_n (M := M_X6_putBox) dX6_putBox_88 rfl ?_
          obtain ⟨x_59, x_59_e, hi_60, H⟩ := rd_e H
          refine z_iald (M := M_X6_putBox) dX6_putBox_89 (ly_Sx h_this) rfl rfl rfl hi_60 x_59_e ?_
          refine z_mmax (M := M_X6_putBox) dX6_putBox_90 t_2241 t_1013 t_20 t_1014 (Nat.le_of_ble_eq_true rfl) (Nat.le_of_ble_eq_true rfl) (Nat.le_of_ble_eq_true rfl) (Nat.le_of_ble_eq_true rfl) ?_
          exact J_91 _ (Option.some.inj H).symm
      have H := he_93
      refine z_iload_n (M := M_X6_putBox) dX6_putBox_40 rfl ?_
      rcases if_e H with ⟨h_35, H⟩ | ⟨h_35, H⟩
      · refine z_if_ne_f (M := M_X6_putBox) (tgt := 53) dX6_putBox_41 (by decide) rfl h_35 ?_
        refine z_aload_n (M := M_X6_putBox) dX6_putBox_44 rfl ?_
        refine z_getR (M := M_X6_putBox) (ci := 9) (C := RX6) (T := TX6) (Nf := 5) (ty := tyX6) cl9 dX6_putBox_45 (ly_S h_this) 2 (by decide) t_65 rfl ?_
        refine z_iload_n (M := M_X6_putBox) dX6_putBox_48 rfl ?_
        obtain ⟨x_36, x_36_e, hi_37, H⟩ := rd_e H
        refine z_iald (M := M_X6_putBox) dX6_putBox_49 (ly_Sy h_this) rfl rfl rfl hi_37 x_36_e ?_
        refine z_goto (M := M_X6_putBox) (tgt := 65) dX6_putBox_50 (by decide) ?_
        exact J_95 _ (Option.some.inj H).symm
      · refine z_if_ne_t (M := M_X6_putBox) (tgt := 53) dX6_putBox_41 (by decide) rfl h_35 ?_
        refine z_aload_n (M := M_X6_putBox) dX6_putBox_53 rfl ?_
        refine z_iconst (M := M_X6_putBox) dX6_putBox_54 ?_
        obtain ⟨x_39, x_39_e, hi_40, H⟩ := rd_e H
        refine z_iald (M := M_X6_putBox) dX6_putBox_55 ly_274 rfl (by decide +kernel) rfl hi_40 x_39_e ?_
        refine z_aload_n (M := M_X6_putBox) dX6_putBox_56 rfl ?_
        refine z_getR (M := M_X6_putBox) (ci := 9) (C := RX6) (T := TX6) (Nf := 5) (ty := tyX6) cl9 dX6_putBox_57 (ly_S h_this) 2 (by decide) t_65 rfl ?_
        refine z_iload_n (M := M_X6_putBox) dX6_putBox_60 rfl ?_
        obtain ⟨x_41, x_41_e, hi_42, H⟩ := rd_e H
        refine z_iald (M := M_X6_putBox) dX6_putBox_61 (ly_Sy h_this) rfl rfl rfl hi_42 x_41_e ?_
        refine z_mmin (M := M_X6_putBox) dX6_putBox_62 t_2240 t_626 t_20 t_627 (Nat.le_of_ble_eq_true rfl) (Nat.le_of_ble_eq_true rfl) (Nat.le_of_ble_eq_true rfl) (Nat.le_of_ble_eq_true rfl) ?_
        exact J_95 _ (Option.some.inj H).symm
    have H := he_97
    refine z_iload_n (M := M_X6_putBox) dX6_putBox_12 rfl ?_
    rcases if_e H with ⟨h_17, H⟩ | ⟨h_17, H⟩
    · refine z_if_ne_f (M := M_X6_putBox) (tgt := 25) dX6_putBox_13 (by decide) rfl h_17 ?_
      refine z_aload_n (M := M_X6_putBox) dX6_putBox_16 rfl ?_
      refine z_getR (M := M_X6_putBox) (ci := 9) (C := RX6) (T := TX6) (Nf := 5) (ty := tyX6) cl9 dX6_putBox_17 (ly_S h_this) 1 (by decide) t_58 rfl ?_
      refine z_iload_n (M := M_X6_putBox) dX6_putBox_20 rfl ?_
      obtain ⟨x_18, x_18_e, hi_19, H⟩ := rd_e H
      refine z_iald (M := M_X6_putBox) dX6_putBox_21 (ly_Sx h_this) rfl rfl rfl hi_19 x_18_e ?_
      refine z_goto (M := M_X6_putBox) (tgt := 37) dX6_putBox_22 (by decide) ?_
      exact J_99 _ (Option.some.inj H).symm
    · refine z_if_ne_t (M := M_X6_putBox) (tgt := 25) dX6_putBox_13 (by decide) rfl h_17 ?_
      refine z_aload_n (M := M_X6_putBox) dX6_putBox_25 rfl ?_
      refine z_iconst (M := M_X6_putBox) dX6_putBox_26 ?_
      obtain ⟨x_21, x_21_e, hi_22, H⟩ := rd_e H
      refine z_iald (M := M_X6_putBox) dX6_putBox_27 ly_274 rfl (by decide +kernel) rfl hi_22 x_21_e ?_
      refine z_aload_n (M := M_X6_putBox) dX6_putBox_28 rfl ?_
      refine z_getR (M := M_X6_putBox) (ci := 9) (C := RX6) (T := TX6) (Nf := 5) (ty := tyX6) cl9 dX6_putBox_29 (ly_S h_this) 1 (by decide) t_58 rfl ?_
      refine z_iload_n (M := M_X6_putBox) dX6_putBox_32 rfl ?_
      obtain ⟨x_23, x_23_e, hi_24, H⟩ := rd_e H
      refine z_iald (M := M_X6_putBox) dX6_putBox_33 (ly_Sx h_this) rfl rfl rfl hi_24 x_23_e ?_
      refine z_mmin (M := M_X6_putBox) dX6_putBox_34 t_2240 t_626 t_20 t_627 (Nat.le_of_ble_eq_true rfl) (Nat.le_of_ble_eq_true rfl) (Nat.le_of_ble_eq_true rfl) (Nat.le_of_ble_eq_true rfl) ?_
      exact J_99 _ (Option.some.inj H).symm
  · refine z_icmp_ge_t (M := M_X6_putBox) (tgt := 128) dX6_putBox_7 (by decide) rfl rfl (Int.not_lt.mp h_10) ?_
    exact J_105 _ _ (K_9 _ (Option.some.inj H).symm).symm
theorem c_X11_bounds (hl : l.stackTraces = false) {σ : SG} {slot_0 : Int} {what_0 : Int} {r : Int ⊕ Nat} {σ' : SG}  (H : fQ_bounds σ slot_0 what_0 = some (r, σ')) : en_S l E M_X11_bounds 7 3 18 [vr 32, vi slot_0, vi what_0] σ (pT (riT r) σ') := by
  unfold fQ_bounds at H
  refine z_mk (lv := [some (vr 32), some (vi slot_0), some (vi what_0), none]) m_X11_bounds rfl hl (Nat.le_of_ble_eq_true rfl) rfl ?_
  refine z_aload_n (M := M_X11_bounds) dX11_bounds_0 rfl ?_
  refine z_iload_n (M := M_X11_bounds) dX11_bounds_1 rfl ?_
  obtain ⟨z_31, σ_2, hc_1, K_4, K_5⟩ := bt_e H
  rcases z_31 with x_3 | z_31
  · have H := K_4 _ rfl
    refine z_callV (M := M_X11_bounds) (M' := M_X11_slotNumbered) (as := [vi slot_0]) (rest := []) rfl rfl dX11_bounds_2 m_X11_slotNumbered t_744 t_746 s_2 (v := some (vr x_3)) (c_X11_slotNumbered hl  hc_1) rfl rfl ly_32 rfl (Nat.le_of_ble_eq_true rfl) (Nat.le_of_ble_eq_true rfl) (Nat.le_of_ble_eq_true rfl) (Nat.le_of_ble_eq_true rfl) ?_
    refine z_st (st' := [vr x_3]) rfl ?_
    obtain ⟨hs_6, H⟩ := ck_e H
    refine z_astore_n (M := M_X11_bounds) (lv' := [some (vr 32), some (vi slot_0), some (vi what_0), some (vr x_3)]) dX11_bounds_5 (Nat.le_of_ble_eq_true rfl) rfl rfl ?_
    refine z_aload_n (M := M_X11_bounds) dX11_bounds_6 rfl ?_
    obtain ⟨z_30, σ_8, hc_7, K_10, K_11⟩ := bt_e H
    rcases z_30 with x_9 | z_30
    · have H := K_10 _ rfl
      refine z_callS (M := M_X11_bounds) (M' := M_X11_mustBeThere) (as := [vr x_3]) (rest := []) rfl rfl dX11_bounds_7 m_X11_mustBeThere t_1047 t_1048 (v := none) (c_X11_mustBeThere hl hs_6 hc_7) rfl rfl (Nat.le_of_ble_eq_true rfl) (Nat.le_of_ble_eq_true rfl) (Nat.le_of_ble_eq_true rfl) (Nat.le_of_ble_eq_true rfl) ?_
      refine z_st (st' := []) rfl ?_
      refine z_iload_n (M := M_X11_bounds) dX11_bounds_10 rfl ?_
      rcases if_e H with ⟨h_22, H⟩ | ⟨h_22, H⟩
      · refine z_if_lt_t (M := M_X11_bounds) (tgt := 30) dX11_bounds_11 (by decide) rfl h_22 ?_
        cases H
        exact z_throw (M := M_X11_bounds) (names := en_nm) rfl dX11_bounds_30 dX11_bounds_33 dX11_bounds_34 dX11_bounds_37 (by decide +kernel) en_nm_ok (Or.inl t_721) (Or.inl t_19) at_X11_IllegalArgumentException_118 (Nat.le_of_ble_eq_true rfl) (Nat.le_of_ble_eq_true rfl) (Nat.le_of_ble_eq_true rfl) (Nat.le_of_ble_eq_true rfl) ⟨rfl, rfl⟩
      · refine z_if_lt_f (M := M_X11_bounds) (tgt := 30) dX11_bounds_11 (by decide) rfl (Int.not_lt.mp h_22) ?_
        refine z_iload_n (M := M_X11_bounds) dX11_bounds_14 rfl ?_
        refine z_iconst (M := M_X11_bounds) dX11_bounds_15 ?_
        rcases if_e H with ⟨h_23, H⟩ | ⟨h_23, H⟩
        · refine z_icmp_gt_t (M := M_X11_bounds) (tgt := 30) dX11_bounds_16 (by decide) rfl (by decide +kernel) h_23 ?_
          cases H
          exact z_throw (M := M_X11_bounds) (names := en_nm) rfl dX11_bounds_30 dX11_bounds_33 dX11_bounds_34 dX11_bounds_37 (by decide +kernel) en_nm_ok (Or.inl t_721) (Or.inl t_19) at_X11_IllegalArgumentException_118 (Nat.le_of_ble_eq_true rfl) (Nat.le_of_ble_eq_true rfl) (Nat.le_of_ble_eq_true rfl) (Nat.le_of_ble_eq_true rfl) ⟨rfl, rfl⟩
        · refine z_icmp_gt_f (M := M_X11_bounds) (tgt := 30) dX11_bounds_16 (by decide) rfl (by decide +kernel) (Int.not_lt.mp h_23) ?_
          refine z_aload_n (M := M_X11_bounds) dX11_bounds_19 rfl ?_
          refine z_aload_n (M := M_X11_bounds) dX11_bounds_20 rfl ?_
          refine z_getR (M := M_X11_bounds) (ci := 14) (C := RX11) (T := TX11) (Nf := 19) (ty := tyX11) cl14 dX11_bounds_21 ly_32 15 (by decide) t_578 rfl ?_
          obtain ⟨⟨x_26, σ_25⟩, hc_24, H⟩ := bd_e H
          refine z_callV (M := M_X11_bounds) (M' := M_X6_putBox) (as := [vr 274]) (rest := []) rfl rfl dX11_bounds_24 m_X6_putBox t_2236 t_2237 t_2238 (c_X6_putBox hl hs_6 hc_24) rfl rfl (ly_S hs_6) rfl (Nat.le_of_ble_eq_true rfl) (Nat.le_of_ble_eq_true rfl) (Nat.le_of_ble_eq_true rfl) (Nat.le_of_ble_eq_true rfl) ?_
          refine z_st (st' := [zv x_26]) rfl ?_
          rcases if_e H with ⟨h_27, H⟩ | ⟨h_27, H⟩
          · refine z_zne_t (M := M_X11_bounds) (tgt := 38) dX11_bounds_27 (by decide) h_27 ?_
            refine z_aload_n (M := M_X11_bounds) dX11_bounds_38 rfl ?_
            refine z_getR (M := M_X11_bounds) (ci := 14) (C := RX11) (T := TX11) (Nf := 19) (ty := tyX11) cl14 dX11_bounds_39 ly_32 15 (by decide) t_578 rfl ?_
            refine z_iload_n (M := M_X11_bounds) dX11_bounds_42 rfl ?_
            obtain ⟨x_28, x_28_e, hi_29, H⟩ := rd_e H
            refine z_iald (M := M_X11_bounds) dX11_bounds_43 ly_274 rfl rfl rfl hi_29 x_28_e ?_
            cases H
            exact z_iret (M := M_X11_bounds) dX11_bounds_44 rfl (Nat.le_of_ble_eq_true rfl) (Nat.le_of_ble_eq_true rfl) ⟨rfl, rfl⟩
          · refine z_zne_f (M := M_X11_bounds) (tgt := 38) dX11_bounds_27 (by decide) h_27 ?_
            cases H
            exact z_throw (M := M_X11_bounds) (names := en_nm) rfl dX11_bounds_30 dX11_bounds_33 dX11_bounds_34 dX11_bounds_37 (by decide +kernel) en_nm_ok (Or.inl t_721) (Or.inl t_19) at_X11_IllegalArgumentException_118 (Nat.le_of_ble_eq_true rfl) (Nat.le_of_ble_eq_true rfl) (Nat.le_of_ble_eq_true rfl) (Nat.le_of_ble_eq_true rfl) ⟨rfl, rfl⟩
    · have H := K_11 _ rfl
      cases H
      exact z_callSX (M := M_X11_bounds) (M' := M_X11_mustBeThere) (as := [vr x_3]) (rest := []) rfl rfl dX11_bounds_7 m_X11_mustBeThere t_1047 t_1048 (e := z_30) (c_X11_mustBeThere hl hs_6 hc_7) rfl rfl (Nat.le_of_ble_eq_true rfl) (Nat.le_of_ble_eq_true rfl) (Nat.le_of_ble_eq_true rfl) (Nat.le_of_ble_eq_true rfl) ⟨rfl, rfl⟩
  · have H := K_5 _ rfl
    cases H
    exact z_callVX (M := M_X11_bounds) (M' := M_X11_slotNumbered) (as := [vi slot_0]) (rest := []) rfl rfl dX11_bounds_2 m_X11_slotNumbered t_744 t_746 s_2 (e := z_31) (c_X11_slotNumbered hl  hc_1) rfl rfl ly_32 rfl (Nat.le_of_ble_eq_true rfl) (Nat.le_of_ble_eq_true rfl) (Nat.le_of_ble_eq_true rfl) (Nat.le_of_ble_eq_true rfl) ⟨rfl, rfl⟩
theorem c_X11_boxLies (hl : l.stackTraces = false) {σ : SG} {what_0 : Int} {lowX_0 : Int} {lowY_0 : Int} {highX_0 : Int} {highY_0 : Int} {r : Bool}  (H : fQ_boxLies σ what_0 lowX_0 lowY_0 highX_0 highY_0 = some r) : en_S l E M_X11_boxLies 1 0 0 [vr 32, vi what_0, vi lowX_0, vi lowY_0, vi highX_0, vi highY_0] σ (pS (some (zv r)) σ) := by
  unfold fQ_boxLies at H
  refine z_mk (lv := [some (vr 32), some (vi what_0), some (vi lowX_0), some (vi lowY_0), some (vi highX_0), some (vi highY_0)]) m_X11_boxLies rfl hl (Nat.le_of_ble_eq_true rfl) rfl ?_
  refine z_iload_n (M := M_X11_boxLies) dX11_boxLies_0 rfl ?_
  rcases if_e H with ⟨h_1, H⟩ | ⟨h_1, H⟩
  · refine z_lookup (M := M_X11_boxLies) (tgt := 28) (off := 27) dX11_boxLies_1 h_1 (by decide) (by decide) (by decide) ?_
    obtain ⟨v_20, he_21, hk_22⟩ := bd_e H
    have J_23 : ∀ x_19, v_20 = x_19 → YY l E M_X11_boxLies 1 0 0 (pS (some (zv r)) σ) 75 [some (vr 32), some (vi what_0), some (vi lowX_0), some (vi lowY_0), some (vi highX_0), some (vi highY_0)] [zv x_19] σ 0 0 := by
      intro x_19 e
      have H := hk_22
      rw [e] at H
      cases H
      exact z_zret (M := M_X11_boxLies) dX11_boxLies_75 rfl (Nat.le_of_ble_eq_true rfl) (Nat.le_of_ble_eq_true rfl) ⟨rfl, rfl⟩
    have H := he_21
    refine z_aload_n (M := M_X11_boxLies) dX11_boxLies_28 rfl ?_
    refine z_getR (M := M_X11_boxLies) (ci := 14) (C := RX11) (T := TX11) (Nf := 19) (ty := tyX11) cl14 dX11_boxLies_29 ly_32 15 (by decide) t_578 rfl ?_
    refine z_iconst (M := M_X11_boxLies) dX11_boxLies_32 ?_
    obtain ⟨x_2, x_2_e, hi_3, H⟩ := rd_e H
    refine z_iald (M := M_X11_boxLies) dX11_boxLies_33 ly_274 rfl (by decide +kernel) rfl hi_3 x_2_e ?_
    refine z_iload (M := M_X11_boxLies) dX11_boxLies_34 rfl ?_
    rcases if_e H with ⟨h_4, H⟩ | ⟨h_4, H⟩
    · refine z_icmp_gt_f (M := M_X11_boxLies) (tgt := 74) dX11_boxLies_36 (by decide) rfl rfl h_4 ?_
      refine z_aload_n (M := M_X11_boxLies) dX11_boxLies_39 rfl ?_
      refine z_getR (M := M_X11_boxLies) (ci := 14) (C := RX11) (T := TX11) (Nf := 19) (ty := tyX11) cl14 dX11_boxLies_40 ly_32 15 (by decide) t_578 rfl ?_
      refine z_iconst (M := M_X11_boxLies) dX11_boxLies_43 ?_
      obtain ⟨x_5, x_5_e, hi_6, H⟩ := rd_e H
      refine z_iald (M := M_X11_boxLies) dX11_boxLies_44 ly_274 rfl (by decide +kernel) rfl hi_6 x_5_e ?_
      refine z_iload_n (M := M_X11_boxLies) dX11_boxLies_45 rfl ?_
      rcases if_e H with ⟨h_7, H⟩ | ⟨h_7, H⟩
      · refine z_icmp_lt_f (M := M_X11_boxLies) (tgt := 74) dX11_boxLies_46 (by decide) rfl rfl h_7 ?_
        refine z_aload_n (M := M_X11_boxLies) dX11_boxLies_49 rfl ?_
        refine z_getR (M := M_X11_boxLies) (ci := 14) (C := RX11) (T := TX11) (Nf := 19) (ty := tyX11) cl14 dX11_boxLies_50 ly_32 15 (by decide) t_578 rfl ?_
        refine z_iconst (M := M_X11_boxLies) dX11_boxLies_53 ?_
        obtain ⟨x_8, x_8_e, hi_9, H⟩ := rd_e H
        refine z_iald (M := M_X11_boxLies) dX11_boxLies_54 ly_274 rfl (by decide +kernel) rfl hi_9 x_8_e ?_
        refine z_iload (M := M_X11_boxLies) dX11_boxLies_55 rfl ?_
        rcases if_e H with ⟨h_10, H⟩ | ⟨h_10, H⟩
        · refine z_icmp_gt_f (M := M_X11_boxLies) (tgt := 74) dX11_boxLies_57 (by decide) rfl rfl h_10 ?_
          refine z_aload_n (M := M_X11_boxLies) dX11_boxLies_60 rfl ?_
          refine z_getR (M := M_X11_boxLies) (ci := 14) (C := RX11) (T := TX11) (Nf := 19) (ty := tyX11) cl14 dX11_boxLies_61 ly_32 15 (by decide) t_578 rfl ?_
          refine z_iconst (M := M_X11_boxLies) dX11_boxLies_64 ?_
          obtain ⟨x_11, x_11_e, hi_12, H⟩ := rd_e H
          refine z_iald (M := M_X11_boxLies) dX11_boxLies_65 ly_274 rfl (by decide +kernel) rfl hi_12 x_11_e ?_
          refine z_iload_n (M := M_X11_boxLies) dX11_boxLies_66 rfl ?_
          rcases if_e H with ⟨h_13, H⟩ | ⟨h_13, H⟩
          · refine z_icmp_lt_f (M := M_X11_boxLies) (tgt := 74) dX11_boxLies_67 (by decide) rfl rfl h_13 ?_
            refine z_zconst (M := M_X11_boxLies) (b := true) dX11_boxLies_70 rfl ?_
            refine z_goto (M := M_X11_boxLies) (tgt := 75) dX11_boxLies_71 (by decide) ?_
            exact J_23 _ (Option.some.inj H).symm
          · refine z_icmp_lt_t (M := M_X11_boxLies) (tgt := 74) dX11_boxLies_67 (by decide) rfl rfl (Int.not_le.mp h_13) ?_
            refine z_zconst (M := M_X11_boxLies) (b := false) dX11_boxLies_74 rfl ?_
            exact J_23 _ (Option.some.inj H).symm
        · refine z_icmp_gt_t (M := M_X11_boxLies) (tgt := 74) dX11_boxLies_57 (by decide) rfl rfl (Int.not_le.mp h_10) ?_
          refine z_zconst (M := M_X11_boxLies) (b := false) dX11_boxLies_74 rfl ?_
          exact J_23 _ (Option.some.inj H).symm
      · refine z_icmp_lt_t (M := M_X11_boxLies) (tgt := 74) dX11_boxLies_46 (by decide) rfl rfl (Int.not_le.mp h_7) ?_
        refine z_zconst (M := M_X11_boxLies) (b := false) dX11_boxLies_74 rfl ?_
        exact J_23 _ (Option.some.inj H).symm
    · refine z_icmp_gt_t (M := M_X11_boxLies) (tgt := 74) dX11_boxLies_36 (by decide) rfl rfl (Int.not_le.mp h_4) ?_
      refine z_zconst (M := M_X11_boxLies) (b := false) dX11_boxLies_74 rfl ?_
      exact J_23 _ (Option.some.inj H).symm
  · rcases if_e H with ⟨h_24, H⟩ | ⟨h_24, H⟩
    · refine z_lookup (M := M_X11_boxLies) (tgt := 76) (off := 75) dX11_boxLies_1 h_24 (by decide) (by decide) (by decide) ?_
      obtain ⟨v_43, he_44, hk_45⟩ := bd_e H
      have J_46 : ∀ x_42, v_43 = x_42 → YY l E M_X11_boxLies 1 0 0 (pS (some (zv r)) σ) 123 [some (vr 32), some (vi what_0), some (vi lowX_0), some (vi lowY_0), some (vi highX_0), some (vi highY_0)] [zv x_42] σ 0 0 := by
        intro x_42 e
        have H := hk_45
        rw [e] at H
        cases H
        exact z_zret (M := M_X11_boxLies) dX11_boxLies_123 rfl (Nat.le_of_ble_eq_true rfl) (Nat.le_of_ble_eq_true rfl) ⟨rfl, rfl⟩
      have H := he_44
      refine z_aload_n (M := M_X11_boxLies) dX11_boxLies_76 rfl ?_
      refine z_getR (M := M_X11_boxLies) (ci := 14) (C := RX11) (T := TX11) (Nf := 19) (ty := tyX11) cl14 dX11_boxLies_77 ly_32 15 (by decide) t_578 rfl ?_
      refine z_iconst (M := M_X11_boxLies) dX11_boxLies_80 ?_
      obtain ⟨x_25, x_25_e, hi_26, H⟩ := rd_e H
      refine z_iald (M := M_X11_boxLies) dX11_boxLies_81 ly_274 rfl (by decide +kernel) rfl hi_26 x_25_e ?_
      refine z_iload_n (M := M_X11_boxLies) dX11_boxLies_82 rfl ?_
      rcases if_e H with ⟨h_27, H⟩ | ⟨h_27, H⟩
      · refine z_icmp_lt_f (M := M_X11_boxLies) (tgt := 122) dX11_boxLies_83 (by decide) rfl rfl h_27 ?_
        refine z_aload_n (M := M_X11_boxLies) dX11_boxLies_86 rfl ?_
        refine z_getR (M := M_X11_boxLies) (ci := 14) (C := RX11) (T := TX11) (Nf := 19) (ty := tyX11) cl14 dX11_boxLies_87 ly_32 15 (by decide) t_578 rfl ?_
        refine z_iconst (M := M_X11_boxLies) dX11_boxLies_90 ?_
        obtain ⟨x_28, x_28_e, hi_29, H⟩ := rd_e H
        refine z_iald (M := M_X11_boxLies) dX11_boxLies_91 ly_274 rfl (by decide +kernel) rfl hi_29 x_28_e ?_
        refine z_iload (M := M_X11_boxLies) dX11_boxLies_92 rfl ?_
        rcases if_e H with ⟨h_30, H⟩ | ⟨h_30, H⟩
        · refine z_icmp_gt_f (M := M_X11_boxLies) (tgt := 122) dX11_boxLies_94 (by decide) rfl rfl h_30 ?_
          refine z_aload_n (M := M_X11_boxLies) dX11_boxLies_97 rfl ?_
          refine z_getR (M := M_X11_boxLies) (ci := 14) (C := RX11) (T := TX11) (Nf := 19) (ty := tyX11) cl14 dX11_boxLies_98 ly_32 15 (by decide) t_578 rfl ?_
          refine z_iconst (M := M_X11_boxLies) dX11_boxLies_101 ?_
          obtain ⟨x_31, x_31_e, hi_32, H⟩ := rd_e H
          refine z_iald (M := M_X11_boxLies) dX11_boxLies_102 ly_274 rfl (by decide +kernel) rfl hi_32 x_31_e ?_
          refine z_iload_n (M := M_X11_boxLies) dX11_boxLies_103 rfl ?_
          rcases if_e H with ⟨h_33, H⟩ | ⟨h_33, H⟩
          · refine z_icmp_lt_f (M := M_X11_boxLies) (tgt := 122) dX11_boxLies_104 (by decide) rfl rfl h_33 ?_
            refine z_aload_n (M := M_X11_boxLies) dX11_boxLies_107 rfl ?_
            refine z_getR (M := M_X11_boxLies) (ci := 14) (C := RX11) (T := TX11) (Nf := 19) (ty := tyX11) cl14 dX11_boxLies_108 ly_32 15 (by decide) t_578 rfl ?_
            refine z_iconst (M := M_X11_boxLies) dX11_boxLies_111 ?_
            obtain ⟨x_34, x_34_e, hi_35, H⟩ := rd_e H
            refine z_iald (M := M_X11_boxLies) dX11_boxLies_112 ly_274 rfl (by decide +kernel) rfl hi_35 x_34_e ?_
            refine z_iload (M := M_X11_boxLies) dX11_boxLies_113 rfl ?_
            rcases if_e H with ⟨h_36, H⟩ | ⟨h_36, H⟩
            · refine z_icmp_gt_f (M := M_X11_boxLies) (tgt := 122) dX11_boxLies_115 (by decide) rfl rfl h_36 ?_
              refine z_zconst (M := M_X11_boxLies) (b := true) dX11_boxLies_118 rfl ?_
              refine z_goto (M := M_X11_boxLies) (tgt := 123) dX11_boxLies_119 (by decide) ?_
              exact J_46 _ (Option.some.inj H).symm
            · refine z_icmp_gt_t (M := M_X11_boxLies) (tgt := 122) dX11_boxLies_115 (by decide) rfl rfl (Int.not_le.mp h_36) ?_
              refine z_zconst (M := M_X11_boxLies) (b := false) dX11_boxLies_122 rfl ?_
              exact J_46 _ (Option.some.inj H).symm
          · refine z_icmp_lt_t (M := M_X11_boxLies) (tgt := 122) dX11_boxLies_104 (by decide) rfl rfl (Int.not_le.mp h_33) ?_
            refine z_zconst (M := M_X11_boxLies) (b := false) dX11_boxLies_122 rfl ?_
            exact J_46 _ (Option.some.inj H).symm
        · refine z_icmp_gt_t (M := M_X11_boxLies) (tgt := 122) dX11_boxLies_94 (by decide) rfl rfl (Int.not_le.mp h_30) ?_
          refine z_zconst (M := M_X11_boxLies) (b := false) dX11_boxLies_122 rfl ?_
          exact J_46 _ (Option.some.inj H).symm
      · refine z_icmp_lt_t (M := M_X11_boxLies) (tgt := 122) dX11_boxLies_83 (by decide) rfl rfl (Int.not_le.mp h_27) ?_
        refine z_zconst (M := M_X11_boxLies) (b := false) dX11_boxLies_122 rfl ?_
        exact J_46 _ (Option.some.inj H).symm
    · refine z_lookup (M := M_X11_boxLies) (tgt := 124) (off := 123) dX11_boxLies_1 rfl (by decide) (by simp only [Op.lookupswitch.offset_cons, Op.lookupswitch.offset_nil]; repeat rw [if_neg (by omega)]) (by decide) ?_
      obtain ⟨v_65, he_66, hk_67⟩ := bd_e H
      have J_68 : ∀ x_64, v_65 = x_64 → YY l E M_X11_boxLies 1 0 0 (pS (some (zv r)) σ) 171 [some (vr 32), some (vi what_0), some (vi lowX_0), some (vi lowY_0), some (vi highX_0), some (vi highY_0)] [zv x_64] σ 0 0 := by
        intro x_64 e
        have H := hk_67
        rw [e] at H
        cases H
        exact z_zret (M := M_X11_boxLies) dX11_boxLies_171 rfl (Nat.le_of_ble_eq_true rfl) (Nat.le_of_ble_eq_true rfl) ⟨rfl, rfl⟩
      have H := he_66
      refine z_aload_n (M := M_X11_boxLies) dX11_boxLies_124 rfl ?_
      refine z_getR (M := M_X11_boxLies) (ci := 14) (C := RX11) (T := TX11) (Nf := 19) (ty := tyX11) cl14 dX11_boxLies_125 ly_32 15 (by decide) t_578 rfl ?_
      refine z_iconst (M := M_X11_boxLies) dX11_boxLies_128 ?_
      obtain ⟨x_47, x_47_e, hi_48, H⟩ := rd_e H
      refine z_iald (M := M_X11_boxLies) dX11_boxLies_129 ly_274 rfl (by decide +kernel) rfl hi_48 x_47_e ?_
      refine z_iload_n (M := M_X11_boxLies) dX11_boxLies_130 rfl ?_
      rcases if_e H with ⟨h_49, H⟩ | ⟨h_49, H⟩
      · refine z_icmp_gt_f (M := M_X11_boxLies) (tgt := 170) dX11_boxLies_131 (by decide) rfl rfl h_49 ?_
        refine z_aload_n (M := M_X11_boxLies) dX11_boxLies_134 rfl ?_
        refine z_getR (M := M_X11_boxLies) (ci := 14) (C := RX11) (T := TX11) (Nf := 19) (ty := tyX11) cl14 dX11_boxLies_135 ly_32 15 (by decide) t_578 rfl ?_
        refine z_iconst (M := M_X11_boxLies) dX11_boxLies_138 ?_
        obtain ⟨x_50, x_50_e, hi_51, H⟩ := rd_e H
        refine z_iald (M := M_X11_boxLies) dX11_boxLies_139 ly_274 rfl (by decide +kernel) rfl hi_51 x_50_e ?_
        refine z_iload (M := M_X11_boxLies) dX11_boxLies_140 rfl ?_
        rcases if_e H with ⟨h_52, H⟩ | ⟨h_52, H⟩
        · refine z_icmp_lt_f (M := M_X11_boxLies) (tgt := 170) dX11_boxLies_142 (by decide) rfl rfl h_52 ?_
          refine z_aload_n (M := M_X11_boxLies) dX11_boxLies_145 rfl ?_
          refine z_getR (M := M_X11_boxLies) (ci := 14) (C := RX11) (T := TX11) (Nf := 19) (ty := tyX11) cl14 dX11_boxLies_146 ly_32 15 (by decide) t_578 rfl ?_
          refine z_iconst (M := M_X11_boxLies) dX11_boxLies_149 ?_
          obtain ⟨x_53, x_53_e, hi_54, H⟩ := rd_e H
          refine z_iald (M := M_X11_boxLies) dX11_boxLies_150 ly_274 rfl (by decide +kernel) rfl hi_54 x_53_e ?_
          refine z_iload_n (M := M_X11_boxLies) dX11_boxLies_151 rfl ?_
          rcases if_e H with ⟨h_55, H⟩ | ⟨h_55, H⟩
          · refine z_icmp_gt_f (M := M_X11_boxLies) (tgt := 170) dX11_boxLies_152 (by decide) rfl rfl h_55 ?_
            refine z_aload_n (M := M_X11_boxLies) dX11_boxLies_155 rfl ?_
            refine z_getR (M := M_X11_boxLies) (ci := 14) (C := RX11) (T := TX11) (Nf := 19) (ty := tyX11) cl14 dX11_boxLies_156 ly_32 15 (by decide) t_578 rfl ?_
            refine z_iconst (M := M_X11_boxLies) dX11_boxLies_159 ?_
            obtain ⟨x_56, x_56_e, hi_57, H⟩ := rd_e H
            refine z_iald (M := M_X11_boxLies) dX11_boxLies_160 ly_274 rfl (by decide +kernel) rfl hi_57 x_56_e ?_
            refine z_iload (M := M_X11_boxLies) dX11_boxLies_161 rfl ?_
            rcases if_e H with ⟨h_58, H⟩ | ⟨h_58, H⟩
            · refine z_icmp_lt_f (M := M_X11_boxLies) (tgt := 170) dX11_boxLies_163 (by decide) rfl rfl h_58 ?_
              refine z_zconst (M := M_X11_boxLies) (b := true) dX11_boxLies_166 rfl ?_
              refine z_goto (M := M_X11_boxLies) (tgt := 171) dX11_boxLies_167 (by decide) ?_
              exact J_68 _ (Option.some.inj H).symm
            · refine z_icmp_lt_t (M := M_X11_boxLies) (tgt := 170) dX11_boxLies_163 (by decide) rfl rfl (Int.not_le.mp h_58) ?_
              refine z_zconst (M := M_X11_boxLies) (b := false) dX11_boxLies_170 rfl ?_
              exact J_68 _ (Option.some.inj H).symm
          · refine z_icmp_gt_t (M := M_X11_boxLies) (tgt := 170) dX11_boxLies_152 (by decide) rfl rfl (Int.not_le.mp h_55) ?_
            refine z_zconst (M := M_X11_boxLies) (b := false) dX11_boxLies_170 rfl ?_
            exact J_68 _ (Option.some.inj H).symm
        · refine z_icmp_lt_t (M := M_X11_boxLies) (tgt := 170) dX11_boxLies_142 (by decide) rfl rfl (Int.not_le.mp h_52) ?_
          refine z_zconst (M := M_X11_boxLies) (b := false) dX11_boxLies_170 rfl ?_
          exact J_68 _ (Option.some.inj H).symm
      · refine z_icmp_gt_t (M := M_X11_boxLies) (tgt := 170) dX11_boxLies_131 (by decide) rfl rfl (Int.not_le.mp h_49) ?_
        refine z_zconst (M := M_X11_boxLies) (b := false) dX11_boxLies_170 rfl ?_
        exact J_68 _ (Option.some.inj H).symm
theorem c_X11_find (hl : l.stackTraces = false) {σ : SG} {what_0 : Int} {lowX_0 : Int} {lowY_0 : Int} {highX_0 : Int} {highY_0 : Int} {r : Int ⊕ Nat} {σ' : SG}  (H : fQ_find σ what_0 lowX_0 lowY_0 highX_0 highY_0 = some (r, σ')) : en_S l E M_X11_find 6 1 6 [vr 32, vi what_0, vi lowX_0, vi lowY_0, vi highX_0, vi highY_0] σ (pT (riT r) σ') := by
  unfold fQ_find at H
  refine z_mk (lv := [some (vr 32), some (vi what_0), some (vi lowX_0), some (vi lowY_0), some (vi highX_0), some (vi highY_0), none]) m_X11_find rfl hl (Nat.le_of_ble_eq_true rfl) rfl ?_
  rcases if_e H with ⟨h_49, H⟩ | ⟨h_49, H⟩
  · have J_50 : YY l E M_X11_find 6 1 6 (pT (riT r) σ') 51 [some (vr 32), some (vi what_0), some (vi lowX_0), some (vi lowY_0), some (vi highX_0), some (vi highY_0), none] [] σ 0 0 := by
      cases H
      exact z_throw (M := M_X11_find) (names := en_nm) rfl dX11_find_51 dX11_find_54 dX11_find_55 dX11_find_58 (by decide +kernel) en_nm_ok (Or.inl t_721) (Or.inl t_19) at_X11_IllegalArgumentException_118 (Nat.le_of_ble_eq_true rfl) (Nat.le_of_ble_eq_true rfl) (Nat.le_of_ble_eq_true rfl) (Nat.le_of_ble_eq_true rfl) ⟨rfl, rfl⟩
    refine z_iload_n (M := M_X11_find) dX11_find_0 rfl ?_
    by_cases h_52 : (w32 what_0) < 0
    · refine z_if_lt_t (M := M_X11_find) (tgt := 51) dX11_find_1 (by decide) rfl h_52 ?_
      exact J_50
    · refine z_if_lt_f (M := M_X11_find) (tgt := 51) dX11_find_1 (by decide) rfl (Int.not_lt.mp h_52) ?_
      refine z_iload_n (M := M_X11_find) dX11_find_4 rfl ?_
      refine z_iconst (M := M_X11_find) dX11_find_5 ?_
      by_cases h_53 : 2 < (w32 what_0)
      · refine z_icmp_gt_t (M := M_X11_find) (tgt := 51) dX11_find_6 (by decide) rfl (by decide +kernel) h_53 ?_
        exact J_50
      · refine z_icmp_gt_f (M := M_X11_find) (tgt := 51) dX11_find_6 (by decide) rfl (by decide +kernel) (Int.not_lt.mp h_53) ?_
        refine z_iload_n (M := M_X11_find) dX11_find_9 rfl ?_
        refine z_ldcw (M := M_X11_find) (n := (-1000000000)) dX11_find_10 t_2249 (by decide +kernel) ?_
        by_cases h_54 : (w32 lowX_0) < (-1000000000)
        · refine z_icmp_lt_t (M := M_X11_find) (tgt := 51) dX11_find_13 (by decide) rfl (by decide +kernel) h_54 ?_
          exact J_50
        · refine z_icmp_lt_f (M := M_X11_find) (tgt := 51) dX11_find_13 (by decide) rfl (by decide +kernel) (Int.not_lt.mp h_54) ?_
          refine z_iload_n (M := M_X11_find) dX11_find_16 rfl ?_
          refine z_ldcw (M := M_X11_find) (n := (-1000000000)) dX11_find_17 t_2249 (by decide +kernel) ?_
          by_cases h_55 : (w32 lowY_0) < (-1000000000)
          · refine z_icmp_lt_t (M := M_X11_find) (tgt := 51) dX11_find_20 (by decide) rfl (by decide +kernel) h_55 ?_
            exact J_50
          · refine z_icmp_lt_f (M := M_X11_find) (tgt := 51) dX11_find_20 (by decide) rfl (by decide +kernel) (Int.not_lt.mp h_55) ?_
            refine z_iload (M := M_X11_find) dX11_find_23 rfl ?_
            refine z_ldcw (M := M_X11_find) (n := 1000000000) dX11_find_25 t_2191 (by decide +kernel) ?_
            by_cases h_56 : 1000000000 < (w32 highX_0)
            · refine z_icmp_gt_t (M := M_X11_find) (tgt := 51) dX11_find_28 (by decide) rfl (by decide +kernel) h_56 ?_
              exact J_50
            · refine z_icmp_gt_f (M := M_X11_find) (tgt := 51) dX11_find_28 (by decide) rfl (by decide +kernel) (Int.not_lt.mp h_56) ?_
              refine z_iload (M := M_X11_find) dX11_find_31 rfl ?_
              refine z_ldcw (M := M_X11_find) (n := 1000000000) dX11_find_33 t_2191 (by decide +kernel) ?_
              by_cases h_57 : 1000000000 < (w32 highY_0)
              · refine z_icmp_gt_t (M := M_X11_find) (tgt := 51) dX11_find_36 (by decide) rfl (by decide +kernel) h_57 ?_
                exact J_50
              · refine z_icmp_gt_f (M := M_X11_find) (tgt := 51) dX11_find_36 (by decide) rfl (by decide +kernel) (Int.not_lt.mp h_57) ?_
                refine z_iload (M := M_X11_find) dX11_find_39 rfl ?_
                refine z_iload_n (M := M_X11_find) dX11_find_41 rfl ?_
                by_cases h_58 : (w32 highX_0) < (w32 lowX_0)
                · refine z_icmp_lt_t (M := M_X11_find) (tgt := 51) dX11_find_42 (by decide) rfl rfl h_58 ?_
                  exact J_50
                · refine z_icmp_lt_f (M := M_X11_find) (tgt := 51) dX11_find_42 (by decide) rfl rfl (Int.not_lt.mp h_58) ?_
                  refine z_iload (M := M_X11_find) dX11_find_45 rfl ?_
                  refine z_iload_n (M := M_X11_find) dX11_find_47 rfl ?_
                  by_cases h_59 : (w32 highY_0) < (w32 lowY_0)
                  · refine z_icmp_ge_f (M := M_X11_find) (tgt := 59) dX11_find_48 (by decide) rfl rfl h_59 ?_
                    exact J_50
                  · refine z_icmp_ge_t (M := M_X11_find) (tgt := 59) dX11_find_48 (by decide) rfl rfl (Int.not_lt.mp h_59) ?_
                    exact absurd h_49 (fun q => q.elim (fun q => q.elim (fun q => q.elim (fun q => q.elim (fun q => q.elim (fun q => q.elim (fun q => q.elim h_52 h_53) h_54) h_55) h_56) h_57) h_58) h_59)
  · have J_51 : YY l E M_X11_find 6 1 6 (pT (riT r) σ') 59 [some (vr 32), some (vi what_0), some (vi lowX_0), some (vi lowY_0), some (vi highX_0), some (vi highY_0), none] [] σ 0 0 := by
      refine z_aload_n (M := M_X11_find) dX11_find_59 rfl ?_
      refine z_iconst (M := M_X11_find) dX11_find_60 ?_
      obtain ⟨σ_1, σ_1_e, H⟩ := wf_e H
      refine z_putI (M := M_X11_find) (ci := 14) (C := RX11) (T := TX11) (Nf := 19) (ty := tyX11) cl14 dX11_find_61 ly_32 18 (by decide) t_581 rfl rfl rfl rfl σ_1_e ?_
      refine z_iconst (M := M_X11_find) dX11_find_64 ?_
      refine z_istore (M := M_X11_find) (lv' := [some (vr 32), some (vi what_0), some (vi lowX_0), some (vi lowY_0), some (vi highX_0), some (vi highY_0), some (vi 0)]) dX11_find_65 (Nat.le_of_ble_eq_true rfl) rfl rfl ?_
      obtain ⟨rl_7, hw_4, hk_5⟩ := bd_e H
      have J_48 : ∀ i_46 σ_47, rl_7 = (i_46, σ_47) → YY l E M_X11_find 6 1 6 (pT (riT r) σ') 132 [some (vr 32), some (vi what_0), some (vi lowX_0), some (vi lowY_0), some (vi highX_0), some (vi highY_0), some (vi i_46)] [] σ_47 0 0 := by
        intro i_46 σ_47 e
        have H := hk_5
        rw [e] at H
        refine z_aload_n (M := M_X11_find) dX11_find_132 rfl ?_
        refine z_getI (M := M_X11_find) (ci := 14) (C := RX11) (T := TX11) (Nf := 19) (ty := tyX11) cl14 dX11_find_133 ly_32 18 (by decide) t_581 rfl rfl ?_
        cases H
        exact z_iret (M := M_X11_find) dX11_find_136 rfl (Nat.le_of_ble_eq_true rfl) (Nat.le_of_ble_eq_true rfl) ⟨rfl, rfl⟩
      refine whl_go hw_4 (fun (i_2, σ_3) => YY l E M_X11_find 6 1 6 (pT (riT r) σ') 67 [some (vr 32), some (vi what_0), some (vi lowX_0), some (vi lowY_0), some (vi highX_0), some (vi highY_0), some (vi i_2)] [] σ_3 0 0) ?_
      rintro ⟨i_2, σ_3⟩ o_8 H K_9 K_10
      refine z_iload (M := M_X11_find) dX11_find_67 rfl ?_
      refine z_bipush (M := M_X11_find) dX11_find_69 (by decide +kernel) ?_
      rcases if_e H with ⟨h_11, H⟩ | ⟨h_11, H⟩
      · refine z_icmp_ge_f (M := M_X11_find) (tgt := 132) dX11_find_71 (by decide) rfl (by decide +kernel) h_11 ?_
        obtain ⟨v_15, he_12, hk_13⟩ := bd_e H
        have J_44 : ∀ σ_42, v_15 = σ_42 → YY l E M_X11_find 6 1 6 (pT (riT r) σ') 126 [some (vr 32), some (vi what_0), some (vi lowX_0), some (vi lowY_0), some (vi highX_0), some (vi highY_0), some (vi i_2)] [] σ_42 0 0 := by
          intro σ_42 e
          have H := hk_13
          rw [e] at H
          refine z_iinc (M := M_X11_find) (lv' := [some (vr 32), some (vi what_0), some (vi lowX_0), some (vi lowY_0), some (vi highX_0), some (vi highY_0), some (vi (i_2 + 1))]) dX11_find_126 rfl (Nat.le_of_ble_eq_true rfl) rfl rfl ?_
          refine z_goto (M := M_X11_find) (tgt := 67) dX11_find_129 (by decide) ?_
          exact K_9 _ (Option.some.inj H).symm
        have H := he_12
        refine z_aload_n (M := M_X11_find) dX11_find_74 rfl ?_
        refine z_getR (M := M_X11_find) (ci := 14) (C := RX11) (T := TX11) (Nf := 19) (ty := tyX11) cl14 dX11_find_75 ly_32 0 (by decide) t_563 rfl ?_
        refine z_iload (M := M_X11_find) dX11_find_78 rfl ?_
        obtain ⟨hi_28, H⟩ := ck_e H
        refine z_aald (M := M_X11_find) dX11_find_80 ly_33 rfl rfl hi_28 rfl ?_
        refine z_aload_n (M := M_X11_find) dX11_find_81 rfl ?_
        refine z_getR (M := M_X11_find) (ci := 14) (C := RX11) (T := TX11) (Nf := 19) (ty := tyX11) cl14 dX11_find_82 ly_32 15 (by decide) t_578 rfl ?_
        obtain ⟨⟨x_31, σ_30⟩, hc_29, H⟩ := bd_e H
        refine z_callV (M := M_X11_find) (M' := M_X6_putBox) (as := [vr 274]) (rest := []) rfl rfl dX11_find_85 m_X6_putBox t_2236 t_2237 t_2238 (c_X6_putBox hl (sl_S hi_28) hc_29) rfl rfl (ly_S (sl_S hi_28)) rfl (Nat.le_of_ble_eq_true rfl) (Nat.le_of_ble_eq_true rfl) (Nat.le_of_ble_eq_true rfl) (Nat.le_of_ble_eq_true rfl) ?_
        refine z_st (st' := [zv x_31]) rfl ?_
        rcases if_e H with ⟨h_32, H⟩ | ⟨h_32, H⟩
        · refine z_zeq_f (M := M_X11_find) (tgt := 126) dX11_find_88 (by decide) h_32 ?_
          refine z_aload_n (M := M_X11_find) dX11_find_91 rfl ?_
          refine z_iload_n (M := M_X11_find) dX11_find_92 rfl ?_
          refine z_iload_n (M := M_X11_find) dX11_find_93 rfl ?_
          refine z_iload_n (M := M_X11_find) dX11_find_94 rfl ?_
          refine z_iload (M := M_X11_find) dX11_find_95 rfl ?_
          refine z_iload (M := M_X11_find) dX11_find_97 rfl ?_
          obtain ⟨x_34, hc_33, H⟩ := bd_e H
          refine z_callV (M := M_X11_find) (M' := M_X11_boxLies) (as := [vi what_0, vi lowX_0, vi lowY_0, vi highX_0, vi highY_0]) (rest := []) rfl rfl dX11_find_99 m_X11_boxLies t_2250 t_2252 s_144 (c_X11_boxLies hl  hc_33) rfl rfl ly_32 rfl (Nat.le_of_ble_eq_true rfl) (Nat.le_of_ble_eq_true rfl) (Nat.le_of_ble_eq_true rfl) (Nat.le_of_ble_eq_true rfl) ?_
          refine z_st (st' := [zv x_34]) rfl ?_
          rcases if_e H with ⟨h_35, H⟩ | ⟨h_35, H⟩
          · refine z_zeq_f (M := M_X11_find) (tgt := 126) dX11_find_102 (by decide) h_35 ?_
            refine z_aload_n (M := M_X11_find) dX11_find_105 rfl ?_
            refine z_getR (M := M_X11_find) (ci := 14) (C := RX11) (T := TX11) (Nf := 19) (ty := tyX11) cl14 dX11_find_106 ly_32 16 (by decide) t_579 rfl ?_
            refine z_aload_n (M := M_X11_find) dX11_find_109 rfl ?_
            refine z_getI (M := M_X11_find) (ci := 14) (C := RX11) (T := TX11) (Nf := 19) (ty := tyX11) cl14 dX11_find_110 ly_32 18 (by decide) t_581 rfl rfl ?_
            refine z_iload (M := M_X11_find) dX11_find_113 rfl ?_
            obtain ⟨σ_36, σ_36_e, hi_37, H⟩ := wa_e H
            refine z_iast (M := M_X11_find) dX11_find_115 ly_275 rfl rfl rfl hi_37 σ_36_e ?_
            refine z_aload_n (M := M_X11_find) dX11_find_116 rfl ?_
            refine z_dup (M := M_X11_find) dX11_find_117 rfl ?_
            refine z_getI (M := M_X11_find) (ci := 14) (C := RX11) (T := TX11) (Nf := 19) (ty := tyX11) cl14 dX11_find_118 ly_32 18 (by decide) t_581 rfl rfl ?_
            refine z_iconst (M := M_X11_find) dX11_find_121 ?_
            refine z_iadd (M := M_X11_find) dX11_find_122 ?_
            obtain ⟨σ_38, σ_38_e, H⟩ := wf_e H
            refine z_putI (M := M_X11_find) (ci := 14) (C := RX11) (T := TX11) (Nf := 19) (ty := tyX11) cl14 dX11_find_123 ly_32 18 (by decide) t_581 rfl rfl rfl rfl σ_38_e ?_
            exact J_44 _ (Option.some.inj H).symm
          · refine z_zeq_t (M := M_X11_find) (tgt := 126) dX11_find_102 (by decide) h_35 ?_
            exact J_44 _ (Option.some.inj H).symm
        · refine z_zeq_t (M := M_X11_find) (tgt := 126) dX11_find_88 (by decide) h_32 ?_
          exact J_44 _ (Option.some.inj H).symm
      · refine z_icmp_ge_t (M := M_X11_find) (tgt := 132) dX11_find_71 (by decide) rfl (by decide +kernel) (Int.not_lt.mp h_11) ?_
        exact J_48 _ _ (K_10 _ (Option.some.inj H).symm).symm
    refine z_iload_n (M := M_X11_find) dX11_find_0 rfl ?_
    by_cases h_60 : (w32 what_0) < 0
    · refine z_if_lt_t (M := M_X11_find) (tgt := 51) dX11_find_1 (by decide) rfl h_60 ?_
      exact absurd (Or.inl (Or.inl (Or.inl (Or.inl (Or.inl (Or.inl (Or.inl h_60))))))) h_49
    · refine z_if_lt_f (M := M_X11_find) (tgt := 51) dX11_find_1 (by decide) rfl (Int.not_lt.mp h_60) ?_
      refine z_iload_n (M := M_X11_find) dX11_find_4 rfl ?_
      refine z_iconst (M := M_X11_find) dX11_find_5 ?_
      by_cases h_61 : 2 < (w32 what_0)
      · refine z_icmp_gt_t (M := M_X11_find) (tgt := 51) dX11_find_6 (by decide) rfl (by decide +kernel) h_61 ?_
        exact absurd (Or.inl (Or.inl (Or.inl (Or.inl (Or.inl (Or.inl (Or.inr h_61))))))) h_49
      · refine z_icmp_gt_f (M := M_X11_find) (tgt := 51) dX11_find_6 (by decide) rfl (by decide +kernel) (Int.not_lt.mp h_61) ?_
        refine z_iload_n (M := M_X11_find) dX11_find_9 rfl ?_
        refine z_ldcw (M := M_X11_find) (n := (-1000000000)) dX11_find_10 t_2249 (by decide +kernel) ?_
        by_cases h_62 : (w32 lowX_0) < (-1000000000)
        · refine z_icmp_lt_t (M := M_X11_find) (tgt := 51) dX11_find_13 (by decide) rfl (by decide +kernel) h_62 ?_
          exact absurd (Or.inl (Or.inl (Or.inl (Or.inl (Or.inl (Or.inr h_62)))))) h_49
        · refine z_icmp_lt_f (M := M_X11_find) (tgt := 51) dX11_find_13 (by decide) rfl (by decide +kernel) (Int.not_lt.mp h_62) ?_
          refine z_iload_n (M := M_X11_find) dX11_find_16 rfl ?_
          refine z_ldcw (M := M_X11_find) (n := (-1000000000)) dX11_find_17 t_2249 (by decide +kernel) ?_
          by_cases h_63 : (w32 lowY_0) < (-1000000000)
          · refine z_icmp_lt_t (M := M_X11_find) (tgt := 51) dX11_find_20 (by decide) rfl (by decide +kernel) h_63 ?_
            exact absurd (Or.inl (Or.inl (Or.inl (Or.inl (Or.inr h_63))))) h_49
          · refine z_icmp_lt_f (M := M_X11_find) (tgt := 51) dX11_find_20 (by decide) rfl (by decide +kernel) (Int.not_lt.mp h_63) ?_
            refine z_iload (M := M_X11_find) dX11_find_23 rfl ?_
            refine z_ldcw (M := M_X11_find) (n := 1000000000) dX11_find_25 t_2191 (by decide +kernel) ?_
            by_cases h_64 : 1000000000 < (w32 highX_0)
            · refine z_icmp_gt_t (M := M_X11_find) (tgt := 51) dX11_find_28 (by decide) rfl (by decide +kernel) h_64 ?_
              exact absurd (Or.inl (Or.inl (Or.inl (Or.inr h_64)))) h_49
            · refine z_icmp_gt_f (M := M_X11_find) (tgt := 51) dX11_find_28 (by decide) rfl (by decide +kernel) (Int.not_lt.mp h_64) ?_
              refine z_iload (M := M_X11_find) dX11_find_31 rfl ?_
              refine z_ldcw (M := M_X11_find) (n := 1000000000) dX11_find_33 t_2191 (by decide +kernel) ?_
              by_cases h_65 : 1000000000 < (w32 highY_0)
              · refine z_icmp_gt_t (M := M_X11_find) (tgt := 51) dX11_find_36 (by decide) rfl (by decide +kernel) h_65 ?_
                exact absurd (Or.inl (Or.inl (Or.inr h_65))) h_49
              · refine z_icmp_gt_f (M := M_X11_find) (tgt := 51) dX11_find_36 (by decide) rfl (by decide +kernel) (Int.not_lt.mp h_65) ?_
                refine z_iload (M := M_X11_find) dX11_find_39 rfl ?_
                refine z_iload_n (M := M_X11_find) dX11_find_41 rfl ?_
                by_cases h_66 : (w32 highX_0) < (w32 lowX_0)
                · refine z_icmp_lt_t (M := M_X11_find) (tgt := 51) dX11_find_42 (by decide) rfl rfl h_66 ?_
                  exact absurd (Or.inl (Or.inr h_66)) h_49
                · refine z_icmp_lt_f (M := M_X11_find) (tgt := 51) dX11_find_42 (by decide) rfl rfl (Int.not_lt.mp h_66) ?_
                  refine z_iload (M := M_X11_find) dX11_find_45 rfl ?_
                  refine z_iload_n (M := M_X11_find) dX11_find_47 rfl ?_
                  by_cases h_67 : (w32 highY_0) < (w32 lowY_0)
                  · refine z_icmp_ge_f (M := M_X11_find) (tgt := 59) dX11_find_48 (by decide) rfl rfl h_67 ?_
                    exact absurd (Or.inr h_67) h_49
                  · refine z_icmp_ge_t (M := M_X11_find) (tgt := 59) dX11_find_48 (by decide) rfl rfl (Int.not_lt.mp h_67) ?_
                    exact J_51
theorem c_X11_distanceFromBox (hl : l.stackTraces = false) {σ : SG} {x_0 : Int} {y_0 : Int} {r : Int}  (H : fQ_distanceFromBox σ x_0 y_0 = some r) : en_S l E M_X11_distanceFromBox 1 0 0 [vr 32, vi x_0, vi y_0] σ (pS (some (vl r)) σ) := by
  unfold fQ_distanceFromBox at H
  refine z_mk (lv := [some (vr 32), some (vi x_0), some (vi y_0), none, none, none, none]) m_X11_distanceFromBox rfl hl (Nat.le_of_ble_eq_true rfl) rfl ?_
  refine z_lconst (M := M_X11_distanceFromBox) (m := 0) dX11_distanceFromBox_0 (by decide +kernel) ?_
  refine z_aload_n (M := M_X11_distanceFromBox) dX11_distanceFromBox_1 rfl ?_
  refine z_getR (M := M_X11_distanceFromBox) (ci := 14) (C := RX11) (T := TX11) (Nf := 19) (ty := tyX11) cl14 dX11_distanceFromBox_2 ly_32 15 (by decide) t_578 rfl ?_
  refine z_iconst (M := M_X11_distanceFromBox) dX11_distanceFromBox_5 ?_
  obtain ⟨x_1, x_1_e, hi_2, H⟩ := rd_e H
  refine z_iald (M := M_X11_distanceFromBox) dX11_distanceFromBox_6 ly_274 rfl (by decide +kernel) rfl hi_2 x_1_e ?_
  refine z_i2l (M := M_X11_distanceFromBox) dX11_distanceFromBox_7 ?_
  refine z_iload_n (M := M_X11_distanceFromBox) dX11_distanceFromBox_8 rfl ?_
  refine z_i2l (M := M_X11_distanceFromBox) dX11_distanceFromBox_9 ?_
  refine z_lsub (M := M_X11_distanceFromBox) dX11_distanceFromBox_10 ?_
  refine z_iload_n (M := M_X11_distanceFromBox) dX11_distanceFromBox_11 rfl ?_
  refine z_i2l (M := M_X11_distanceFromBox) dX11_distanceFromBox_12 ?_
  refine z_aload_n (M := M_X11_distanceFromBox) dX11_distanceFromBox_13 rfl ?_
  refine z_getR (M := M_X11_distanceFromBox) (ci := 14) (C := RX11) (T := TX11) (Nf := 19) (ty := tyX11) cl14 dX11_distanceFromBox_14 ly_32 15 (by decide) t_578 rfl ?_
  refine z_iconst (M := M_X11_distanceFromBox) dX11_distanceFromBox_17 ?_
  obtain ⟨x_3, x_3_e, hi_4, H⟩ := rd_e H
  refine z_iald (M := M_X11_distanceFromBox) dX11_distanceFromBox_18 ly_274 rfl (by decide +kernel) rfl hi_4 x_3_e ?_
  refine z_i2l (M := M_X11_distanceFromBox) dX11_distanceFromBox_19 ?_
  refine z_lsub (M := M_X11_distanceFromBox) dX11_distanceFromBox_20 ?_
  refine z_lmax (M := M_X11_distanceFromBox) dX11_distanceFromBox_21 t_2265 t_1993 t_20 t_1994 (Nat.le_of_ble_eq_true rfl) (Nat.le_of_ble_eq_true rfl) (Nat.le_of_ble_eq_true rfl) (Nat.le_of_ble_eq_true rfl) ?_
  refine z_lmax (M := M_X11_distanceFromBox) dX11_distanceFromBox_24 t_2265 t_1993 t_20 t_1994 (Nat.le_of_ble_eq_true rfl) (Nat.le_of_ble_eq_true rfl) (Nat.le_of_ble_eq_true rfl) (Nat.le_of_ble_eq_true rfl) ?_
  obtain ⟨x_5, x_5_e, H⟩ := lt_e H
  refine z_st (congrArg (fun z => vl z :: []) x_5_e) ?_
  refine z_lstore_n (M := M_X11_distanceFromBox) (lv' := [some (vr 32), some (vi x_0), some (vi y_0), some (vl x_5), none, none, none]) dX11_distanceFromBox_27 (Nat.le_of_ble_eq_true rfl) rfl rfl ?_
  refine z_lconst (M := M_X11_distanceFromBox) (m := 0) dX11_distanceFromBox_28 (by decide +kernel) ?_
  refine z_aload_n (M := M_X11_distanceFromBox) dX11_distanceFromBox_29 rfl ?_
  refine z_getR (M := M_X11_distanceFromBox) (ci := 14) (C := RX11) (T := TX11) (Nf := 19) (ty := tyX11) cl14 dX11_distanceFromBox_30 ly_32 15 (by decide) t_578 rfl ?_
  refine z_iconst (M := M_X11_distanceFromBox) dX11_distanceFromBox_33 ?_
  obtain ⟨x_6, x_6_e, hi_7, H⟩ := rd_e H
  refine z_iald (M := M_X11_distanceFromBox) dX11_distanceFromBox_34 ly_274 rfl (by decide +kernel) rfl hi_7 x_6_e ?_
  refine z_i2l (M := M_X11_distanceFromBox) dX11_distanceFromBox_35 ?_
  refine z_iload_n (M := M_X11_distanceFromBox) dX11_distanceFromBox_36 rfl ?_
  refine z_i2l (M := M_X11_distanceFromBox) dX11_distanceFromBox_37 ?_
  refine z_lsub (M := M_X11_distanceFromBox) dX11_distanceFromBox_38 ?_
  refine z_iload_n (M := M_X11_distanceFromBox) dX11_distanceFromBox_39 rfl ?_
  refine z_i2l (M := M_X11_distanceFromBox) dX11_distanceFromBox_40 ?_
  refine z_aload_n (M := M_X11_distanceFromBox) dX11_distanceFromBox_41 rfl ?_
  refine z_getR (M := M_X11_distanceFromBox) (ci := 14) (C := RX11) (T := TX11) (Nf := 19) (ty := tyX11) cl14 dX11_distanceFromBox_42 ly_32 15 (by decide) t_578 rfl ?_
  refine z_iconst (M := M_X11_distanceFromBox) dX11_distanceFromBox_45 ?_
  obtain ⟨x_8, x_8_e, hi_9, H⟩ := rd_e H
  refine z_iald (M := M_X11_distanceFromBox) dX11_distanceFromBox_46 ly_274 rfl (by decide +kernel) rfl hi_9 x_8_e ?_
  refine z_i2l (M := M_X11_distanceFromBox) dX11_distanceFromBox_47 ?_
  refine z_lsub (M := M_X11_distanceFromBox) dX11_distanceFromBox_48 ?_
  refine z_lmax (M := M_X11_distanceFromBox) dX11_distanceFromBox_49 t_2265 t_1993 t_20 t_1994 (Nat.le_of_ble_eq_true rfl) (Nat.le_of_ble_eq_true rfl) (Nat.le_of_ble_eq_true rfl) (Nat.le_of_ble_eq_true rfl) ?_
  refine z_lmax (M := M_X11_distanceFromBox) dX11_distanceFromBox_52 t_2265 t_1993 t_20 t_1994 (Nat.le_of_ble_eq_true rfl) (Nat.le_of_ble_eq_true rfl) (Nat.le_of_ble_eq_true rfl) (Nat.le_of_ble_eq_true rfl) ?_
  obtain ⟨x_10, x_10_e, H⟩ := lt_e H
  refine z_st (congrArg (fun z => vl z :: []) x_10_e) ?_
  refine z_lstore (M := M_X11_distanceFromBox) (lv' := [some (vr 32), some (vi x_0), some (vi y_0), some (vl x_5), none, some (vl x_10), none]) dX11_distanceFromBox_55 (Nat.le_of_ble_eq_true rfl) rfl rfl ?_
  refine z_lload_n (M := M_X11_distanceFromBox) dX11_distanceFromBox_57 rfl ?_
  refine z_lload_n (M := M_X11_distanceFromBox) dX11_distanceFromBox_58 rfl ?_
  refine z_lmul (M := M_X11_distanceFromBox) dX11_distanceFromBox_59 ?_
  refine z_lload (M := M_X11_distanceFromBox) dX11_distanceFromBox_60 rfl ?_
  refine z_lload (M := M_X11_distanceFromBox) dX11_distanceFromBox_62 rfl ?_
  refine z_lmul (M := M_X11_distanceFromBox) dX11_distanceFromBox_64 ?_
  refine z_ladd (M := M_X11_distanceFromBox) dX11_distanceFromBox_65 ?_
  cases H
  exact z_lret (M := M_X11_distanceFromBox) dX11_distanceFromBox_66 rfl (Nat.le_of_ble_eq_true rfl) (Nat.le_of_ble_eq_true rfl) ⟨rfl, rfl⟩
theorem c_X11_insertByDistance (hl : l.stackTraces = false) {σ : SG} {boxes_0 : Int} {slot_0 : Int} {distance_0 : Int} {σ' : SG}  (H : fQ_insertByDistance σ boxes_0 slot_0 distance_0 = some σ') : en_S l E M_X11_insertByDistance 1 0 0 [vr 32, vi boxes_0, vi slot_0, vl distance_0] σ (pS (none) σ') := by
  unfold fQ_insertByDistance at H
  refine z_mk (lv := [some (vr 32), some (vi boxes_0), some (vi slot_0), some (vl distance_0), none, none]) m_X11_insertByDistance rfl hl (Nat.le_of_ble_eq_true rfl) rfl ?_
  refine z_iload_n (M := M_X11_insertByDistance) dX11_insertByDistance_0 rfl ?_
  refine z_istore (M := M_X11_insertByDistance) (lv' := [some (vr 32), some (vi boxes_0), some (vi slot_0), some (vl distance_0), none, some (vi boxes_0)]) dX11_insertByDistance_1 (Nat.le_of_ble_eq_true rfl) rfl rfl ?_
  obtain ⟨rl_6, hw_3, hk_4⟩ := bd_e H
  have J_39 : ∀ at_33 σ_34, rl_6 = (at_33, σ_34) → YY l E M_X11_insertByDistance 1 0 0 (pS (none) σ') 60 [some (vr 32), some (vi boxes_0), some (vi slot_0), some (vl distance_0), none, some (vi at_33)] [] σ_34 0 0 := by
    intro at_33 σ_34 e
    have H := hk_4
    rw [e] at H
    refine z_aload_n (M := M_X11_insertByDistance) dX11_insertByDistance_60 rfl ?_
    refine z_getR (M := M_X11_insertByDistance) (ci := 14) (C := RX11) (T := TX11) (Nf := 19) (ty := tyX11) cl14 dX11_insertByDistance_61 ly_32 17 (by decide) t_580 rfl ?_
    refine z_iload (M := M_X11_insertByDistance) dX11_insertByDistance_64 rfl ?_
    refine z_lload_n (M := M_X11_insertByDistance) dX11_insertByDistance_66 rfl ?_
    obtain ⟨σ_35, σ_35_e, hi_36, H⟩ := wa_e H
    refine z_last (M := M_X11_insertByDistance) dX11_insertByDistance_67 ly_276 rfl rfl rfl hi_36 σ_35_e ?_
    refine z_aload_n (M := M_X11_insertByDistance) dX11_insertByDistance_68 rfl ?_
    refine z_getR (M := M_X11_insertByDistance) (ci := 14) (C := RX11) (T := TX11) (Nf := 19) (ty := tyX11) cl14 dX11_insertByDistance_69 ly_32 16 (by decide) t_579 rfl ?_
    refine z_iload (M := M_X11_insertByDistance) dX11_insertByDistance_72 rfl ?_
    refine z_iload_n (M := M_X11_insertByDistance) dX11_insertByDistance_74 rfl ?_
    obtain ⟨σ_37, σ_37_e, hi_38, H⟩ := wa_e H
    refine z_iast (M := M_X11_insertByDistance) dX11_insertByDistance_75 ly_275 rfl rfl rfl hi_38 σ_37_e ?_
    cases H
    exact z_vret (M := M_X11_insertByDistance) dX11_insertByDistance_76 rfl (Nat.le_of_ble_eq_true rfl) (Nat.le_of_ble_eq_true rfl) ⟨rfl, rfl⟩
  refine whl_go hw_3 (fun (at_1, σ_2) => YY l E M_X11_insertByDistance 1 0 0 (pS (none) σ') 3 [some (vr 32), some (vi boxes_0), some (vi slot_0), some (vl distance_0), none, some (vi at_1)] [] σ_2 0 0) ?_
  rintro ⟨at_1, σ_2⟩ o_7 H K_8 K_9
  refine z_iload (M := M_X11_insertByDistance) dX11_insertByDistance_3 rfl ?_
  rcases if_e H with ⟨h_18, H⟩ | ⟨h_18, H⟩
  · refine z_if_le_f (M := M_X11_insertByDistance) (tgt := 60) dX11_insertByDistance_5 (by decide) rfl h_18 ?_
    refine z_aload_n (M := M_X11_insertByDistance) dX11_insertByDistance_8 rfl ?_
    refine z_getR (M := M_X11_insertByDistance) (ci := 14) (C := RX11) (T := TX11) (Nf := 19) (ty := tyX11) cl14 dX11_insertByDistance_9 ly_32 17 (by decide) t_580 rfl ?_
    refine z_iload (M := M_X11_insertByDistance) dX11_insertByDistance_12 rfl ?_
    refine z_iconst (M := M_X11_insertByDistance) dX11_insertByDistance_14 ?_
    refine z_isub (M := M_X11_insertByDistance) dX11_insertByDistance_15 ?_
    obtain ⟨x_19, x_19_e, hi_20, H⟩ := rd_e H
    refine z_lald (M := M_X11_insertByDistance) dX11_insertByDistance_16 ly_276 rfl rfl rfl hi_20 x_19_e ?_
    refine z_lload_n (M := M_X11_insertByDistance) dX11_insertByDistance_17 rfl ?_
    refine z_lcmp (M := M_X11_insertByDistance) dX11_insertByDistance_18 ?_
    rcases if_e H with ⟨h_21, H⟩ | ⟨h_21, H⟩
    · refine z_lif_le_f (M := M_X11_insertByDistance) (tgt := 60) dX11_insertByDistance_19 (by decide) rfl rfl h_21 ?_
      refine z_aload_n (M := M_X11_insertByDistance) dX11_insertByDistance_22 rfl ?_
      refine z_getR (M := M_X11_insertByDistance) (ci := 14) (C := RX11) (T := TX11) (Nf := 19) (ty := tyX11) cl14 dX11_insertByDistance_23 ly_32 17 (by decide) t_580 rfl ?_
      refine z_iload (M := M_X11_insertByDistance) dX11_insertByDistance_26 rfl ?_
      refine z_aload_n (M := M_X11_insertByDistance) dX11_insertByDistance_28 rfl ?_
      refine z_getR (M := M_X11_insertByDistance) (ci := 14) (C := RX11) (T := TX11) (Nf := 19) (ty := tyX11) cl14 dX11_insertByDistance_29 ly_32 17 (by decide) t_580 rfl ?_
      refine z_iload (M := M_X11_insertByDistance) dX11_insertByDistance_32 rfl ?_
      refine z_iconst (M := M_X11_insertByDistance) dX11_insertByDistance_34 ?_
      refine z_isub (M := M_X11_insertByDistance) dX11_insertByDistance_35 ?_
      obtain ⟨x_22, x_22_e, hi_23, H⟩ := rd_e H
      refine z_lald (M := M_X11_insertByDistance) dX11_insertByDistance_36 ly_276 rfl rfl rfl hi_23 x_22_e ?_
      obtain ⟨σ_24, σ_24_e, hi_25, H⟩ := wa_e H
      refine z_last (M := M_X11_insertByDistance) dX11_insertByDistance_37 ly_276 rfl rfl rfl hi_25 σ_24_e ?_
      refine z_aload_n (M := M_X11_insertByDistance) dX11_insertByDistance_38 rfl ?_
      refine z_getR (M := M_X11_insertByDistance) (ci := 14) (C := RX11) (T := TX11) (Nf := 19) (ty := tyX11) cl14 dX11_insertByDistance_39 ly_32 16 (by decide) t_579 rfl ?_
      refine z_iload (M := M_X11_insertByDistance) dX11_insertByDistance_42 rfl ?_
      refine z_aload_n (M := M_X11_insertByDistance) dX11_insertByDistance_44 rfl ?_
      refine z_getR (M := M_X11_insertByDistance) (ci := 14) (C := RX11) (T := TX11) (Nf := 19) (ty := tyX11) cl14 dX11_insertByDistance_45 ly_32 16 (by decide) t_579 rfl ?_
      refine z_iload (M := M_X11_insertByDistance) dX11_insertByDistance_48 rfl ?_
      refine z_iconst (M := M_X11_insertByDistance) dX11_insertByDistance_50 ?_
      refine z_isub (M := M_X11_insertByDistance) dX11_insertByDistance_51 ?_
      obtain ⟨x_26, x_26_e, hi_27, H⟩ := rd_e H
      refine z_iald (M := M_X11_insertByDistance) dX11_insertByDistance_52 ly_275 rfl rfl rfl hi_27 x_26_e ?_
      obtain ⟨σ_28, σ_28_e, hi_29, H⟩ := wa_e H
      refine z_iast (M := M_X11_insertByDistance) dX11_insertByDistance_53 ly_275 rfl rfl rfl hi_29 σ_28_e ?_
      refine z_iinc (M := M_X11_insertByDistance) (lv' := [some (vr 32), some (vi boxes_0), some (vi slot_0), some (vl distance_0), none, some (vi (at_1 + (-1)))]) dX11_insertByDistance_54 rfl (Nat.le_of_ble_eq_true rfl) rfl rfl ?_
      refine z_goto (M := M_X11_insertByDistance) (tgt := 3) dX11_insertByDistance_57 (by decide) ?_
      exact K_8 _ (Option.some.inj H).symm
    · refine z_lif_le_t (M := M_X11_insertByDistance) (tgt := 60) dX11_insertByDistance_19 (by decide) rfl rfl (Int.not_lt.mp h_21) ?_
      exact J_39 _ _ (K_9 _ (Option.some.inj H).symm).symm
  · refine z_if_le_t (M := M_X11_insertByDistance) (tgt := 60) dX11_insertByDistance_5 (by decide) rfl (Int.not_lt.mp h_18) ?_
    exact J_39 _ _ (K_9 _ (Option.some.inj H).symm).symm
theorem c_X11_nearest (hl : l.stackTraces = false) {σ : SG} {x_0 : Int} {y_0 : Int} {n_0 : Int} {r : Int ⊕ Nat} {σ' : SG}  (H : fQ_nearest σ x_0 y_0 n_0 = some (r, σ')) : en_S l E M_X11_nearest 6 1 6 [vr 32, vi x_0, vi y_0, vi n_0] σ (pT (riT r) σ') := by
  unfold fQ_nearest at H
  refine z_mk (lv := [some (vr 32), some (vi x_0), some (vi y_0), some (vi n_0), none, none]) m_X11_nearest rfl hl (Nat.le_of_ble_eq_true rfl) rfl ?_
  rcases if_e H with ⟨h_37, H⟩ | ⟨h_37, H⟩
  · have J_38 : YY l E M_X11_nearest 6 1 6 (pT (riT r) σ') 31 [some (vr 32), some (vi x_0), some (vi y_0), some (vi n_0), none, none] [] σ 0 0 := by
      cases H
      exact z_throw (M := M_X11_nearest) (names := en_nm) rfl dX11_nearest_31 dX11_nearest_34 dX11_nearest_35 dX11_nearest_38 (by decide +kernel) en_nm_ok (Or.inl t_721) (Or.inl t_19) at_X11_IllegalArgumentException_118 (Nat.le_of_ble_eq_true rfl) (Nat.le_of_ble_eq_true rfl) (Nat.le_of_ble_eq_true rfl) (Nat.le_of_ble_eq_true rfl) ⟨rfl, rfl⟩
    refine z_iload_n (M := M_X11_nearest) dX11_nearest_0 rfl ?_
    refine z_iconst (M := M_X11_nearest) dX11_nearest_1 ?_
    by_cases h_40 : (w32 n_0) < 1
    · refine z_icmp_lt_t (M := M_X11_nearest) (tgt := 31) dX11_nearest_2 (by decide) rfl (by decide +kernel) h_40 ?_
      exact J_38
    · refine z_icmp_lt_f (M := M_X11_nearest) (tgt := 31) dX11_nearest_2 (by decide) rfl (by decide +kernel) (Int.not_lt.mp h_40) ?_
      refine z_iload_n (M := M_X11_nearest) dX11_nearest_5 rfl ?_
      refine z_bipush (M := M_X11_nearest) dX11_nearest_6 (by decide +kernel) ?_
      by_cases h_41 : 32 < (w32 n_0)
      · refine z_icmp_gt_t (M := M_X11_nearest) (tgt := 31) dX11_nearest_8 (by decide) rfl (by decide +kernel) h_41 ?_
        exact J_38
      · refine z_icmp_gt_f (M := M_X11_nearest) (tgt := 31) dX11_nearest_8 (by decide) rfl (by decide +kernel) (Int.not_lt.mp h_41) ?_
        refine z_iload_n (M := M_X11_nearest) dX11_nearest_11 rfl ?_
        refine z_ldcw (M := M_X11_nearest) (n := 1000000000) dX11_nearest_12 t_2191 (by decide +kernel) ?_
        refine z_callS (M := M_X11_nearest) (M' := M_X11_isBeyond) (as := [vi x_0, vi 1000000000]) (rest := []) rfl rfl dX11_nearest_15 m_X11_isBeyond t_2073 t_1386 (c_X11_isBeyond hl  rfl) rfl rfl (Nat.le_of_ble_eq_true rfl) (Nat.le_of_ble_eq_true rfl) (Nat.le_of_ble_eq_true rfl) (Nat.le_of_ble_eq_true rfl) ?_
        refine z_st (st' := [zv (fQ_isBeyond x_0 1000000000)]) rfl ?_
        by_cases h_42 : (fQ_isBeyond x_0 1000000000) = true
        · refine z_zne_t (M := M_X11_nearest) (tgt := 31) dX11_nearest_18 (by decide) h_42 ?_
          exact J_38
        · refine z_zne_f (M := M_X11_nearest) (tgt := 31) dX11_nearest_18 (by decide) h_42 ?_
          refine z_iload_n (M := M_X11_nearest) dX11_nearest_21 rfl ?_
          refine z_ldcw (M := M_X11_nearest) (n := 1000000000) dX11_nearest_22 t_2191 (by decide +kernel) ?_
          refine z_callS (M := M_X11_nearest) (M' := M_X11_isBeyond) (as := [vi y_0, vi 1000000000]) (rest := []) rfl rfl dX11_nearest_25 m_X11_isBeyond t_2073 t_1386 (c_X11_isBeyond hl  rfl) rfl rfl (Nat.le_of_ble_eq_true rfl) (Nat.le_of_ble_eq_true rfl) (Nat.le_of_ble_eq_true rfl) (Nat.le_of_ble_eq_true rfl) ?_
          refine z_st (st' := [zv (fQ_isBeyond y_0 1000000000)]) rfl ?_
          by_cases h_43 : (fQ_isBeyond y_0 1000000000) = true
          · refine z_zeq_f (M := M_X11_nearest) (tgt := 39) dX11_nearest_28 (by decide) h_43 ?_
            exact J_38
          · refine z_zeq_t (M := M_X11_nearest) (tgt := 39) dX11_nearest_28 (by decide) h_43 ?_
            exact absurd h_37 (fun q => q.elim (fun q => q.elim (fun q => q.elim h_40 h_41) h_42) h_43)
  · have J_39 : YY l E M_X11_nearest 6 1 6 (pT (riT r) σ') 39 [some (vr 32), some (vi x_0), some (vi y_0), some (vi n_0), none, none] [] σ 0 0 := by
      refine z_iconst (M := M_X11_nearest) dX11_nearest_39 ?_
      refine z_istore (M := M_X11_nearest) (lv' := [some (vr 32), some (vi x_0), some (vi y_0), some (vi n_0), some (vi 0), none]) dX11_nearest_40 (Nat.le_of_ble_eq_true rfl) rfl rfl ?_
      refine z_iconst (M := M_X11_nearest) dX11_nearest_42 ?_
      refine z_istore (M := M_X11_nearest) (lv' := [some (vr 32), some (vi x_0), some (vi y_0), some (vi n_0), some (vi 0), some (vi 0)]) dX11_nearest_43 (Nat.le_of_ble_eq_true rfl) rfl rfl ?_
      obtain ⟨rl_7, hw_4, hk_5⟩ := bd_e H
      have J_36 : ∀ boxes_32 i_33 σ_34, rl_7 = (boxes_32, i_33, σ_34) → YY l E M_X11_nearest 6 1 6 (pT (riT r) σ') 92 [some (vr 32), some (vi x_0), some (vi y_0), some (vi n_0), some (vi boxes_32), some (vi i_33)] [] σ_34 0 0 := by
        intro boxes_32 i_33 σ_34 e
        have H := hk_5
        rw [e] at H
        refine z_aload_n (M := M_X11_nearest) dX11_nearest_92 rfl ?_
        refine z_iload_n (M := M_X11_nearest) dX11_nearest_93 rfl ?_
        refine z_iload (M := M_X11_nearest) dX11_nearest_94 rfl ?_
        refine z_mmin (M := M_X11_nearest) dX11_nearest_96 t_625 t_626 t_20 t_627 (Nat.le_of_ble_eq_true rfl) (Nat.le_of_ble_eq_true rfl) (Nat.le_of_ble_eq_true rfl) (Nat.le_of_ble_eq_true rfl) ?_
        obtain ⟨σ_35, σ_35_e, H⟩ := wf_e H
        refine z_putI (M := M_X11_nearest) (ci := 14) (C := RX11) (T := TX11) (Nf := 19) (ty := tyX11) cl14 dX11_nearest_99 ly_32 18 (by decide) t_581 rfl rfl rfl rfl σ_35_e ?_
        refine z_aload_n (M := M_X11_nearest) dX11_nearest_102 rfl ?_
        refine z_getI (M := M_X11_nearest) (ci := 14) (C := RX11) (T := TX11) (Nf := 19) (ty := tyX11) cl14 dX11_nearest_103 ly_32 18 (by decide) t_581 rfl rfl ?_
        cases H
        exact z_iret (M := M_X11_nearest) dX11_nearest_106 rfl (Nat.le_of_ble_eq_true rfl) (Nat.le_of_ble_eq_true rfl) ⟨rfl, rfl⟩
      refine whl_go hw_4 (fun (boxes_1, i_2, σ_3) => YY l E M_X11_nearest 6 1 6 (pT (riT r) σ') 45 [some (vr 32), some (vi x_0), some (vi y_0), some (vi n_0), some (vi boxes_1), some (vi i_2)] [] σ_3 0 0) ?_
      rintro ⟨boxes_1, i_2, σ_3⟩ o_8 H K_9 K_10
      refine z_iload (M := M_X11_nearest) dX11_nearest_45 rfl ?_
      refine z_bipush (M := M_X11_nearest) dX11_nearest_47 (by decide +kernel) ?_
      rcases if_e H with ⟨h_11, H⟩ | ⟨h_11, H⟩
      · refine z_icmp_ge_f (M := M_X11_nearest) (tgt := 92) dX11_nearest_49 (by decide) rfl (by decide +kernel) h_11 ?_
        obtain ⟨v_15, he_12, hk_13⟩ := bd_e H
        have J_30 : ∀ boxes_27 σ_28, v_15 = (boxes_27, σ_28) → YY l E M_X11_nearest 6 1 6 (pT (riT r) σ') 86 [some (vr 32), some (vi x_0), some (vi y_0), some (vi n_0), some (vi boxes_27), some (vi i_2)] [] σ_28 0 0 := by
          intro boxes_27 σ_28 e
          have H := hk_13
          rw [e] at H
          refine z_iinc (M := M_X11_nearest) (lv' := [some (vr 32), some (vi x_0), some (vi y_0), some (vi n_0), some (vi boxes_27), some (vi (i_2 + 1))]) dX11_nearest_86 rfl (Nat.le_of_ble_eq_true rfl) rfl rfl ?_
          refine z_goto (M := M_X11_nearest) (tgt := 45) dX11_nearest_89 (by decide) ?_
          exact K_9 _ (Option.some.inj H).symm
        have H := he_12
        refine z_aload_n (M := M_X11_nearest) dX11_nearest_52 rfl ?_
        refine z_getR (M := M_X11_nearest) (ci := 14) (C := RX11) (T := TX11) (Nf := 19) (ty := tyX11) cl14 dX11_nearest_53 ly_32 0 (by decide) t_563 rfl ?_
        refine z_iload (M := M_X11_nearest) dX11_nearest_56 rfl ?_
        obtain ⟨hi_16, H⟩ := ck_e H
        refine z_aald (M := M_X11_nearest) dX11_nearest_58 ly_33 rfl rfl hi_16 rfl ?_
        refine z_aload_n (M := M_X11_nearest) dX11_nearest_59 rfl ?_
        refine z_getR (M := M_X11_nearest) (ci := 14) (C := RX11) (T := TX11) (Nf := 19) (ty := tyX11) cl14 dX11_nearest_60 ly_32 15 (by decide) t_578 rfl ?_
        obtain ⟨⟨x_19, σ_18⟩, hc_17, H⟩ := bd_e H
        refine z_callV (M := M_X11_nearest) (M' := M_X6_putBox) (as := [vr 274]) (rest := []) rfl rfl dX11_nearest_63 m_X6_putBox t_2236 t_2237 t_2238 (c_X6_putBox hl (sl_S hi_16) hc_17) rfl rfl (ly_S (sl_S hi_16)) rfl (Nat.le_of_ble_eq_true rfl) (Nat.le_of_ble_eq_true rfl) (Nat.le_of_ble_eq_true rfl) (Nat.le_of_ble_eq_true rfl) ?_
        refine z_st (st' := [zv x_19]) rfl ?_
        rcases if_e H with ⟨h_20, H⟩ | ⟨h_20, H⟩
        · refine z_zeq_f (M := M_X11_nearest) (tgt := 86) dX11_nearest_66 (by decide) h_20 ?_
          refine z_aload_n (M := M_X11_nearest) dX11_nearest_69 rfl ?_
          refine z_iload (M := M_X11_nearest) dX11_nearest_70 rfl ?_
          refine z_iload (M := M_X11_nearest) dX11_nearest_72 rfl ?_
          refine z_aload_n (M := M_X11_nearest) dX11_nearest_74 rfl ?_
          refine z_iload_n (M := M_X11_nearest) dX11_nearest_75 rfl ?_
          refine z_iload_n (M := M_X11_nearest) dX11_nearest_76 rfl ?_
          obtain ⟨x_22, hc_21, H⟩ := bd_e H
          refine z_callV (M := M_X11_nearest) (M' := M_X11_distanceFromBox) (as := [vi x_0, vi y_0]) (rest := [vi i_2, vi boxes_1, vr 32]) rfl rfl dX11_nearest_77 m_X11_distanceFromBox t_2261 t_2263 s_145 (c_X11_distanceFromBox hl  hc_21) rfl rfl ly_32 rfl (Nat.le_of_ble_eq_true rfl) (Nat.le_of_ble_eq_true rfl) (Nat.le_of_ble_eq_true rfl) (Nat.le_of_ble_eq_true rfl) ?_
          refine z_st (st' := [vl x_22, vi i_2, vi boxes_1, vr 32]) rfl ?_
          obtain ⟨σ_24, hc_23, H⟩ := bd_e H
          refine z_callV (M := M_X11_nearest) (M' := M_X11_insertByDistance) (as := [vi boxes_1, vi i_2, vl x_22]) (rest := []) rfl rfl dX11_nearest_80 m_X11_insertByDistance t_2266 t_2268 s_146 (c_X11_insertByDistance hl  hc_23) rfl rfl ly_32 rfl (Nat.le_of_ble_eq_true rfl) (Nat.le_of_ble_eq_true rfl) (Nat.le_of_ble_eq_true rfl) (Nat.le_of_ble_eq_true rfl) ?_
          refine z_st (st' := []) rfl ?_
          refine z_iinc (M := M_X11_nearest) (lv' := [some (vr 32), some (vi x_0), some (vi y_0), some (vi n_0), some (vi (boxes_1 + 1)), some (vi i_2)]) dX11_nearest_83 rfl (Nat.le_of_ble_eq_true rfl) rfl rfl ?_
          exact J_30 _ _ (Option.some.inj H).symm
        · refine z_zeq_t (M := M_X11_nearest) (tgt := 86) dX11_nearest_66 (by decide) h_20 ?_
          exact J_30 _ _ (Option.some.inj H).symm
      · refine z_icmp_ge_t (M := M_X11_nearest) (tgt := 92) dX11_nearest_49 (by decide) rfl (by decide +kernel) (Int.not_lt.mp h_11) ?_
        exact J_36 _ _ _ (K_10 _ (Option.some.inj H).symm).symm
    refine z_iload_n (M := M_X11_nearest) dX11_nearest_0 rfl ?_
    refine z_iconst (M := M_X11_nearest) dX11_nearest_1 ?_
    by_cases h_44 : (w32 n_0) < 1
    · refine z_icmp_lt_t (M := M_X11_nearest) (tgt := 31) dX11_nearest_2 (by decide) rfl (by decide +kernel) h_44 ?_
      exact absurd (Or.inl (Or.inl (Or.inl h_44))) h_37
    · refine z_icmp_lt_f (M := M_X11_nearest) (tgt := 31) dX11_nearest_2 (by decide) rfl (by decide +kernel) (Int.not_lt.mp h_44) ?_
      refine z_iload_n (M := M_X11_nearest) dX11_nearest_5 rfl ?_
      refine z_bipush (M := M_X11_nearest) dX11_nearest_6 (by decide +kernel) ?_
      by_cases h_45 : 32 < (w32 n_0)
      · refine z_icmp_gt_t (M := M_X11_nearest) (tgt := 31) dX11_nearest_8 (by decide) rfl (by decide +kernel) h_45 ?_
        exact absurd (Or.inl (Or.inl (Or.inr h_45))) h_37
      · refine z_icmp_gt_f (M := M_X11_nearest) (tgt := 31) dX11_nearest_8 (by decide) rfl (by decide +kernel) (Int.not_lt.mp h_45) ?_
        refine z_iload_n (M := M_X11_nearest) dX11_nearest_11 rfl ?_
        refine z_ldcw (M := M_X11_nearest) (n := 1000000000) dX11_nearest_12 t_2191 (by decide +kernel) ?_
        refine z_callS (M := M_X11_nearest) (M' := M_X11_isBeyond) (as := [vi x_0, vi 1000000000]) (rest := []) rfl rfl dX11_nearest_15 m_X11_isBeyond t_2073 t_1386 (c_X11_isBeyond hl  rfl) rfl rfl (Nat.le_of_ble_eq_true rfl) (Nat.le_of_ble_eq_true rfl) (Nat.le_of_ble_eq_true rfl) (Nat.le_of_ble_eq_true rfl) ?_
        refine z_st (st' := [zv (fQ_isBeyond x_0 1000000000)]) rfl ?_
        by_cases h_46 : (fQ_isBeyond x_0 1000000000) = true
        · refine z_zne_t (M := M_X11_nearest) (tgt := 31) dX11_nearest_18 (by decide) h_46 ?_
          exact absurd (Or.inl (Or.inr h_46)) h_37
        · refine z_zne_f (M := M_X11_nearest) (tgt := 31) dX11_nearest_18 (by decide) h_46 ?_
          refine z_iload_n (M := M_X11_nearest) dX11_nearest_21 rfl ?_
          refine z_ldcw (M := M_X11_nearest) (n := 1000000000) dX11_nearest_22 t_2191 (by decide +kernel) ?_
          refine z_callS (M := M_X11_nearest) (M' := M_X11_isBeyond) (as := [vi y_0, vi 1000000000]) (rest := []) rfl rfl dX11_nearest_25 m_X11_isBeyond t_2073 t_1386 (c_X11_isBeyond hl  rfl) rfl rfl (Nat.le_of_ble_eq_true rfl) (Nat.le_of_ble_eq_true rfl) (Nat.le_of_ble_eq_true rfl) (Nat.le_of_ble_eq_true rfl) ?_
          refine z_st (st' := [zv (fQ_isBeyond y_0 1000000000)]) rfl ?_
          by_cases h_47 : (fQ_isBeyond y_0 1000000000) = true
          · refine z_zeq_f (M := M_X11_nearest) (tgt := 39) dX11_nearest_28 (by decide) h_47 ?_
            exact absurd (Or.inr h_47) h_37
          · refine z_zeq_t (M := M_X11_nearest) (tgt := 39) dX11_nearest_28 (by decide) h_47 ?_
            exact J_39
theorem c_X11_found (hl : l.stackTraces = false) {σ : SG} {k_0 : Int} {r : Int ⊕ Nat} {σ' : SG}  (H : fQ_found σ k_0 = some (r, σ')) : en_S l E M_X11_found 6 1 6 [vr 32, vi k_0] σ (pT (riT r) σ') := by
  unfold fQ_found at H
  refine z_mk (lv := [some (vr 32), some (vi k_0)]) m_X11_found rfl hl (Nat.le_of_ble_eq_true rfl) rfl ?_
  rcases if_e H with ⟨h_3, H⟩ | ⟨h_3, H⟩
  · have J_4 : YY l E M_X11_found 6 1 6 (pT (riT r) σ') 12 [some (vr 32), some (vi k_0)] [] σ 0 0 := by
      cases H
      exact z_throw (M := M_X11_found) (names := en_nm) rfl dX11_found_12 dX11_found_15 dX11_found_16 dX11_found_19 (by decide +kernel) en_nm_ok (Or.inl t_748) (Or.inl t_22) at_X11_IndexOutOfBoundsException_139 (Nat.le_of_ble_eq_true rfl) (Nat.le_of_ble_eq_true rfl) (Nat.le_of_ble_eq_true rfl) (Nat.le_of_ble_eq_true rfl) ⟨rfl, rfl⟩
    refine z_iload_n (M := M_X11_found) dX11_found_0 rfl ?_
    by_cases h_6 : (w32 k_0) < 0
    · refine z_if_lt_t (M := M_X11_found) (tgt := 12) dX11_found_1 (by decide) rfl h_6 ?_
      exact J_4
    · refine z_if_lt_f (M := M_X11_found) (tgt := 12) dX11_found_1 (by decide) rfl (Int.not_lt.mp h_6) ?_
      refine z_iload_n (M := M_X11_found) dX11_found_4 rfl ?_
      refine z_aload_n (M := M_X11_found) dX11_found_5 rfl ?_
      refine z_getI (M := M_X11_found) (ci := 14) (C := RX11) (T := TX11) (Nf := 19) (ty := tyX11) cl14 dX11_found_6 ly_32 18 (by decide) t_581 rfl rfl ?_
      by_cases h_7 : (w32 (σ kQ_foundCount 0)) ≤ (w32 k_0)
      · refine z_icmp_lt_f (M := M_X11_found) (tgt := 20) dX11_found_9 (by decide) rfl rfl h_7 ?_
        exact J_4
      · refine z_icmp_lt_t (M := M_X11_found) (tgt := 20) dX11_found_9 (by decide) rfl rfl (Int.not_le.mp h_7) ?_
        exact absurd h_3 (fun q => q.elim h_6 h_7)
  · have J_5 : YY l E M_X11_found 6 1 6 (pT (riT r) σ') 20 [some (vr 32), some (vi k_0)] [] σ 0 0 := by
      refine z_aload_n (M := M_X11_found) dX11_found_20 rfl ?_
      refine z_getR (M := M_X11_found) (ci := 14) (C := RX11) (T := TX11) (Nf := 19) (ty := tyX11) cl14 dX11_found_21 ly_32 16 (by decide) t_579 rfl ?_
      refine z_iload_n (M := M_X11_found) dX11_found_24 rfl ?_
      obtain ⟨x_1, x_1_e, hi_2, H⟩ := rd_e H
      refine z_iald (M := M_X11_found) dX11_found_25 ly_275 rfl rfl rfl hi_2 x_1_e ?_
      cases H
      exact z_iret (M := M_X11_found) dX11_found_26 rfl (Nat.le_of_ble_eq_true rfl) (Nat.le_of_ble_eq_true rfl) ⟨rfl, rfl⟩
    refine z_iload_n (M := M_X11_found) dX11_found_0 rfl ?_
    by_cases h_8 : (w32 k_0) < 0
    · refine z_if_lt_t (M := M_X11_found) (tgt := 12) dX11_found_1 (by decide) rfl h_8 ?_
      exact absurd (Or.inl h_8) h_3
    · refine z_if_lt_f (M := M_X11_found) (tgt := 12) dX11_found_1 (by decide) rfl (Int.not_lt.mp h_8) ?_
      refine z_iload_n (M := M_X11_found) dX11_found_4 rfl ?_
      refine z_aload_n (M := M_X11_found) dX11_found_5 rfl ?_
      refine z_getI (M := M_X11_found) (ci := 14) (C := RX11) (T := TX11) (Nf := 19) (ty := tyX11) cl14 dX11_found_6 ly_32 18 (by decide) t_581 rfl rfl ?_
      by_cases h_9 : (w32 (σ kQ_foundCount 0)) ≤ (w32 k_0)
      · refine z_icmp_lt_f (M := M_X11_found) (tgt := 20) dX11_found_9 (by decide) rfl rfl h_9 ?_
        exact absurd (Or.inr h_9) h_3
      · refine z_icmp_lt_t (M := M_X11_found) (tgt := 20) dX11_found_9 (by decide) rfl rfl (Int.not_le.mp h_9) ?_
        exact J_5
theorem c_X11_isNoNumber (hl : l.stackTraces = false) {σ : SG} {bits_0 : Int} {r : Bool}  (H : fQ_isNoNumber bits_0 = r) : en_S l E M_X11_isNoNumber 1 0 0 [vl bits_0] σ (pS (some (zv r)) σ) := by
  unfold fQ_isNoNumber at H
  refine z_mk (lv := [some (vl bits_0), none]) m_X11_isNoNumber rfl hl (Nat.le_of_ble_eq_true rfl) rfl ?_
  have J_1 : YY l E M_X11_isNoNumber 1 0 0 (pS (some (zv r)) σ) 20 [some (vl bits_0), none] [zv (decide ((w64 (q_lan (q_lus bits_0 52) 2047)) = 2047))] σ 0 0 := by
    cases H
    exact z_zret (M := M_X11_isNoNumber) dX11_isNoNumber_20 rfl (Nat.le_of_ble_eq_true rfl) (Nat.le_of_ble_eq_true rfl) ⟨rfl, rfl⟩
  refine z_lload_n (M := M_X11_isNoNumber) dX11_isNoNumber_0 rfl ?_
  refine z_bipush (M := M_X11_isNoNumber) dX11_isNoNumber_1 (by decide +kernel) ?_
  refine z_lushr (M := M_X11_isNoNumber) dX11_isNoNumber_3 ?_
  refine z_ldc2 (M := M_X11_isNoNumber) (n := 2047) dX11_isNoNumber_4 t_2315 (by decide +kernel) ?_
  refine z_land (M := M_X11_isNoNumber) dX11_isNoNumber_7 ?_
  refine z_ldc2 (M := M_X11_isNoNumber) (n := 2047) dX11_isNoNumber_8 t_2315 (by decide +kernel) ?_
  refine z_lcmp (M := M_X11_isNoNumber) dX11_isNoNumber_11 ?_
  by_cases h_2 : (w64 (q_lan (q_lus bits_0 52) 2047)) = 2047
  · refine z_lif_ne_f (M := M_X11_isNoNumber) (tgt := 19) dX11_isNoNumber_12 (by decide) rfl (by decide +kernel) h_2 ?_
    refine z_iconst (M := M_X11_isNoNumber) dX11_isNoNumber_15 ?_
    refine z_goto (M := M_X11_isNoNumber) (tgt := 20) dX11_isNoNumber_16 (by decide) ?_
    exact z_st (by rw [zv_t (p := (w64 (q_lan (q_lus bits_0 52) 2047)) = 2047) h_2]) J_1
  · refine z_lif_ne_t (M := M_X11_isNoNumber) (tgt := 19) dX11_isNoNumber_12 (by decide) rfl (by decide +kernel) h_2 ?_
    refine z_iconst (M := M_X11_isNoNumber) dX11_isNoNumber_19 ?_
    exact z_st (by rw [zv_f (p := (w64 (q_lan (q_lus bits_0 52) 2047)) = 2047) h_2]) J_1
theorem c_X11_isNoSignPoint (hl : l.stackTraces = false) {σ : SG} {i_0 : Int} {r : Bool}  (H : fQ_isNoSignPoint i_0 = r) : en_S l E M_X11_isNoSignPoint 1 0 0 [vi i_0] σ (pS (some (zv r)) σ) := by
  unfold fQ_isNoSignPoint at H
  refine z_mk (lv := [some (vi i_0)]) m_X11_isNoSignPoint rfl hl (Nat.le_of_ble_eq_true rfl) rfl ?_
  have J_1 : YY l E M_X11_isNoSignPoint 1 0 0 (pS (some (zv r)) σ) 15 [some (vi i_0)] [zv (decide (((w32 i_0) < 0) ∨ (32 ≤ (w32 i_0))))] σ 0 0 := by
    cases H
    exact z_zret (M := M_X11_isNoSignPoint) dX11_isNoSignPoint_15 rfl (Nat.le_of_ble_eq_true rfl) (Nat.le_of_ble_eq_true rfl) ⟨rfl, rfl⟩
  refine z_iload_n (M := M_X11_isNoSignPoint) dX11_isNoSignPoint_0 rfl ?_
  by_cases h_2 : (w32 i_0) < 0
  · refine z_if_lt_t (M := M_X11_isNoSignPoint) (tgt := 10) dX11_isNoSignPoint_1 (by decide) rfl h_2 ?_
    refine z_iconst (M := M_X11_isNoSignPoint) dX11_isNoSignPoint_10 ?_
    refine z_goto (M := M_X11_isNoSignPoint) (tgt := 15) dX11_isNoSignPoint_11 (by decide) ?_
    exact z_st (by rw [zv_t (p := ((w32 i_0) < 0) ∨ (32 ≤ (w32 i_0))) (Or.inl h_2)]) J_1
  · refine z_if_lt_f (M := M_X11_isNoSignPoint) (tgt := 10) dX11_isNoSignPoint_1 (by decide) rfl (Int.not_lt.mp h_2) ?_
    refine z_iload_n (M := M_X11_isNoSignPoint) dX11_isNoSignPoint_4 rfl ?_
    refine z_bipush (M := M_X11_isNoSignPoint) dX11_isNoSignPoint_5 (by decide +kernel) ?_
    by_cases h_3 : 32 ≤ (w32 i_0)
    · refine z_icmp_lt_f (M := M_X11_isNoSignPoint) (tgt := 14) dX11_isNoSignPoint_7 (by decide) rfl (by decide +kernel) h_3 ?_
      refine z_iconst (M := M_X11_isNoSignPoint) dX11_isNoSignPoint_10 ?_
      refine z_goto (M := M_X11_isNoSignPoint) (tgt := 15) dX11_isNoSignPoint_11 (by decide) ?_
      exact z_st (by rw [zv_t (p := ((w32 i_0) < 0) ∨ (32 ≤ (w32 i_0))) (Or.inr h_3)]) J_1
    · refine z_icmp_lt_t (M := M_X11_isNoSignPoint) (tgt := 14) dX11_isNoSignPoint_7 (by decide) rfl (by decide +kernel) (Int.not_le.mp h_3) ?_
      refine z_iconst (M := M_X11_isNoSignPoint) dX11_isNoSignPoint_14 ?_
      exact z_st (by rw [zv_f (p := ((w32 i_0) < 0) ∨ (32 ≤ (w32 i_0))) (fun q => q.elim h_2 h_3)]) J_1
theorem c_X11_point (hl : l.stackTraces = false) {σ : SG} {i_0 : Int} {x_0 : Int} {y_0 : Int} {r : Unit ⊕ Nat} {σ' : SG}  (H : fQ_point σ i_0 x_0 y_0 = some (r, σ')) : en_S l E M_X11_point 6 1 6 [vr 32, vi i_0, vl x_0, vl y_0] σ (pT (ruT r) σ') := by
  unfold fQ_point at H
  refine z_mk (lv := [some (vr 32), some (vi i_0), some (vl x_0), none, some (vl y_0), none]) m_X11_point rfl hl (Nat.le_of_ble_eq_true rfl) rfl ?_
  refine z_iload_n (M := M_X11_point) dX11_point_0 rfl ?_
  refine z_callS (M := M_X11_point) (M' := M_X11_isNoSignPoint) (as := [vi i_0]) (rest := []) rfl rfl dX11_point_1 m_X11_isNoSignPoint t_2309 t_2310 (c_X11_isNoSignPoint hl  rfl) rfl rfl (Nat.le_of_ble_eq_true rfl) (Nat.le_of_ble_eq_true rfl) (Nat.le_of_ble_eq_true rfl) (Nat.le_of_ble_eq_true rfl) ?_
  refine z_st (st' := [zv (fQ_isNoSignPoint i_0)]) rfl ?_
  rcases if_e H with ⟨h_1, H⟩ | ⟨h_1, H⟩
  · refine z_zeq_f (M := M_X11_point) (tgt := 15) dX11_point_4 (by decide) h_1 ?_
    cases H
    exact z_throw (M := M_X11_point) (names := en_nm) rfl dX11_point_7 dX11_point_10 dX11_point_11 dX11_point_14 (by decide +kernel) en_nm_ok (Or.inl t_748) (Or.inl t_22) at_X11_IndexOutOfBoundsException_139 (Nat.le_of_ble_eq_true rfl) (Nat.le_of_ble_eq_true rfl) (Nat.le_of_ble_eq_true rfl) (Nat.le_of_ble_eq_true rfl) ⟨rfl, rfl⟩
  · refine z_zeq_t (M := M_X11_point) (tgt := 15) dX11_point_4 (by decide) h_1 ?_
    rcases if_e H with ⟨h_6, H⟩ | ⟨h_6, H⟩
    · have J_7 : YY l E M_X11_point 6 1 6 (pT (ruT r) σ') 30 [some (vr 32), some (vi i_0), some (vl x_0), none, some (vl y_0), none] [] σ 0 0 := by
        cases H
        exact z_throw (M := M_X11_point) (names := en_nm) rfl dX11_point_30 dX11_point_33 dX11_point_34 dX11_point_37 (by decide +kernel) en_nm_ok (Or.inl t_721) (Or.inl t_19) at_X11_IllegalArgumentException_118 (Nat.le_of_ble_eq_true rfl) (Nat.le_of_ble_eq_true rfl) (Nat.le_of_ble_eq_true rfl) (Nat.le_of_ble_eq_true rfl) ⟨rfl, rfl⟩
      refine z_lload_n (M := M_X11_point) dX11_point_15 rfl ?_
      refine z_callS (M := M_X11_point) (M' := M_X11_isNoNumber) (as := [vl x_0]) (rest := []) rfl rfl dX11_point_16 m_X11_isNoNumber t_2312 t_2313 (c_X11_isNoNumber hl  rfl) rfl rfl (Nat.le_of_ble_eq_true rfl) (Nat.le_of_ble_eq_true rfl) (Nat.le_of_ble_eq_true rfl) (Nat.le_of_ble_eq_true rfl) ?_
      refine z_st (st' := [zv (fQ_isNoNumber x_0)]) rfl ?_
      by_cases h_9 : (fQ_isNoNumber x_0) = true
      · refine z_zne_t (M := M_X11_point) (tgt := 30) dX11_point_19 (by decide) h_9 ?_
        exact J_7
      · refine z_zne_f (M := M_X11_point) (tgt := 30) dX11_point_19 (by decide) h_9 ?_
        refine z_lload (M := M_X11_point) dX11_point_22 rfl ?_
        refine z_callS (M := M_X11_point) (M' := M_X11_isNoNumber) (as := [vl y_0]) (rest := []) rfl rfl dX11_point_24 m_X11_isNoNumber t_2312 t_2313 (c_X11_isNoNumber hl  rfl) rfl rfl (Nat.le_of_ble_eq_true rfl) (Nat.le_of_ble_eq_true rfl) (Nat.le_of_ble_eq_true rfl) (Nat.le_of_ble_eq_true rfl) ?_
        refine z_st (st' := [zv (fQ_isNoNumber y_0)]) rfl ?_
        by_cases h_10 : (fQ_isNoNumber y_0) = true
        · refine z_zeq_f (M := M_X11_point) (tgt := 38) dX11_point_27 (by decide) h_10 ?_
          exact J_7
        · refine z_zeq_t (M := M_X11_point) (tgt := 38) dX11_point_27 (by decide) h_10 ?_
          exact absurd h_6 (fun q => q.elim h_9 h_10)
    · have J_8 : YY l E M_X11_point 6 1 6 (pT (ruT r) σ') 38 [some (vr 32), some (vi i_0), some (vl x_0), none, some (vl y_0), none] [] σ 0 0 := by
        refine z_aload_n (M := M_X11_point) dX11_point_38 rfl ?_
        refine z_getR (M := M_X11_point) (ci := 14) (C := RX11) (T := TX11) (Nf := 19) (ty := tyX11) cl14 dX11_point_39 ly_32 14 (by decide) t_577 rfl ?_
        refine z_getR (M := M_X11_point) (ci := 10) (C := RX7) (T := TX7) (Nf := 5) (ty := tyX7) cl10 dX11_point_42 ly_252 0 (by decide) t_546 rfl ?_
        refine z_iload_n (M := M_X11_point) dX11_point_45 rfl ?_
        refine z_lload_n (M := M_X11_point) dX11_point_46 rfl ?_
        obtain ⟨σ_2, σ_2_e, hi_3, H⟩ := wa_e H
        refine z_last (M := M_X11_point) dX11_point_47 ly_253 rfl rfl rfl hi_3 σ_2_e ?_
        refine z_aload_n (M := M_X11_point) dX11_point_48 rfl ?_
        refine z_getR (M := M_X11_point) (ci := 14) (C := RX11) (T := TX11) (Nf := 19) (ty := tyX11) cl14 dX11_point_49 ly_32 14 (by decide) t_577 rfl ?_
        refine z_getR (M := M_X11_point) (ci := 10) (C := RX7) (T := TX7) (Nf := 5) (ty := tyX7) cl10 dX11_point_52 ly_252 1 (by decide) t_548 rfl ?_
        refine z_iload_n (M := M_X11_point) dX11_point_55 rfl ?_
        refine z_lload (M := M_X11_point) dX11_point_56 rfl ?_
        obtain ⟨σ_4, σ_4_e, hi_5, H⟩ := wa_e H
        refine z_last (M := M_X11_point) dX11_point_58 ly_254 rfl rfl rfl hi_5 σ_4_e ?_
        cases H
        exact z_vret (M := M_X11_point) dX11_point_59 rfl (Nat.le_of_ble_eq_true rfl) (Nat.le_of_ble_eq_true rfl) ⟨rfl, rfl⟩
      refine z_lload_n (M := M_X11_point) dX11_point_15 rfl ?_
      refine z_callS (M := M_X11_point) (M' := M_X11_isNoNumber) (as := [vl x_0]) (rest := []) rfl rfl dX11_point_16 m_X11_isNoNumber t_2312 t_2313 (c_X11_isNoNumber hl  rfl) rfl rfl (Nat.le_of_ble_eq_true rfl) (Nat.le_of_ble_eq_true rfl) (Nat.le_of_ble_eq_true rfl) (Nat.le_of_ble_eq_true rfl) ?_
      refine z_st (st' := [zv (fQ_isNoNumber x_0)]) rfl ?_
      by_cases h_11 : (fQ_isNoNumber x_0) = true
      · refine z_zne_t (M := M_X11_point) (tgt := 30) dX11_point_19 (by decide) h_11 ?_
        exact absurd (Or.inl h_11) h_6
      · refine z_zne_f (M := M_X11_point) (tgt := 30) dX11_point_19 (by decide) h_11 ?_
        refine z_lload (M := M_X11_point) dX11_point_22 rfl ?_
        refine z_callS (M := M_X11_point) (M' := M_X11_isNoNumber) (as := [vl y_0]) (rest := []) rfl rfl dX11_point_24 m_X11_isNoNumber t_2312 t_2313 (c_X11_isNoNumber hl  rfl) rfl rfl (Nat.le_of_ble_eq_true rfl) (Nat.le_of_ble_eq_true rfl) (Nat.le_of_ble_eq_true rfl) (Nat.le_of_ble_eq_true rfl) ?_
        refine z_st (st' := [zv (fQ_isNoNumber y_0)]) rfl ?_
        by_cases h_12 : (fQ_isNoNumber y_0) = true
        · refine z_zeq_f (M := M_X11_point) (tgt := 38) dX11_point_27 (by decide) h_12 ?_
          exact absurd (Or.inr h_12) h_6
        · refine z_zeq_t (M := M_X11_point) (tgt := 38) dX11_point_27 (by decide) h_12 ?_
          exact J_8
theorem c_X7_limbAt (hl : l.stackTraces = false) {σ : SG} {register_0 : Int} {i_0 : Int} {r : Int}  (H : fI_limbAt σ register_0 i_0 = some r) : en_S l E M_X7_limbAt 1 0 0 [vr 252, vi register_0, vi i_0] σ (pS (some (vl r)) σ) := by
  unfold fI_limbAt at H
  refine z_mk (lv := [some (vr 252), some (vi register_0), some (vi i_0)]) m_X7_limbAt rfl hl (Nat.le_of_ble_eq_true rfl) rfl ?_
  obtain ⟨v_10, he_11, hk_12⟩ := bd_e H
  have J_13 : ∀ x_9, v_10 = x_9 → YY l E M_X7_limbAt 1 0 0 (pS (some (vl r)) σ) 27 [some (vr 252), some (vi register_0), some (vi i_0)] [vl x_9] σ 0 0 := by
    intro x_9 e
    have H := hk_12
    rw [e] at H
    cases H
    exact z_lret (M := M_X7_limbAt) dX7_limbAt_27 rfl (Nat.le_of_ble_eq_true rfl) (Nat.le_of_ble_eq_true rfl) ⟨rfl, rfl⟩
  have H := he_11
  refine z_iload_n (M := M_X7_limbAt) dX7_limbAt_0 rfl ?_
  refine z_aload_n (M := M_X7_limbAt) dX7_limbAt_1 rfl ?_
  refine z_getR (M := M_X7_limbAt) (ci := 10) (C := RX7) (T := TX7) (Nf := 5) (ty := tyX7) cl10 dX7_limbAt_2 ly_252 3 (by decide) t_550 rfl ?_
  refine z_iload_n (M := M_X7_limbAt) dX7_limbAt_5 rfl ?_
  obtain ⟨x_1, x_1_e, hi_2, H⟩ := rd_e H
  refine z_iald (M := M_X7_limbAt) dX7_limbAt_6 ly_272 rfl rfl rfl hi_2 x_1_e ?_
  rcases if_e H with ⟨h_3, H⟩ | ⟨h_3, H⟩
  · refine z_icmp_ge_f (M := M_X7_limbAt) (tgt := 26) dX7_limbAt_7 (by decide) rfl rfl h_3 ?_
    refine z_aload_n (M := M_X7_limbAt) dX7_limbAt_10 rfl ?_
    refine z_getR (M := M_X7_limbAt) (ci := 10) (C := RX7) (T := TX7) (Nf := 5) (ty := tyX7) cl10 dX7_limbAt_11 ly_252 2 (by decide) t_549 rfl ?_
    refine z_iload_n (M := M_X7_limbAt) dX7_limbAt_14 rfl ?_
    obtain ⟨hi_4, H⟩ := ck_e H
    refine z_gald (M := M_X7_limbAt) dX7_limbAt_15 ly_255 rfl rfl hi_4 (by rw [Nat.one_mul]) ?_
    refine z_iload_n (M := M_X7_limbAt) dX7_limbAt_16 rfl ?_
    obtain ⟨x_5, x_5_e, hi_6, H⟩ := rd_e H
    refine z_iald (M := M_X7_limbAt) dX7_limbAt_17 (ly_B hi_4) rfl rfl rfl hi_6 x_5_e ?_
    refine z_i2l (M := M_X7_limbAt) dX7_limbAt_18 ?_
    refine z_ldc2 (M := M_X7_limbAt) (n := 4294967295) dX7_limbAt_19 t_2338 (by decide +kernel) ?_
    refine z_land (M := M_X7_limbAt) dX7_limbAt_22 ?_
    refine z_goto (M := M_X7_limbAt) (tgt := 27) dX7_limbAt_23 (by decide) ?_
    exact J_13 _ (Option.some.inj H).symm
  · refine z_icmp_ge_t (M := M_X7_limbAt) (tgt := 26) dX7_limbAt_7 (by decide) rfl rfl (Int.not_lt.mp h_3) ?_
    refine z_lconst (M := M_X7_limbAt) (m := 0) dX7_limbAt_26 (by decide +kernel) ?_
    exact J_13 _ (Option.some.inj H).symm
theorem c_X7_addLimbs (hl : l.stackTraces = false) {σ : SG} {to_0 : Int} {one_0 : Int} {two_0 : Int} {factor_0 : Int} {σ' : SG}  (H : fI_addLimbs σ to_0 one_0 two_0 factor_0 = some σ') : en_S l E M_X7_addLimbs 2 0 0 [vr 252, vi to_0, vi one_0, vi two_0, vi factor_0] σ (pS (none) σ') := by
  unfold fI_addLimbs at H
  refine z_mk (lv := [some (vr 252), some (vi to_0), some (vi one_0), some (vi two_0), some (vi factor_0), none, none, none, none, none, none]) m_X7_addLimbs rfl hl (Nat.le_of_ble_eq_true rfl) rfl ?_
  refine z_aload_n (M := M_X7_addLimbs) dX7_addLimbs_0 rfl ?_
  refine z_getR (M := M_X7_addLimbs) (ci := 10) (C := RX7) (T := TX7) (Nf := 5) (ty := tyX7) cl10 dX7_addLimbs_1 ly_252 3 (by decide) t_550 rfl ?_
  refine z_iload_n (M := M_X7_addLimbs) dX7_addLimbs_4 rfl ?_
  obtain ⟨x_1, x_1_e, hi_2, H⟩ := rd_e H
  refine z_iald (M := M_X7_addLimbs) dX7_addLimbs_5 ly_272 rfl rfl rfl hi_2 x_1_e ?_
  refine z_aload_n (M := M_X7_addLimbs) dX7_addLimbs_6 rfl ?_
  refine z_getR (M := M_X7_addLimbs) (ci := 10) (C := RX7) (T := TX7) (Nf := 5) (ty := tyX7) cl10 dX7_addLimbs_7 ly_252 3 (by decide) t_550 rfl ?_
  refine z_iload_n (M := M_X7_addLimbs) dX7_addLimbs_10 rfl ?_
  obtain ⟨x_3, x_3_e, hi_4, H⟩ := rd_e H
  refine z_iald (M := M_X7_addLimbs) dX7_addLimbs_11 ly_272 rfl rfl rfl hi_4 x_3_e ?_
  refine z_mmax (M := M_X7_addLimbs) dX7_addLimbs_12 t_2336 t_1013 t_20 t_1014 (Nat.le_of_ble_eq_true rfl) (Nat.le_of_ble_eq_true rfl) (Nat.le_of_ble_eq_true rfl) (Nat.le_of_ble_eq_true rfl) ?_
  refine z_iconst (M := M_X7_addLimbs) dX7_addLimbs_15 ?_
  refine z_iadd (M := M_X7_addLimbs) dX7_addLimbs_16 ?_
  refine z_sipush (M := M_X7_addLimbs) dX7_addLimbs_17 (by decide +kernel) ?_
  refine z_mmin (M := M_X7_addLimbs) dX7_addLimbs_20 t_2351 t_626 t_20 t_627 (Nat.le_of_ble_eq_true rfl) (Nat.le_of_ble_eq_true rfl) (Nat.le_of_ble_eq_true rfl) (Nat.le_of_ble_eq_true rfl) ?_
  refine z_istore (M := M_X7_addLimbs) (lv' := [some (vr 252), some (vi to_0), some (vi one_0), some (vi two_0), some (vi factor_0), some (vi (q_mni ((q_mxi x_1 x_3) + 1) 280)), none, none, none, none, none]) dX7_addLimbs_23 (Nat.le_of_ble_eq_true rfl) rfl rfl ?_
  refine z_lconst (M := M_X7_addLimbs) (m := 0) dX7_addLimbs_25 (by decide +kernel) ?_
  refine z_lstore (M := M_X7_addLimbs) (lv' := [some (vr 252), some (vi to_0), some (vi one_0), some (vi two_0), some (vi factor_0), some (vi (q_mni ((q_mxi x_1 x_3) + 1) 280)), some (vl 0), none, none, none, none]) dX7_addLimbs_26 (Nat.le_of_ble_eq_true rfl) rfl rfl ?_
  refine z_iconst (M := M_X7_addLimbs) dX7_addLimbs_28 ?_
  refine z_istore (M := M_X7_addLimbs) (lv' := [some (vr 252), some (vi to_0), some (vi one_0), some (vi two_0), some (vi factor_0), some (vi (q_mni ((q_mxi x_1 x_3) + 1) 280)), some (vl 0), none, some (vi 0), none, none]) dX7_addLimbs_29 (Nat.le_of_ble_eq_true rfl) rfl rfl ?_
  obtain ⟨rl_11, hw_8, hk_9⟩ := bd_e H
  have J_30 : ∀ carry_25 i_26 σ_27, rl_11 = (carry_25, i_26, σ_27) → YY l E M_X7_addLimbs 2 0 0 (pS (none) σ') 87 [some (vr 252), some (vi to_0), some (vi one_0), some (vi two_0), some (vi factor_0), some (vi (q_mni ((q_mxi x_1 x_3) + 1) 280)), some (vl carry_25), none, some (vi i_26), none, none] [] σ_27 0 0 := by
    intro carry_25 i_26 σ_27 e
    have H := hk_9
    rw [e] at H
    refine z_aload_n (M := M_X7_addLimbs) dX7_addLimbs_87 rfl ?_
    refine z_getR (M := M_X7_addLimbs) (ci := 10) (C := RX7) (T := TX7) (Nf := 5) (ty := tyX7) cl10 dX7_addLimbs_88 ly_252 3 (by decide) t_550 rfl ?_
    refine z_iload_n (M := M_X7_addLimbs) dX7_addLimbs_91 rfl ?_
    refine z_iload (M := M_X7_addLimbs) dX7_addLimbs_92 rfl ?_
    obtain ⟨σ_28, σ_28_e, hi_29, H⟩ := wa_e H
    refine z_iast (M := M_X7_addLimbs) dX7_addLimbs_94 ly_272 rfl rfl rfl hi_29 σ_28_e ?_
    cases H
    exact z_vret (M := M_X7_addLimbs) dX7_addLimbs_95 rfl (Nat.le_of_ble_eq_true rfl) (Nat.le_of_ble_eq_true rfl) ⟨rfl, rfl⟩
  refine whl_go hw_8 (fun (carry_5, i_6, σ_7) => YY l E M_X7_addLimbs 2 0 0 (pS (none) σ') 31 [some (vr 252), some (vi to_0), some (vi one_0), some (vi two_0), some (vi factor_0), some (vi (q_mni ((q_mxi x_1 x_3) + 1) 280)), some (vl carry_5), none, some (vi i_6), none, none] [] σ_7 0 0) ?_
  rintro ⟨carry_5, i_6, σ_7⟩ o_12 H K_13 K_14
  refine z_iload (M := M_X7_addLimbs) dX7_addLimbs_31 rfl ?_
  refine z_iload (M := M_X7_addLimbs) dX7_addLimbs_33 rfl ?_
  rcases if_e H with ⟨h_15, H⟩ | ⟨h_15, H⟩
  · refine z_icmp_ge_f (M := M_X7_addLimbs) (tgt := 87) dX7_addLimbs_35 (by decide) rfl rfl h_15 ?_
    refine z_aload_n (M := M_X7_addLimbs) dX7_addLimbs_38 rfl ?_
    refine z_iload_n (M := M_X7_addLimbs) dX7_addLimbs_39 rfl ?_
    refine z_iload (M := M_X7_addLimbs) dX7_addLimbs_40 rfl ?_
    obtain ⟨x_17, hc_16, H⟩ := bd_e H
    refine z_callV (M := M_X7_addLimbs) (M' := M_X7_limbAt) (as := [vi one_0, vi i_6]) (rest := []) rfl rfl dX7_addLimbs_42 m_X7_limbAt t_2352 t_2354 s_153 (c_X7_limbAt hl  hc_16) rfl rfl ly_252 rfl (Nat.le_of_ble_eq_true rfl) (Nat.le_of_ble_eq_true rfl) (Nat.le_of_ble_eq_true rfl) (Nat.le_of_ble_eq_true rfl) ?_
    refine z_st (st' := [vl x_17]) rfl ?_
    refine z_iload (M := M_X7_addLimbs) dX7_addLimbs_45 rfl ?_
    refine z_i2l (M := M_X7_addLimbs) dX7_addLimbs_47 ?_
    refine z_aload_n (M := M_X7_addLimbs) dX7_addLimbs_48 rfl ?_
    refine z_iload_n (M := M_X7_addLimbs) dX7_addLimbs_49 rfl ?_
    refine z_iload (M := M_X7_addLimbs) dX7_addLimbs_50 rfl ?_
    obtain ⟨x_19, hc_18, H⟩ := bd_e H
    refine z_callV (M := M_X7_addLimbs) (M' := M_X7_limbAt) (as := [vi two_0, vi i_6]) (rest := [vl (w32 factor_0), vl x_17]) rfl rfl dX7_addLimbs_52 m_X7_limbAt t_2352 t_2354 s_153 (c_X7_limbAt hl  hc_18) rfl rfl ly_252 rfl (Nat.le_of_ble_eq_true rfl) (Nat.le_of_ble_eq_true rfl) (Nat.le_of_ble_eq_true rfl) (Nat.le_of_ble_eq_true rfl) ?_
    refine z_st (st' := [vl x_19, vl (w32 factor_0), vl x_17]) rfl ?_
    refine z_lmul (M := M_X7_addLimbs) dX7_addLimbs_55 ?_
    refine z_ladd (M := M_X7_addLimbs) dX7_addLimbs_56 ?_
    refine z_lload (M := M_X7_addLimbs) dX7_addLimbs_57 rfl ?_
    refine z_ladd (M := M_X7_addLimbs) dX7_addLimbs_59 ?_
    refine z_lstore (M := M_X7_addLimbs) (lv' := [some (vr 252), some (vi to_0), some (vi one_0), some (vi two_0), some (vi factor_0), some (vi (q_mni ((q_mxi x_1 x_3) + 1) 280)), some (vl carry_5), none, some (vi i_6), some (vl ((x_17 + ((w32 factor_0) * x_19)) + carry_5)), none]) dX7_addLimbs_60 (Nat.le_of_ble_eq_true rfl) rfl rfl ?_
    refine z_aload_n (M := M_X7_addLimbs) dX7_addLimbs_62 rfl ?_
    refine z_getR (M := M_X7_addLimbs) (ci := 10) (C := RX7) (T := TX7) (Nf := 5) (ty := tyX7) cl10 dX7_addLimbs_63 ly_252 2 (by decide) t_549 rfl ?_
    refine z_iload_n (M := M_X7_addLimbs) dX7_addLimbs_66 rfl ?_
    obtain ⟨hi_20, H⟩ := ck_e H
    refine z_gald (M := M_X7_addLimbs) dX7_addLimbs_67 ly_255 rfl rfl hi_20 (by rw [Nat.one_mul]) ?_
    refine z_iload (M := M_X7_addLimbs) dX7_addLimbs_68 rfl ?_
    refine z_lload (M := M_X7_addLimbs) dX7_addLimbs_70 rfl ?_
    refine z_l2i (M := M_X7_addLimbs) dX7_addLimbs_72 ?_
    obtain ⟨σ_21, σ_21_e, hi_22, H⟩ := wa_e H
    refine z_iast (M := M_X7_addLimbs) dX7_addLimbs_73 (ly_B hi_20) rfl rfl rfl hi_22 σ_21_e ?_
    refine z_lload (M := M_X7_addLimbs) dX7_addLimbs_74 rfl ?_
    refine z_bipush (M := M_X7_addLimbs) dX7_addLimbs_76 (by decide +kernel) ?_
    refine z_lshr (M := M_X7_addLimbs) dX7_addLimbs_78 ?_
    refine z_lstore (M := M_X7_addLimbs) (lv' := [some (vr 252), some (vi to_0), some (vi one_0), some (vi two_0), some (vi factor_0), some (vi (q_mni ((q_mxi x_1 x_3) + 1) 280)), some (vl (q_lsr ((x_17 + ((w32 factor_0) * x_19)) + carry_5) 32)), none, some (vi i_6), some (vl ((x_17 + ((w32 factor_0) * x_19)) + carry_5)), none]) dX7_addLimbs_79 (Nat.le_of_ble_eq_true rfl) rfl rfl ?_
    refine z_iinc (M := M_X7_addLimbs) (lv' := [some (vr 252), some (vi to_0), some (vi one_0), some (vi two_0), some (vi factor_0), some (vi (q_mni ((q_mxi x_1 x_3) + 1) 280)), some (vl (q_lsr ((x_17 + ((w32 factor_0) * x_19)) + carry_5) 32)), none, some (vi (i_6 + 1)), some (vl ((x_17 + ((w32 factor_0) * x_19)) + carry_5)), none]) dX7_addLimbs_81 rfl (Nat.le_of_ble_eq_true rfl) rfl rfl ?_
    refine z_goto (M := M_X7_addLimbs) (tgt := 31) dX7_addLimbs_84 (by decide) ?_
    refine z_le (lv' := [some (vr 252), some (vi to_0), some (vi one_0), some (vi two_0), some (vi factor_0), some (vi (q_mni ((q_mxi x_1 x_3) + 1) 280)), some (vl (q_lsr ((x_17 + ((w32 factor_0) * x_19)) + carry_5) 32)), none, some (vi (i_6 + 1)), none, none]) ⟨Or.inr rfl, Or.inr rfl, Or.inr rfl, Or.inr rfl, Or.inr rfl, Or.inr rfl, Or.inr rfl, Or.inl rfl, Or.inr rfl, Or.inl rfl, Or.inl rfl, trivial⟩ ?_
    exact K_13 _ (Option.some.inj H).symm
  · refine z_icmp_ge_t (M := M_X7_addLimbs) (tgt := 87) dX7_addLimbs_35 (by decide) rfl rfl (Int.not_lt.mp h_15) ?_
    exact J_30 _ _ _ (K_14 _ (Option.some.inj H).symm).symm
theorem c_X7_compareLimbs (hl : l.stackTraces = false) {σ : SG} {one_0 : Int} {two_0 : Int} {r : Int}  (H : fI_compareLimbs σ one_0 two_0 = some r) : en_S l E M_X7_compareLimbs 2 0 0 [vr 252, vi one_0, vi two_0] σ (pS (some (vi r)) σ) := by
  unfold fI_compareLimbs at H
  refine z_mk (lv := [some (vr 252), some (vi one_0), some (vi two_0), none]) m_X7_compareLimbs rfl hl (Nat.le_of_ble_eq_true rfl) rfl ?_
  refine z_aload_n (M := M_X7_compareLimbs) dX7_compareLimbs_0 rfl ?_
  refine z_getR (M := M_X7_compareLimbs) (ci := 10) (C := RX7) (T := TX7) (Nf := 5) (ty := tyX7) cl10 dX7_compareLimbs_1 ly_252 3 (by decide) t_550 rfl ?_
  refine z_iload_n (M := M_X7_compareLimbs) dX7_compareLimbs_4 rfl ?_
  obtain ⟨x_1, x_1_e, hi_2, H⟩ := rd_e H
  refine z_iald (M := M_X7_compareLimbs) dX7_compareLimbs_5 ly_272 rfl rfl rfl hi_2 x_1_e ?_
  refine z_aload_n (M := M_X7_compareLimbs) dX7_compareLimbs_6 rfl ?_
  refine z_getR (M := M_X7_compareLimbs) (ci := 10) (C := RX7) (T := TX7) (Nf := 5) (ty := tyX7) cl10 dX7_compareLimbs_7 ly_252 3 (by decide) t_550 rfl ?_
  refine z_iload_n (M := M_X7_compareLimbs) dX7_compareLimbs_10 rfl ?_
  obtain ⟨x_3, x_3_e, hi_4, H⟩ := rd_e H
  refine z_iald (M := M_X7_compareLimbs) dX7_compareLimbs_11 ly_272 rfl rfl rfl hi_4 x_3_e ?_
  refine z_mmax (M := M_X7_compareLimbs) dX7_compareLimbs_12 t_2336 t_1013 t_20 t_1014 (Nat.le_of_ble_eq_true rfl) (Nat.le_of_ble_eq_true rfl) (Nat.le_of_ble_eq_true rfl) (Nat.le_of_ble_eq_true rfl) ?_
  refine z_iconst (M := M_X7_compareLimbs) dX7_compareLimbs_15 ?_
  refine z_isub (M := M_X7_compareLimbs) dX7_compareLimbs_16 ?_
  refine z_istore_n (M := M_X7_compareLimbs) (lv' := [some (vr 252), some (vi one_0), some (vi two_0), some (vi ((q_mxi x_1 x_3) - 1))]) dX7_compareLimbs_17 (Nat.le_of_ble_eq_true rfl) rfl rfl ?_
  obtain ⟨rl_9, hw_6, hk_7, hk_8⟩ := bx_e H
  have J_34 : ∀ i_33, rl_9 = (.inl i_33) → YY l E M_X7_compareLimbs 2 0 0 (pS (some (vi r)) σ) 66 [some (vr 252), some (vi one_0), some (vi two_0), some (vi i_33)] [] σ 0 0 := by
    intro i_33 e
    have H := hk_7 _ e
    refine z_iconst (M := M_X7_compareLimbs) dX7_compareLimbs_66 ?_
    cases H
    exact z_iret (M := M_X7_compareLimbs) dX7_compareLimbs_67 rfl (Nat.le_of_ble_eq_true rfl) (Nat.le_of_ble_eq_true rfl) ⟨rfl, rfl⟩
  refine whl_go hw_6 (fun i_5 => YY l E M_X7_compareLimbs 2 0 0 (pS (some (vi r)) σ) 18 [some (vr 252), some (vi one_0), some (vi two_0), some (vi i_5)] [] σ 0 0) ?_
  rintro i_5 o_10 H K_11 K_12
  refine z_iload_n (M := M_X7_compareLimbs) dX7_compareLimbs_18 rfl ?_
  rcases if_e H with ⟨h_13, H⟩ | ⟨h_13, H⟩
  · refine z_if_lt_f (M := M_X7_compareLimbs) (tgt := 66) dX7_compareLimbs_19 (by decide) rfl h_13 ?_
    refine z_aload_n (M := M_X7_compareLimbs) dX7_compareLimbs_22 rfl ?_
    refine z_iload_n (M := M_X7_compareLimbs) dX7_compareLimbs_23 rfl ?_
    refine z_iload_n (M := M_X7_compareLimbs) dX7_compareLimbs_24 rfl ?_
    obtain ⟨x_15, hc_14, H⟩ := bd_e H
    refine z_callV (M := M_X7_compareLimbs) (M' := M_X7_limbAt) (as := [vi one_0, vi i_5]) (rest := []) rfl rfl dX7_compareLimbs_25 m_X7_limbAt t_2352 t_2354 s_153 (c_X7_limbAt hl  hc_14) rfl rfl ly_252 rfl (Nat.le_of_ble_eq_true rfl) (Nat.le_of_ble_eq_true rfl) (Nat.le_of_ble_eq_true rfl) (Nat.le_of_ble_eq_true rfl) ?_
    refine z_st (st' := [vl x_15]) rfl ?_
    refine z_aload_n (M := M_X7_compareLimbs) dX7_compareLimbs_28 rfl ?_
    refine z_iload_n (M := M_X7_compareLimbs) dX7_compareLimbs_29 rfl ?_
    refine z_iload_n (M := M_X7_compareLimbs) dX7_compareLimbs_30 rfl ?_
    obtain ⟨x_17, hc_16, H⟩ := bd_e H
    refine z_callV (M := M_X7_compareLimbs) (M' := M_X7_limbAt) (as := [vi two_0, vi i_5]) (rest := [vl x_15]) rfl rfl dX7_compareLimbs_31 m_X7_limbAt t_2352 t_2354 s_153 (c_X7_limbAt hl  hc_16) rfl rfl ly_252 rfl (Nat.le_of_ble_eq_true rfl) (Nat.le_of_ble_eq_true rfl) (Nat.le_of_ble_eq_true rfl) (Nat.le_of_ble_eq_true rfl) ?_
    refine z_st (st' := [vl x_17, vl x_15]) rfl ?_
    refine z_lcmp (M := M_X7_compareLimbs) dX7_compareLimbs_34 ?_
    rcases if_e H with ⟨h_18, H⟩ | ⟨h_18, H⟩
    · refine z_lif_eq_f (M := M_X7_compareLimbs) (tgt := 60) dX7_compareLimbs_35 (by decide) rfl rfl h_18 ?_
      obtain ⟨v_27, he_28, hk_29⟩ := bd_e H
      have J_30 : ∀ x_26, v_27 = x_26 → YY l E M_X7_compareLimbs 2 0 0 (pS (some (vi r)) σ) 59 [some (vr 252), some (vi one_0), some (vi two_0), some (vi i_5)] [vi x_26] σ 0 0 := by
        intro x_26 e
        have H := hk_29
        rw [e] at H
        have H := congrArg some (hk_8 _ ((K_12 _ (Option.some.inj H).symm).symm))
        cases H
        exact z_iret (M := M_X7_compareLimbs) dX7_compareLimbs_59 rfl (Nat.le_of_ble_eq_true rfl) (Nat.le_of_ble_eq_true rfl) ⟨rfl, rfl⟩
      have H := he_28
      refine z_aload_n (M := M_X7_compareLimbs) dX7_compareLimbs_38 rfl ?_
      refine z_iload_n (M := M_X7_compareLimbs) dX7_compareLimbs_39 rfl ?_
      refine z_iload_n (M := M_X7_compareLimbs) dX7_compareLimbs_40 rfl ?_
      obtain ⟨x_20, hc_19, H⟩ := bd_e H
      refine z_callV (M := M_X7_compareLimbs) (M' := M_X7_limbAt) (as := [vi one_0, vi i_5]) (rest := []) rfl rfl dX7_compareLimbs_41 m_X7_limbAt t_2352 t_2354 s_153 (c_X7_limbAt hl  hc_19) rfl rfl ly_252 rfl (Nat.le_of_ble_eq_true rfl) (Nat.le_of_ble_eq_true rfl) (Nat.le_of_ble_eq_true rfl) (Nat.le_of_ble_eq_true rfl) ?_
      refine z_st (st' := [vl x_20]) rfl ?_
      refine z_aload_n (M := M_X7_compareLimbs) dX7_compareLimbs_44 rfl ?_
      refine z_iload_n (M := M_X7_compareLimbs) dX7_compareLimbs_45 rfl ?_
      refine z_iload_n (M := M_X7_compareLimbs) dX7_compareLimbs_46 rfl ?_
      obtain ⟨x_22, hc_21, H⟩ := bd_e H
      refine z_callV (M := M_X7_compareLimbs) (M' := M_X7_limbAt) (as := [vi two_0, vi i_5]) (rest := [vl x_20]) rfl rfl dX7_compareLimbs_47 m_X7_limbAt t_2352 t_2354 s_153 (c_X7_limbAt hl  hc_21) rfl rfl ly_252 rfl (Nat.le_of_ble_eq_true rfl) (Nat.le_of_ble_eq_true rfl) (Nat.le_of_ble_eq_true rfl) (Nat.le_of_ble_eq_true rfl) ?_
      refine z_st (st' := [vl x_22, vl x_20]) rfl ?_
      refine z_lcmp (M := M_X7_compareLimbs) dX7_compareLimbs_50 ?_
      rcases if_e H with ⟨h_23, H⟩ | ⟨h_23, H⟩
      · refine z_lif_le_f (M := M_X7_compareLimbs) (tgt := 58) dX7_compareLimbs_51 (by decide) rfl rfl h_23 ?_
        refine z_iconst (M := M_X7_compareLimbs) dX7_compareLimbs_54 ?_
        refine z_goto (M := M_X7_compareLimbs) (tgt := 59) dX7_compareLimbs_55 (by decide) ?_
        exact J_30 _ (Option.some.inj H).symm
      · refine z_lif_le_t (M := M_X7_compareLimbs) (tgt := 58) dX7_compareLimbs_51 (by decide) rfl rfl (Int.not_lt.mp h_23) ?_
        refine z_iconst (M := M_X7_compareLimbs) dX7_compareLimbs_58 ?_
        exact J_30 _ (Option.some.inj H).symm
    · refine z_lif_eq_t (M := M_X7_compareLimbs) (tgt := 60) dX7_compareLimbs_35 (by decide) rfl rfl (Decidable.not_not.mp h_18) ?_
      refine z_iinc (M := M_X7_compareLimbs) (lv' := [some (vr 252), some (vi one_0), some (vi two_0), some (vi (i_5 + (-1)))]) dX7_compareLimbs_60 rfl (Nat.le_of_ble_eq_true rfl) rfl rfl ?_
      refine z_goto (M := M_X7_compareLimbs) (tgt := 18) dX7_compareLimbs_63 (by decide) ?_
      exact K_11 _ (Option.some.inj H).symm
  · refine z_if_lt_t (M := M_X7_compareLimbs) (tgt := 66) dX7_compareLimbs_19 (by decide) rfl (Int.not_le.mp h_13) ?_
    exact J_34 _ (K_12 _ (Option.some.inj H).symm).symm
theorem c_X7_trim (hl : l.stackTraces = false) {σ : SG} {register_0 : Int} {σ' : SG}  (H : fI_trim σ register_0 = some σ') : en_S l E M_X7_trim 1 0 0 [vr 252, vi register_0] σ (pS (none) σ') := by
  unfold fI_trim at H
  refine z_mk (lv := [some (vr 252), some (vi register_0)]) m_X7_trim rfl hl (Nat.le_of_ble_eq_true rfl) rfl ?_
  obtain ⟨rl_5, hw_2, hk_3⟩ := bd_e H
  have J_52 : ∀ σ_38, rl_5 = σ_38 → YY l E M_X7_trim 1 0 0 (pS (none) σ') 40 [some (vr 252), some (vi register_0)] [] σ_38 0 0 := by
    intro σ_38 e
    have H := hk_3
    rw [e] at H
    obtain ⟨v_42, he_39, hk_40⟩ := bd_e H
    have J_51 : ∀ σ_50, v_42 = σ_50 → YY l E M_X7_trim 1 0 0 (pS (none) σ') 56 [some (vr 252), some (vi register_0)] [] σ_50 0 0 := by
      intro σ_50 e
      have H := hk_40
      rw [e] at H
      cases H
      exact z_vret (M := M_X7_trim) dX7_trim_56 rfl (Nat.le_of_ble_eq_true rfl) (Nat.le_of_ble_eq_true rfl) ⟨rfl, rfl⟩
    have H := he_39
    refine z_aload_n (M := M_X7_trim) dX7_trim_40 rfl ?_
    refine z_getR (M := M_X7_trim) (ci := 10) (C := RX7) (T := TX7) (Nf := 5) (ty := tyX7) cl10 dX7_trim_41 ly_252 3 (by decide) t_550 rfl ?_
    refine z_iload_n (M := M_X7_trim) dX7_trim_44 rfl ?_
    obtain ⟨x_43, x_43_e, hi_44, H⟩ := rd_e H
    refine z_iald (M := M_X7_trim) dX7_trim_45 ly_272 rfl rfl rfl hi_44 x_43_e ?_
    rcases if_e H with ⟨h_45, H⟩ | ⟨h_45, H⟩
    · refine z_if_ne_f (M := M_X7_trim) (tgt := 56) dX7_trim_46 (by decide) rfl h_45 ?_
      refine z_aload_n (M := M_X7_trim) dX7_trim_49 rfl ?_
      refine z_getR (M := M_X7_trim) (ci := 10) (C := RX7) (T := TX7) (Nf := 5) (ty := tyX7) cl10 dX7_trim_50 ly_252 4 (by decide) t_551 rfl ?_
      refine z_iload_n (M := M_X7_trim) dX7_trim_53 rfl ?_
      refine z_iconst (M := M_X7_trim) dX7_trim_54 ?_
      obtain ⟨σ_46, σ_46_e, hi_47, H⟩ := wa_e H
      refine z_iast (M := M_X7_trim) dX7_trim_55 ly_273 rfl rfl rfl hi_47 σ_46_e ?_
      exact J_51 _ (Option.some.inj H).symm
    · refine z_if_ne_t (M := M_X7_trim) (tgt := 56) dX7_trim_46 (by decide) rfl h_45 ?_
      exact J_51 _ (Option.some.inj H).symm
  refine whl_go hw_2 (fun σ_1 => YY l E M_X7_trim 1 0 0 (pS (none) σ') 0 [some (vr 252), some (vi register_0)] [] σ_1 0 0) ?_
  rintro σ_1 o_6 H K_7 K_8
  refine z_aload_n (M := M_X7_trim) dX7_trim_0 rfl ?_
  refine z_getR (M := M_X7_trim) (ci := 10) (C := RX7) (T := TX7) (Nf := 5) (ty := tyX7) cl10 dX7_trim_1 ly_252 3 (by decide) t_550 rfl ?_
  refine z_iload_n (M := M_X7_trim) dX7_trim_4 rfl ?_
  obtain ⟨x_22, x_22_e, hi_23, H⟩ := rd_e H
  refine z_iald (M := M_X7_trim) dX7_trim_5 ly_272 rfl rfl rfl hi_23 x_22_e ?_
  rcases if_e H with ⟨h_24, H⟩ | ⟨h_24, H⟩
  · refine z_if_le_f (M := M_X7_trim) (tgt := 40) dX7_trim_6 (by decide) rfl h_24 ?_
    refine z_aload_n (M := M_X7_trim) dX7_trim_9 rfl ?_
    refine z_getR (M := M_X7_trim) (ci := 10) (C := RX7) (T := TX7) (Nf := 5) (ty := tyX7) cl10 dX7_trim_10 ly_252 2 (by decide) t_549 rfl ?_
    refine z_iload_n (M := M_X7_trim) dX7_trim_13 rfl ?_
    obtain ⟨hi_25, H⟩ := ck_e H
    refine z_gald (M := M_X7_trim) dX7_trim_14 ly_255 rfl rfl hi_25 (by rw [Nat.one_mul]) ?_
    refine z_aload_n (M := M_X7_trim) dX7_trim_15 rfl ?_
    refine z_getR (M := M_X7_trim) (ci := 10) (C := RX7) (T := TX7) (Nf := 5) (ty := tyX7) cl10 dX7_trim_16 ly_252 3 (by decide) t_550 rfl ?_
    refine z_iload_n (M := M_X7_trim) dX7_trim_19 rfl ?_
    obtain ⟨x_26, x_26_e, hi_27, H⟩ := rd_e H
    refine z_iald (M := M_X7_trim) dX7_trim_20 ly_272 rfl rfl rfl hi_27 x_26_e ?_
    refine z_iconst (M := M_X7_trim) dX7_trim_21 ?_
    refine z_isub (M := M_X7_trim) dX7_trim_22 ?_
    obtain ⟨x_28, x_28_e, hi_29, H⟩ := rd_e H
    refine z_iald (M := M_X7_trim) dX7_trim_23 (ly_B hi_25) rfl rfl rfl hi_29 x_28_e ?_
    rcases if_e H with ⟨h_30, H⟩ | ⟨h_30, H⟩
    · refine z_if_ne_f (M := M_X7_trim) (tgt := 40) dX7_trim_24 (by decide) rfl h_30 ?_
      refine z_aload_n (M := M_X7_trim) dX7_trim_27 rfl ?_
      refine z_getR (M := M_X7_trim) (ci := 10) (C := RX7) (T := TX7) (Nf := 5) (ty := tyX7) cl10 dX7_trim_28 ly_252 3 (by decide) t_550 rfl ?_
      refine z_iload_n (M := M_X7_trim) dX7_trim_31 rfl ?_
      refine z_dup2 (M := M_X7_trim) dX7_trim_32 rfl rfl ?_
      obtain ⟨x_31, x_31_e, hi_32, H⟩ := rd_e H
      refine z_iald (M := M_X7_trim) dX7_trim_33 ly_272 rfl rfl rfl hi_32 x_31_e ?_
      refine z_iconst (M := M_X7_trim) dX7_trim_34 ?_
      refine z_isub (M := M_X7_trim) dX7_trim_35 ?_
      obtain ⟨σ_33, σ_33_e, hi_34, H⟩ := wa_e H
      refine z_iast (M := M_X7_trim) dX7_trim_36 ly_272 rfl rfl rfl hi_34 σ_33_e ?_
      refine z_goto (M := M_X7_trim) (tgt := 0) dX7_trim_37 (by decide) ?_
      exact K_7 _ (Option.some.inj H).symm
    · refine z_if_ne_t (M := M_X7_trim) (tgt := 40) dX7_trim_24 (by decide) rfl h_30 ?_
      exact J_52 _ (K_8 _ (Option.some.inj H).symm).symm
  · refine z_if_le_t (M := M_X7_trim) (tgt := 40) dX7_trim_6 (by decide) rfl (Int.not_lt.mp h_24) ?_
    exact J_52 _ (K_8 _ (Option.some.inj H).symm).symm
theorem c_X7_addSigned (hl : l.stackTraces = false) {σ : SG} {to_0 : Int} {one_0 : Int} {two_0 : Int} {factor_0 : Int} {σ' : SG}  (H : fI_addSigned σ to_0 one_0 two_0 factor_0 = some σ') : en_S l E M_X7_addSigned 3 0 0 [vr 252, vi to_0, vi one_0, vi two_0, vi factor_0] σ (pS (none) σ') := by
  unfold fI_addSigned at H
  refine z_mk (lv := [some (vr 252), some (vi to_0), some (vi one_0), some (vi two_0), some (vi factor_0), none, none]) m_X7_addSigned rfl hl (Nat.le_of_ble_eq_true rfl) rfl ?_
  refine z_aload_n (M := M_X7_addSigned) dX7_addSigned_0 rfl ?_
  refine z_getR (M := M_X7_addSigned) (ci := 10) (C := RX7) (T := TX7) (Nf := 5) (ty := tyX7) cl10 dX7_addSigned_1 ly_252 4 (by decide) t_551 rfl ?_
  refine z_iload_n (M := M_X7_addSigned) dX7_addSigned_4 rfl ?_
  obtain ⟨x_1, x_1_e, hi_2, H⟩ := rd_e H
  refine z_iald (M := M_X7_addSigned) dX7_addSigned_5 ly_273 rfl rfl rfl hi_2 x_1_e ?_
  refine z_iload (M := M_X7_addSigned) dX7_addSigned_6 rfl ?_
  refine z_imul (M := M_X7_addSigned) dX7_addSigned_8 ?_
  refine z_istore (M := M_X7_addSigned) (lv' := [some (vr 252), some (vi to_0), some (vi one_0), some (vi two_0), some (vi factor_0), some (vi (x_1 * factor_0)), none]) dX7_addSigned_9 (Nat.le_of_ble_eq_true rfl) rfl rfl ?_
  obtain ⟨v_6, he_3, hk_4⟩ := bd_e H
  have J_52 : ∀ σ_49, v_6 = σ_49 → YY l E M_X7_addSigned 3 0 0 (pS (none) σ') 112 [some (vr 252), some (vi to_0), some (vi one_0), some (vi two_0), some (vi factor_0), some (vi (x_1 * factor_0)), none] [] σ_49 0 0 := by
    intro σ_49 e
    have H := hk_4
    rw [e] at H
    refine z_aload_n (M := M_X7_addSigned) dX7_addSigned_112 rfl ?_
    refine z_iload_n (M := M_X7_addSigned) dX7_addSigned_113 rfl ?_
    obtain ⟨σ_51, hc_50, H⟩ := bd_e H
    refine z_callV (M := M_X7_addSigned) (M' := M_X7_trim) (as := [vi to_0]) (rest := []) rfl rfl dX7_addSigned_114 m_X7_trim t_2339 t_2341 s_150 (c_X7_trim hl  hc_50) rfl rfl ly_252 rfl (Nat.le_of_ble_eq_true rfl) (Nat.le_of_ble_eq_true rfl) (Nat.le_of_ble_eq_true rfl) (Nat.le_of_ble_eq_true rfl) ?_
    refine z_st (st' := []) rfl ?_
    cases H
    exact z_vret (M := M_X7_addSigned) dX7_addSigned_117 rfl (Nat.le_of_ble_eq_true rfl) (Nat.le_of_ble_eq_true rfl) ⟨rfl, rfl⟩
  have H := he_3
  refine z_aload_n (M := M_X7_addSigned) dX7_addSigned_11 rfl ?_
  refine z_getR (M := M_X7_addSigned) (ci := 10) (C := RX7) (T := TX7) (Nf := 5) (ty := tyX7) cl10 dX7_addSigned_12 ly_252 4 (by decide) t_551 rfl ?_
  refine z_iload_n (M := M_X7_addSigned) dX7_addSigned_15 rfl ?_
  obtain ⟨x_7, x_7_e, hi_8, H⟩ := rd_e H
  refine z_iald (M := M_X7_addSigned) dX7_addSigned_16 ly_273 rfl rfl rfl hi_8 x_7_e ?_
  refine z_iload (M := M_X7_addSigned) dX7_addSigned_17 rfl ?_
  refine z_imul (M := M_X7_addSigned) dX7_addSigned_19 ?_
  rcases if_e H with ⟨h_9, H⟩ | ⟨h_9, H⟩
  · refine z_if_lt_f (M := M_X7_addSigned) (tgt := 64) dX7_addSigned_20 (by decide) rfl h_9 ?_
    obtain ⟨v_23, he_24, hk_25⟩ := bd_e H
    have J_26 : ∀ x_17, v_23 = x_17 → YY l E M_X7_addSigned 3 0 0 (pS (none) σ') 43 [some (vr 252), some (vi to_0), some (vi one_0), some (vi two_0), some (vi factor_0), some (vi (x_1 * factor_0)), none] [vi x_17] σ 0 0 := by
      intro x_17 e
      have H := hk_25
      rw [e] at H
      refine z_istore (M := M_X7_addSigned) (lv' := [some (vr 252), some (vi to_0), some (vi one_0), some (vi two_0), some (vi factor_0), some (vi (x_1 * factor_0)), some (vi x_17)]) dX7_addSigned_43 (Nat.le_of_ble_eq_true rfl) rfl rfl ?_
      refine z_aload_n (M := M_X7_addSigned) dX7_addSigned_45 rfl ?_
      refine z_iload_n (M := M_X7_addSigned) dX7_addSigned_46 rfl ?_
      refine z_iload_n (M := M_X7_addSigned) dX7_addSigned_47 rfl ?_
      refine z_iload_n (M := M_X7_addSigned) dX7_addSigned_48 rfl ?_
      refine z_iconst (M := M_X7_addSigned) dX7_addSigned_49 ?_
      obtain ⟨σ_19, hc_18, H⟩ := bd_e H
      refine z_callV (M := M_X7_addSigned) (M' := M_X7_addLimbs) (as := [vi to_0, vi one_0, vi two_0, vi 1]) (rest := []) rfl rfl dX7_addSigned_50 m_X7_addLimbs t_2347 t_2349 s_152 (c_X7_addLimbs hl  hc_18) rfl rfl ly_252 rfl (Nat.le_of_ble_eq_true rfl) (Nat.le_of_ble_eq_true rfl) (Nat.le_of_ble_eq_true rfl) (Nat.le_of_ble_eq_true rfl) ?_
      refine z_st (st' := []) rfl ?_
      refine z_aload_n (M := M_X7_addSigned) dX7_addSigned_53 rfl ?_
      refine z_getR (M := M_X7_addSigned) (ci := 10) (C := RX7) (T := TX7) (Nf := 5) (ty := tyX7) cl10 dX7_addSigned_54 ly_252 4 (by decide) t_551 rfl ?_
      refine z_iload_n (M := M_X7_addSigned) dX7_addSigned_57 rfl ?_
      refine z_iload (M := M_X7_addSigned) dX7_addSigned_58 rfl ?_
      obtain ⟨σ_20, σ_20_e, hi_21, H⟩ := wa_e H
      refine z_iast (M := M_X7_addSigned) dX7_addSigned_60 ly_273 rfl rfl rfl hi_21 σ_20_e ?_
      refine z_goto (M := M_X7_addSigned) (tgt := 112) dX7_addSigned_61 (by decide) ?_
      refine z_le (lv' := [some (vr 252), some (vi to_0), some (vi one_0), some (vi two_0), some (vi factor_0), some (vi (x_1 * factor_0)), none]) ⟨Or.inr rfl, Or.inr rfl, Or.inr rfl, Or.inr rfl, Or.inr rfl, Or.inr rfl, Or.inl rfl, trivial⟩ ?_
      exact J_52 _ (Option.some.inj H).symm
    have H := he_24
    refine z_aload_n (M := M_X7_addSigned) dX7_addSigned_23 rfl ?_
    refine z_getR (M := M_X7_addSigned) (ci := 10) (C := RX7) (T := TX7) (Nf := 5) (ty := tyX7) cl10 dX7_addSigned_24 ly_252 4 (by decide) t_551 rfl ?_
    refine z_iload_n (M := M_X7_addSigned) dX7_addSigned_27 rfl ?_
    obtain ⟨x_10, x_10_e, hi_11, H⟩ := rd_e H
    refine z_iald (M := M_X7_addSigned) dX7_addSigned_28 ly_273 rfl rfl rfl hi_11 x_10_e ?_
    rcases if_e H with ⟨h_12, H⟩ | ⟨h_12, H⟩
    · refine z_if_eq_f (M := M_X7_addSigned) (tgt := 41) dX7_addSigned_29 (by decide) rfl h_12 ?_
      refine z_aload_n (M := M_X7_addSigned) dX7_addSigned_32 rfl ?_
      refine z_getR (M := M_X7_addSigned) (ci := 10) (C := RX7) (T := TX7) (Nf := 5) (ty := tyX7) cl10 dX7_addSigned_33 ly_252 4 (by decide) t_551 rfl ?_
      refine z_iload_n (M := M_X7_addSigned) dX7_addSigned_36 rfl ?_
      obtain ⟨x_13, x_13_e, hi_14, H⟩ := rd_e H
      refine z_iald (M := M_X7_addSigned) dX7_addSigned_37 ly_273 rfl rfl rfl hi_14 x_13_e ?_
      refine z_goto (M := M_X7_addSigned) (tgt := 43) dX7_addSigned_38 (by decide) ?_
      exact J_26 _ (Option.some.inj H).symm
    · refine z_if_eq_t (M := M_X7_addSigned) (tgt := 41) dX7_addSigned_29 (by decide) rfl (Decidable.not_not.mp h_12) ?_
      refine z_iload (M := M_X7_addSigned) dX7_addSigned_41 rfl ?_
      exact J_26 _ (Option.some.inj H).symm
  · refine z_if_lt_t (M := M_X7_addSigned) (tgt := 64) dX7_addSigned_20 (by decide) rfl (Int.not_le.mp h_9) ?_
    obtain ⟨v_30, he_27, hk_28⟩ := bd_e H
    have J_48 : ∀ σ_46, v_30 = σ_46 → YY l E M_X7_addSigned 3 0 0 (pS (none) σ') 112 [some (vr 252), some (vi to_0), some (vi one_0), some (vi two_0), some (vi factor_0), some (vi (x_1 * factor_0)), none] [] σ_46 0 0 := by
      intro σ_46 e
      have H := hk_28
      rw [e] at H
      exact J_52 _ (Option.some.inj H).symm
    have H := he_27
    refine z_aload_n (M := M_X7_addSigned) dX7_addSigned_64 rfl ?_
    refine z_iload_n (M := M_X7_addSigned) dX7_addSigned_65 rfl ?_
    refine z_iload_n (M := M_X7_addSigned) dX7_addSigned_66 rfl ?_
    obtain ⟨x_32, hc_31, H⟩ := bd_e H
    refine z_callV (M := M_X7_addSigned) (M' := M_X7_compareLimbs) (as := [vi one_0, vi two_0]) (rest := []) rfl rfl dX7_addSigned_67 m_X7_compareLimbs t_2356 t_2358 s_154 (c_X7_compareLimbs hl  hc_31) rfl rfl ly_252 rfl (Nat.le_of_ble_eq_true rfl) (Nat.le_of_ble_eq_true rfl) (Nat.le_of_ble_eq_true rfl) (Nat.le_of_ble_eq_true rfl) ?_
    refine z_st (st' := [vi x_32]) rfl ?_
    rcases if_e H with ⟨h_33, H⟩ | ⟨h_33, H⟩
    · refine z_if_lt_f (M := M_X7_addSigned) (tgt := 96) dX7_addSigned_70 (by decide) rfl h_33 ?_
      refine z_aload_n (M := M_X7_addSigned) dX7_addSigned_73 rfl ?_
      refine z_getR (M := M_X7_addSigned) (ci := 10) (C := RX7) (T := TX7) (Nf := 5) (ty := tyX7) cl10 dX7_addSigned_74 ly_252 4 (by decide) t_551 rfl ?_
      refine z_iload_n (M := M_X7_addSigned) dX7_addSigned_77 rfl ?_
      refine z_aload_n (M := M_X7_addSigned) dX7_addSigned_78 rfl ?_
      refine z_getR (M := M_X7_addSigned) (ci := 10) (C := RX7) (T := TX7) (Nf := 5) (ty := tyX7) cl10 dX7_addSigned_79 ly_252 4 (by decide) t_551 rfl ?_
      refine z_iload_n (M := M_X7_addSigned) dX7_addSigned_82 rfl ?_
      obtain ⟨x_34, x_34_e, hi_35, H⟩ := rd_e H
      refine z_iald (M := M_X7_addSigned) dX7_addSigned_83 ly_273 rfl rfl rfl hi_35 x_34_e ?_
      obtain ⟨σ_36, σ_36_e, hi_37, H⟩ := wa_e H
      refine z_iast (M := M_X7_addSigned) dX7_addSigned_84 ly_273 rfl rfl rfl hi_37 σ_36_e ?_
      refine z_aload_n (M := M_X7_addSigned) dX7_addSigned_85 rfl ?_
      refine z_iload_n (M := M_X7_addSigned) dX7_addSigned_86 rfl ?_
      refine z_iload_n (M := M_X7_addSigned) dX7_addSigned_87 rfl ?_
      refine z_iload_n (M := M_X7_addSigned) dX7_addSigned_88 rfl ?_
      refine z_iconst (M := M_X7_addSigned) dX7_addSigned_89 ?_
      obtain ⟨σ_39, hc_38, H⟩ := bd_e H
      refine z_callV (M := M_X7_addSigned) (M' := M_X7_addLimbs) (as := [vi to_0, vi one_0, vi two_0, vi (-1)]) (rest := []) rfl rfl dX7_addSigned_90 m_X7_addLimbs t_2347 t_2349 s_152 (c_X7_addLimbs hl  hc_38) rfl rfl ly_252 rfl (Nat.le_of_ble_eq_true rfl) (Nat.le_of_ble_eq_true rfl) (Nat.le_of_ble_eq_true rfl) (Nat.le_of_ble_eq_true rfl) ?_
      refine z_st (st' := []) rfl ?_
      refine z_goto (M := M_X7_addSigned) (tgt := 112) dX7_addSigned_93 (by decide) ?_
      exact J_48 _ (Option.some.inj H).symm
    · refine z_if_lt_t (M := M_X7_addSigned) (tgt := 96) dX7_addSigned_70 (by decide) rfl (Int.not_le.mp h_33) ?_
      refine z_aload_n (M := M_X7_addSigned) dX7_addSigned_96 rfl ?_
      refine z_getR (M := M_X7_addSigned) (ci := 10) (C := RX7) (T := TX7) (Nf := 5) (ty := tyX7) cl10 dX7_addSigned_97 ly_252 4 (by decide) t_551 rfl ?_
      refine z_iload_n (M := M_X7_addSigned) dX7_addSigned_100 rfl ?_
      refine z_iload (M := M_X7_addSigned) dX7_addSigned_101 rfl ?_
      obtain ⟨σ_41, σ_41_e, hi_42, H⟩ := wa_e H
      refine z_iast (M := M_X7_addSigned) dX7_addSigned_103 ly_273 rfl rfl rfl hi_42 σ_41_e ?_
      refine z_aload_n (M := M_X7_addSigned) dX7_addSigned_104 rfl ?_
      refine z_iload_n (M := M_X7_addSigned) dX7_addSigned_105 rfl ?_
      refine z_iload_n (M := M_X7_addSigned) dX7_addSigned_106 rfl ?_
      refine z_iload_n (M := M_X7_addSigned) dX7_addSigned_107 rfl ?_
      refine z_iconst (M := M_X7_addSigned) dX7_addSigned_108 ?_
      obtain ⟨σ_44, hc_43, H⟩ := bd_e H
      refine z_callV (M := M_X7_addSigned) (M' := M_X7_addLimbs) (as := [vi to_0, vi two_0, vi one_0, vi (-1)]) (rest := []) rfl rfl dX7_addSigned_109 m_X7_addLimbs t_2347 t_2349 s_152 (c_X7_addLimbs hl  hc_43) rfl rfl ly_252 rfl (Nat.le_of_ble_eq_true rfl) (Nat.le_of_ble_eq_true rfl) (Nat.le_of_ble_eq_true rfl) (Nat.le_of_ble_eq_true rfl) ?_
      refine z_st (st' := []) rfl ?_
      exact J_48 _ (Option.some.inj H).symm
theorem c_X7_load (hl : l.stackTraces = false) {σ : SG} {to_0 : Int} {bits_0 : Int} {σ' : SG}  (H : fI_load σ to_0 bits_0 = some σ') : en_S l E M_X7_load 3 0 0 [vr 252, vi to_0, vl bits_0] σ (pS (none) σ') := by
  unfold fI_load at H
  refine z_mk (lv := [some (vr 252), some (vi to_0), some (vl bits_0), none, none, none, none, none, none, none, none, none, none, none]) m_X7_load rfl hl (Nat.le_of_ble_eq_true rfl) rfl ?_
  refine z_lload_n (M := M_X7_load) dX7_load_0 rfl ?_
  refine z_bipush (M := M_X7_load) dX7_load_1 (by decide +kernel) ?_
  refine z_lushr (M := M_X7_load) dX7_load_3 ?_
  refine z_l2i (M := M_X7_load) dX7_load_4 ?_
  refine z_sipush (M := M_X7_load) dX7_load_5 (by decide +kernel) ?_
  refine z_iand (M := M_X7_load) dX7_load_8 ?_
  refine z_istore (M := M_X7_load) (lv' := [some (vr 252), some (vi to_0), some (vl bits_0), none, some (vi (q_ian (q_lus bits_0 52) 2047)), none, none, none, none, none, none, none, none, none]) dX7_load_9 (Nat.le_of_ble_eq_true rfl) rfl rfl ?_
  have J_1 : YY l E M_X7_load 3 0 0 (pS (none) σ') 35 [some (vr 252), some (vi to_0), some (vl bits_0), none, some (vi (q_ian (q_lus bits_0 52) 2047)), none, none, none, none, none, none, none, none, none] [vl (if (w32 (q_ian (q_lus bits_0 52) 2047)) = 0 then (q_lan bits_0 4503599627370495) else (((q_lan bits_0 4503599627370495) + 4503599627370495) + 1))] σ 0 0 := by
    obtain ⟨x_2, x_2_e, H⟩ := lt_e H
    refine z_st (congrArg (fun z => vl z :: []) x_2_e) ?_
    refine z_lstore (M := M_X7_load) (lv' := [some (vr 252), some (vi to_0), some (vl bits_0), none, some (vi (q_ian (q_lus bits_0 52) 2047)), some (vl x_2), none, none, none, none, none, none, none, none]) dX7_load_35 (Nat.le_of_ble_eq_true rfl) rfl rfl ?_
    refine z_iload (M := M_X7_load) dX7_load_37 rfl ?_
    refine z_iconst (M := M_X7_load) dX7_load_39 ?_
    refine z_isub (M := M_X7_load) dX7_load_40 ?_
    refine z_iconst (M := M_X7_load) dX7_load_41 ?_
    refine z_mmax (M := M_X7_load) dX7_load_42 t_2336 t_1013 t_20 t_1014 (Nat.le_of_ble_eq_true rfl) (Nat.le_of_ble_eq_true rfl) (Nat.le_of_ble_eq_true rfl) (Nat.le_of_ble_eq_true rfl) ?_
    refine z_istore (M := M_X7_load) (lv' := [some (vr 252), some (vi to_0), some (vl bits_0), none, some (vi (q_ian (q_lus bits_0 52) 2047)), some (vl x_2), none, some (vi (q_mxi ((q_ian (q_lus bits_0 52) 2047) - 1) 0)), none, none, none, none, none, none]) dX7_load_45 (Nat.le_of_ble_eq_true rfl) rfl rfl ?_
    refine z_iload (M := M_X7_load) dX7_load_47 rfl ?_
    refine z_iconst (M := M_X7_load) dX7_load_49 ?_
    refine z_ishr (M := M_X7_load) dX7_load_50 ?_
    refine z_istore (M := M_X7_load) (lv' := [some (vr 252), some (vi to_0), some (vl bits_0), none, some (vi (q_ian (q_lus bits_0 52) 2047)), some (vl x_2), none, some (vi (q_mxi ((q_ian (q_lus bits_0 52) 2047) - 1) 0)), some (vi (q_isr (q_mxi ((q_ian (q_lus bits_0 52) 2047) - 1) 0) 5)), none, none, none, none, none]) dX7_load_51 (Nat.le_of_ble_eq_true rfl) rfl rfl ?_
    refine z_iload (M := M_X7_load) dX7_load_53 rfl ?_
    refine z_bipush (M := M_X7_load) dX7_load_55 (by decide +kernel) ?_
    refine z_iand (M := M_X7_load) dX7_load_57 ?_
    obtain ⟨x_3, x_3_e, H⟩ := lt_e H
    refine z_st (congrArg (fun z => vi z :: []) x_3_e) ?_
    refine z_istore (M := M_X7_load) (lv' := [some (vr 252), some (vi to_0), some (vl bits_0), none, some (vi (q_ian (q_lus bits_0 52) 2047)), some (vl x_2), none, some (vi (q_mxi ((q_ian (q_lus bits_0 52) 2047) - 1) 0)), some (vi (q_isr (q_mxi ((q_ian (q_lus bits_0 52) 2047) - 1) 0) 5)), some (vi x_3), none, none, none, none]) dX7_load_58 (Nat.le_of_ble_eq_true rfl) rfl rfl ?_
    refine z_aload_n (M := M_X7_load) dX7_load_60 rfl ?_
    refine z_getR (M := M_X7_load) (ci := 10) (C := RX7) (T := TX7) (Nf := 5) (ty := tyX7) cl10 dX7_load_61 ly_252 2 (by decide) t_549 rfl ?_
    refine z_iload_n (M := M_X7_load) dX7_load_64 rfl ?_
    obtain ⟨hi_4, H⟩ := ck_e H
    refine z_gald (M := M_X7_load) dX7_load_65 ly_255 rfl rfl hi_4 (by rw [Nat.one_mul]) ?_
    refine z_iconst (M := M_X7_load) dX7_load_66 ?_
    refine z_iload (M := M_X7_load) dX7_load_67 rfl ?_
    refine z_iconst (M := M_X7_load) dX7_load_69 ?_
    refine z_iadd (M := M_X7_load) dX7_load_70 ?_
    refine z_iconst (M := M_X7_load) dX7_load_71 ?_
    obtain ⟨σ_6, hc_5, H⟩ := bd_e H
    refine z_callS (M := M_X7_load) (M' := M_J7_fill_fda19) (as := [vr (256 + (w32 to_0).toNat), vi 0, vi ((q_isr (q_mxi ((q_ian (q_lus bits_0 52) 2047) - 1) 0) 5) + 3), vi 0]) (rest := []) rfl rfl dX7_load_72 m_J7_fill_fda19 t_2337 t_1522 (c_J7_fill_fda19 hl (ly_B hi_4) hc_5) rfl rfl (Nat.le_of_ble_eq_true rfl) (Nat.le_of_ble_eq_true rfl) (Nat.le_of_ble_eq_true rfl) (Nat.le_of_ble_eq_true rfl) ?_
    refine z_st (st' := []) rfl ?_
    refine z_lload (M := M_X7_load) dX7_load_75 rfl ?_
    refine z_ldc2 (M := M_X7_load) (n := 4294967295) dX7_load_77 t_2338 (by decide +kernel) ?_
    refine z_land (M := M_X7_load) dX7_load_80 ?_
    refine z_iload (M := M_X7_load) dX7_load_81 rfl ?_
    refine z_lshl (M := M_X7_load) dX7_load_83 ?_
    refine z_lstore (M := M_X7_load) (lv' := [some (vr 252), some (vi to_0), some (vl bits_0), none, some (vi (q_ian (q_lus bits_0 52) 2047)), some (vl x_2), none, some (vi (q_mxi ((q_ian (q_lus bits_0 52) 2047) - 1) 0)), some (vi (q_isr (q_mxi ((q_ian (q_lus bits_0 52) 2047) - 1) 0) 5)), some (vi x_3), some (vl (q_lsl (q_lan x_2 4294967295) x_3)), none, none, none]) dX7_load_84 (Nat.le_of_ble_eq_true rfl) rfl rfl ?_
    refine z_lload (M := M_X7_load) dX7_load_86 rfl ?_
    refine z_bipush (M := M_X7_load) dX7_load_88 (by decide +kernel) ?_
    refine z_lushr (M := M_X7_load) dX7_load_90 ?_
    refine z_iload (M := M_X7_load) dX7_load_91 rfl ?_
    refine z_lshl (M := M_X7_load) dX7_load_93 ?_
    refine z_lload (M := M_X7_load) dX7_load_94 rfl ?_
    refine z_bipush (M := M_X7_load) dX7_load_96 (by decide +kernel) ?_
    refine z_lushr (M := M_X7_load) dX7_load_98 ?_
    refine z_ladd (M := M_X7_load) dX7_load_99 ?_
    obtain ⟨x_7, x_7_e, H⟩ := lt_e H
    refine z_st (congrArg (fun z => vl z :: []) x_7_e) ?_
    refine z_lstore (M := M_X7_load) (lv' := [some (vr 252), some (vi to_0), some (vl bits_0), none, some (vi (q_ian (q_lus bits_0 52) 2047)), some (vl x_2), none, some (vi (q_mxi ((q_ian (q_lus bits_0 52) 2047) - 1) 0)), some (vi (q_isr (q_mxi ((q_ian (q_lus bits_0 52) 2047) - 1) 0) 5)), some (vi x_3), some (vl (q_lsl (q_lan x_2 4294967295) x_3)), none, some (vl x_7), none]) dX7_load_100 (Nat.le_of_ble_eq_true rfl) rfl rfl ?_
    refine z_aload_n (M := M_X7_load) dX7_load_102 rfl ?_
    refine z_getR (M := M_X7_load) (ci := 10) (C := RX7) (T := TX7) (Nf := 5) (ty := tyX7) cl10 dX7_load_103 ly_252 2 (by decide) t_549 rfl ?_
    refine z_iload_n (M := M_X7_load) dX7_load_106 rfl ?_
    obtain ⟨hi_8, H⟩ := ck_e H
    refine z_gald (M := M_X7_load) dX7_load_107 ly_255 rfl rfl hi_8 (by rw [Nat.one_mul]) ?_
    refine z_iload (M := M_X7_load) dX7_load_108 rfl ?_
    refine z_lload (M := M_X7_load) dX7_load_110 rfl ?_
    refine z_l2i (M := M_X7_load) dX7_load_112 ?_
    obtain ⟨σ_9, σ_9_e, hi_10, H⟩ := wa_e H
    refine z_iast (M := M_X7_load) dX7_load_113 (ly_B hi_8) rfl rfl rfl hi_10 σ_9_e ?_
    refine z_aload_n (M := M_X7_load) dX7_load_114 rfl ?_
    refine z_getR (M := M_X7_load) (ci := 10) (C := RX7) (T := TX7) (Nf := 5) (ty := tyX7) cl10 dX7_load_115 ly_252 2 (by decide) t_549 rfl ?_
    refine z_iload_n (M := M_X7_load) dX7_load_118 rfl ?_
    obtain ⟨hi_11, H⟩ := ck_e H
    refine z_gald (M := M_X7_load) dX7_load_119 ly_255 rfl rfl hi_11 (by rw [Nat.one_mul]) ?_
    refine z_iload (M := M_X7_load) dX7_load_120 rfl ?_
    refine z_iconst (M := M_X7_load) dX7_load_122 ?_
    refine z_iadd (M := M_X7_load) dX7_load_123 ?_
    refine z_lload (M := M_X7_load) dX7_load_124 rfl ?_
    refine z_l2i (M := M_X7_load) dX7_load_126 ?_
    obtain ⟨σ_12, σ_12_e, hi_13, H⟩ := wa_e H
    refine z_iast (M := M_X7_load) dX7_load_127 (ly_B hi_11) rfl rfl rfl hi_13 σ_12_e ?_
    refine z_aload_n (M := M_X7_load) dX7_load_128 rfl ?_
    refine z_getR (M := M_X7_load) (ci := 10) (C := RX7) (T := TX7) (Nf := 5) (ty := tyX7) cl10 dX7_load_129 ly_252 2 (by decide) t_549 rfl ?_
    refine z_iload_n (M := M_X7_load) dX7_load_132 rfl ?_
    obtain ⟨hi_14, H⟩ := ck_e H
    refine z_gald (M := M_X7_load) dX7_load_133 ly_255 rfl rfl hi_14 (by rw [Nat.one_mul]) ?_
    refine z_iload (M := M_X7_load) dX7_load_134 rfl ?_
    refine z_iconst (M := M_X7_load) dX7_load_136 ?_
    refine z_iadd (M := M_X7_load) dX7_load_137 ?_
    refine z_lload (M := M_X7_load) dX7_load_138 rfl ?_
    refine z_bipush (M := M_X7_load) dX7_load_140 (by decide +kernel) ?_
    refine z_lushr (M := M_X7_load) dX7_load_142 ?_
    refine z_l2i (M := M_X7_load) dX7_load_143 ?_
    obtain ⟨σ_15, σ_15_e, hi_16, H⟩ := wa_e H
    refine z_iast (M := M_X7_load) dX7_load_144 (ly_B hi_14) rfl rfl rfl hi_16 σ_15_e ?_
    refine z_aload_n (M := M_X7_load) dX7_load_145 rfl ?_
    refine z_getR (M := M_X7_load) (ci := 10) (C := RX7) (T := TX7) (Nf := 5) (ty := tyX7) cl10 dX7_load_146 ly_252 3 (by decide) t_550 rfl ?_
    refine z_iload_n (M := M_X7_load) dX7_load_149 rfl ?_
    refine z_iload (M := M_X7_load) dX7_load_150 rfl ?_
    refine z_iconst (M := M_X7_load) dX7_load_152 ?_
    refine z_iadd (M := M_X7_load) dX7_load_153 ?_
    obtain ⟨σ_17, σ_17_e, hi_18, H⟩ := wa_e H
    refine z_iast (M := M_X7_load) dX7_load_154 ly_272 rfl rfl rfl hi_18 σ_17_e ?_
    refine z_aload_n (M := M_X7_load) dX7_load_155 rfl ?_
    refine z_getR (M := M_X7_load) (ci := 10) (C := RX7) (T := TX7) (Nf := 5) (ty := tyX7) cl10 dX7_load_156 ly_252 4 (by decide) t_551 rfl ?_
    refine z_iload_n (M := M_X7_load) dX7_load_159 rfl ?_
    have J_19 : YY l E M_X7_load 3 0 0 (pS (none) σ') 171 [some (vr 252), some (vi to_0), some (vl bits_0), none, some (vi (q_ian (q_lus bits_0 52) 2047)), some (vl x_2), none, some (vi (q_mxi ((q_ian (q_lus bits_0 52) 2047) - 1) 0)), some (vi (q_isr (q_mxi ((q_ian (q_lus bits_0 52) 2047) - 1) 0) 5)), some (vi x_3), some (vl (q_lsl (q_lan x_2 4294967295) x_3)), none, some (vl x_7), none] [vi (if (w64 bits_0) < 0 then (-1) else 1), vi to_0, vr 273] σ_17 0 0 := by
      obtain ⟨σ_20, σ_20_e, hi_21, H⟩ := wa_e H
      refine z_iast (M := M_X7_load) dX7_load_171 ly_273 rfl rfl rfl hi_21 σ_20_e ?_
      refine z_aload_n (M := M_X7_load) dX7_load_172 rfl ?_
      refine z_iload_n (M := M_X7_load) dX7_load_173 rfl ?_
      obtain ⟨σ_23, hc_22, H⟩ := bd_e H
      refine z_callV (M := M_X7_load) (M' := M_X7_trim) (as := [vi to_0]) (rest := []) rfl rfl dX7_load_174 m_X7_trim t_2339 t_2341 s_150 (c_X7_trim hl  hc_22) rfl rfl ly_252 rfl (Nat.le_of_ble_eq_true rfl) (Nat.le_of_ble_eq_true rfl) (Nat.le_of_ble_eq_true rfl) (Nat.le_of_ble_eq_true rfl) ?_
      refine z_st (st' := []) rfl ?_
      cases H
      exact z_vret (M := M_X7_load) dX7_load_177 rfl (Nat.le_of_ble_eq_true rfl) (Nat.le_of_ble_eq_true rfl) ⟨rfl, rfl⟩
    refine z_lload_n (M := M_X7_load) dX7_load_160 rfl ?_
    refine z_lconst (M := M_X7_load) (m := 0) dX7_load_161 (by decide +kernel) ?_
    refine z_lcmp (M := M_X7_load) dX7_load_162 ?_
    by_cases h_24 : (w64 bits_0) < 0
    · refine z_lif_ge_f (M := M_X7_load) (tgt := 170) dX7_load_163 (by decide) rfl (by decide +kernel) h_24 ?_
      refine z_iconst (M := M_X7_load) dX7_load_166 ?_
      refine z_goto (M := M_X7_load) (tgt := 171) dX7_load_167 (by decide) ?_
      exact z_st (by rw [if_pos (c := (w64 bits_0) < 0) h_24]) J_19
    · refine z_lif_ge_t (M := M_X7_load) (tgt := 170) dX7_load_163 (by decide) rfl (by decide +kernel) (Int.not_lt.mp h_24) ?_
      refine z_iconst (M := M_X7_load) dX7_load_170 ?_
      exact z_st (by rw [if_neg (c := (w64 bits_0) < 0) h_24]) J_19
  refine z_iload (M := M_X7_load) dX7_load_11 rfl ?_
  by_cases h_25 : (w32 (q_ian (q_lus bits_0 52) 2047)) = 0
  · refine z_if_ne_f (M := M_X7_load) (tgt := 24) dX7_load_13 (by decide) rfl h_25 ?_
    refine z_lload_n (M := M_X7_load) dX7_load_16 rfl ?_
    refine z_ldc2 (M := M_X7_load) (n := 4503599627370495) dX7_load_17 t_2335 (by decide +kernel) ?_
    refine z_land (M := M_X7_load) dX7_load_20 ?_
    refine z_goto (M := M_X7_load) (tgt := 35) dX7_load_21 (by decide) ?_
    exact z_st (by rw [if_pos (c := (w32 (q_ian (q_lus bits_0 52) 2047)) = 0) h_25]) J_1
  · refine z_if_ne_t (M := M_X7_load) (tgt := 24) dX7_load_13 (by decide) rfl h_25 ?_
    refine z_lload_n (M := M_X7_load) dX7_load_24 rfl ?_
    refine z_ldc2 (M := M_X7_load) (n := 4503599627370495) dX7_load_25 t_2335 (by decide +kernel) ?_
    refine z_land (M := M_X7_load) dX7_load_28 ?_
    refine z_ldc2 (M := M_X7_load) (n := 4503599627370495) dX7_load_29 t_2335 (by decide +kernel) ?_
    refine z_ladd (M := M_X7_load) dX7_load_32 ?_
    refine z_lconst (M := M_X7_load) (m := 1) dX7_load_33 (by decide +kernel) ?_
    refine z_ladd (M := M_X7_load) dX7_load_34 ?_
    exact z_st (by rw [if_neg (c := (w32 (q_ian (q_lus bits_0 52) 2047)) = 0) h_25]) J_1
theorem c_X7_difference (hl : l.stackTraces = false) {σ : SG} {to_0 : Int} {bits_0 : Int} {less_0 : Int} {σ' : SG}  (H : fI_difference σ to_0 bits_0 less_0 = some σ') : en_S l E M_X7_difference 4 0 0 [vr 252, vi to_0, vl bits_0, vl less_0] σ (pS (none) σ') := by
  unfold fI_difference at H
  refine z_mk (lv := [some (vr 252), some (vi to_0), some (vl bits_0), none, some (vl less_0), none]) m_X7_difference rfl hl (Nat.le_of_ble_eq_true rfl) rfl ?_
  refine z_aload_n (M := M_X7_difference) dX7_difference_0 rfl ?_
  refine z_iconst (M := M_X7_difference) dX7_difference_1 ?_
  refine z_lload_n (M := M_X7_difference) dX7_difference_2 rfl ?_
  obtain ⟨σ_2, hc_1, H⟩ := bd_e H
  refine z_callV (M := M_X7_difference) (M' := M_X7_load) (as := [vi 0, vl bits_0]) (rest := []) rfl rfl dX7_difference_3 m_X7_load t_2331 t_2333 s_149 (c_X7_load hl  hc_1) rfl rfl ly_252 rfl (Nat.le_of_ble_eq_true rfl) (Nat.le_of_ble_eq_true rfl) (Nat.le_of_ble_eq_true rfl) (Nat.le_of_ble_eq_true rfl) ?_
  refine z_st (st' := []) rfl ?_
  refine z_aload_n (M := M_X7_difference) dX7_difference_6 rfl ?_
  refine z_iconst (M := M_X7_difference) dX7_difference_7 ?_
  refine z_lload (M := M_X7_difference) dX7_difference_8 rfl ?_
  obtain ⟨σ_4, hc_3, H⟩ := bd_e H
  refine z_callV (M := M_X7_difference) (M' := M_X7_load) (as := [vi 1, vl less_0]) (rest := []) rfl rfl dX7_difference_10 m_X7_load t_2331 t_2333 s_149 (c_X7_load hl  hc_3) rfl rfl ly_252 rfl (Nat.le_of_ble_eq_true rfl) (Nat.le_of_ble_eq_true rfl) (Nat.le_of_ble_eq_true rfl) (Nat.le_of_ble_eq_true rfl) ?_
  refine z_st (st' := []) rfl ?_
  refine z_aload_n (M := M_X7_difference) dX7_difference_13 rfl ?_
  refine z_iload_n (M := M_X7_difference) dX7_difference_14 rfl ?_
  refine z_iconst (M := M_X7_difference) dX7_difference_15 ?_
  refine z_iconst (M := M_X7_difference) dX7_difference_16 ?_
  refine z_iconst (M := M_X7_difference) dX7_difference_17 ?_
  obtain ⟨σ_6, hc_5, H⟩ := bd_e H
  refine z_callV (M := M_X7_difference) (M' := M_X7_addSigned) (as := [vi to_0, vi 0, vi 1, vi (-1)]) (rest := []) rfl rfl dX7_difference_18 m_X7_addSigned t_2343 t_2345 s_151 (c_X7_addSigned hl  hc_5) rfl rfl ly_252 rfl (Nat.le_of_ble_eq_true rfl) (Nat.le_of_ble_eq_true rfl) (Nat.le_of_ble_eq_true rfl) (Nat.le_of_ble_eq_true rfl) ?_
  refine z_st (st' := []) rfl ?_
  cases H
  exact z_vret (M := M_X7_difference) dX7_difference_21 rfl (Nat.le_of_ble_eq_true rfl) (Nat.le_of_ble_eq_true rfl) ⟨rfl, rfl⟩
end LFAN
