theorem s_R_writeBytes {σ : SG} {slot_0 : Int} {order_0 : Int} (hσ : II σ) (qslot_0 : (-2147483648) ≤ slot_0 ∧ slot_0 ≤ 2147483647) (qorder_0 : (-2147483648) ≤ order_0 ∧ order_0 ≤ 2147483647) (w0 : SHs σ) : wp_ (fR_writeBytes σ slot_0 order_0) (fun zz_ => II zz_.2 ∧ FR [kR_planAt, kR_pointAt, kR_result, kR_resultMany, kR_thrown] σ zz_.2) := by
  unfold fR_writeBytes
  refine wp_wfI hσ b_kR_thrown (by (try dsimp only) <;> first | assumption | omega | ((try simp (disch := omega) only [w32_of, w64_of, w8_of]) <;> first | assumption | omega | (split <;> omega) | (refine And.intro ?_ ?_ <;> split <;> omega)) | omega) (fun σ_1 hσ_1 eσ_1 => ?_)
  try simp (disch := omega) only [w32_of, w64_of, w8_of] at eσ_1
  have flσ_1 := FR_sg eσ_1
  have frσ_1 : FR [kR_planAt, kR_pointAt, kR_result, kR_resultMany, kR_thrown] σ σ_1 := FR_le flσ_1 (by decide)
  have c3 := ii_kR_thrown hσ_1 0
  have c4 := sg_val eσ_1
  refine wp_fails hσ_1 (by (try dsimp only) <;> first | assumption | omega | ((try simp (disch := omega) only [w32_of, w64_of, w8_of]) <;> first | assumption | omega | (split <;> omega) | (refine And.intro ?_ ?_ <;> split <;> omega)) | omega) (by decide) (fun σ_34 hσ_34 flσ_34 e1 e2 => ?_)
  try dsimp only
  have frσ_34 : FR [kR_planAt, kR_pointAt, kR_result, kR_resultMany, kR_thrown] σ σ_34 := FR_tr frσ_1 flσ_34 (by decide) (by decide)
  refine wp_if (fun c5 => ?_) (fun c5 => ?_)
  · have k6 := e1 c5
    try simp (disch := omega) only [w32_of, w64_of, w8_of, decide_eq_true_eq, decide_eq_false_iff_not, Bool.not_eq_true, fR_isSlot] at c5
    exact wp_some ⟨hσ_34, frσ_34⟩
  · have k7 := e2 c5
    try simp (disch := omega) only [w32_of, w64_of, w8_of, decide_eq_true_eq, decide_eq_false_iff_not, Bool.not_eq_true, fR_isSlot] at c5
    refine wp_bdk ?_
    refine wp_bd (v_has (σ := σ_34) (slot_0 := slot_0) hσ_34 (by (try dsimp only) <;> first | assumption | omega | ((try simp (disch := omega) only [w32_of, w64_of, w8_of]) <;> first | assumption | omega | (split <;> omega) | (refine And.intro ?_ ?_ <;> split <;> omega)) | omega)) ?_
    rintro x_38 - g8
    have c9 := ii_kR_planMany hσ_34 slot_0
    have c10 := FR_at flσ_34 (c := kR_planMany) (by decide) slot_0
    have c11 := ii_kR_planMany hσ_1 slot_0
    have c12 := FR_at flσ_1 (c := kR_planMany) (by decide) slot_0
    have c13 := ii_kR_planMany hσ slot_0
    try simp (disch := omega) only [w32_of, w64_of, w8_of] at g8
    refine wp_if (fun c14 => ?_) (fun c14 => ?_)
    · have k15 := g8.mp c14
      try simp (disch := omega) only [w32_of, w64_of, w8_of] at k15
      try simp (disch := omega) only [w32_of, w64_of, w8_of, decide_eq_true_eq, decide_eq_false_iff_not, Bool.not_eq_true] at c14
      refine wp_somek ?_
      try dsimp only
      have c18 := ii_kR_thrown hσ_34 0
      refine wp_fails hσ_34 (by (try dsimp only) <;> first | assumption | omega | ((try simp (disch := omega) only [w32_of, w64_of, w8_of]) <;> first | assumption | omega | (split <;> omega) | (refine And.intro ?_ ?_ <;> split <;> omega)) | omega) (by decide) (fun σ_44 hσ_44 flσ_44 e16 e17 => ?_)
      try dsimp only
      have frσ_44 : FR [kR_planAt, kR_pointAt, kR_result, kR_resultMany, kR_thrown] σ σ_44 := FR_tr frσ_34 flσ_44 (by decide) (by decide)
      have k19 := e17 (by decide)
      refine wp_ft ?_
      have c20 := w32_rng order_0
      have c23 := ii_kR_thrown hσ_44 0
      refine wp_fails hσ_44 (by (try dsimp only) <;> first | assumption | omega | ((try simp (disch := omega) only [w32_of, w64_of, w8_of]) <;> first | assumption | omega | (split <;> omega) | (refine And.intro ?_ ?_ <;> split <;> omega)) | omega) (by decide) (fun σ_49 hσ_49 flσ_49 e21 e22 => ?_)
      try dsimp only
      have frσ_49 : FR [kR_planAt, kR_pointAt, kR_result, kR_resultMany, kR_thrown] σ σ_49 := FR_tr frσ_44 flσ_49 (by decide) (by decide)
      refine wp_if (fun c24 => ?_) (fun c24 => ?_)
      · have k25 := e21 c24
        try simp (disch := omega) only [w32_of, w64_of, w8_of, decide_eq_true_eq, decide_eq_false_iff_not, Bool.not_eq_true, fR_in] at c24
        exact wp_some ⟨hσ_49, frσ_49⟩
      · have k26 := e22 c24
        try simp (disch := omega) only [w32_of, w64_of, w8_of, decide_eq_true_eq, decide_eq_false_iff_not, Bool.not_eq_true, fR_in] at c24
        refine wp_wfI hσ_49 b_kR_resultMany (by (try dsimp only) <;> first | assumption | omega | ((try simp (disch := omega) only [w32_of, w64_of, w8_of]) <;> first | assumption | omega | (split <;> omega) | (refine And.intro ?_ ?_ <;> split <;> omega)) | omega) (fun σ_52 hσ_52 eσ_52 => ?_)
        try simp (disch := omega) only [w32_of, w64_of, w8_of] at eσ_52
        have flσ_52 := FR_sg eσ_52
        have frσ_52 : FR [kR_planAt, kR_pointAt, kR_result, kR_resultMany, kR_thrown] σ σ_52 := FR_tr frσ_49 flσ_52 (by decide) (by decide)
        refine wp_wfI hσ_52 b_kR_planAt (by (try dsimp only) <;> first | assumption | omega | ((try simp (disch := omega) only [w32_of, w64_of, w8_of]) <;> first | assumption | omega | (split <;> omega) | (refine And.intro ?_ ?_ <;> split <;> omega)) | omega) (fun σ_53 hσ_53 eσ_53 => ?_)
        try simp (disch := omega) only [w32_of, w64_of, w8_of] at eσ_53
        have flσ_53 := FR_sg eσ_53
        have frσ_53 : FR [kR_planAt, kR_pointAt, kR_result, kR_resultMany, kR_thrown] σ σ_53 := FR_tr frσ_52 flσ_53 (by decide) (by decide)
        refine wp_wfI hσ_53 b_kR_pointAt (by (try dsimp only) <;> first | assumption | omega | ((try simp (disch := omega) only [w32_of, w64_of, w8_of]) <;> first | assumption | omega | (split <;> omega) | (refine And.intro ?_ ?_ <;> split <;> omega)) | omega) (fun σ_54 hσ_54 eσ_54 => ?_)
        try simp (disch := omega) only [w32_of, w64_of, w8_of] at eσ_54
        have flσ_54 := FR_sg eσ_54
        have frσ_54 : FR [kR_planAt, kR_pointAt, kR_result, kR_resultMany, kR_thrown] σ σ_54 := FR_tr frσ_53 flσ_54 (by decide) (by decide)
        have pa54 : σ_54 kR_planAt 0 = 2048 * slot_0 := by rw [eσ_54, sg_nc (by decide)]; exact sg_val eσ_53
        have pb54 : σ_54 kR_pointAt 0 = 2048 * slot_0 := sg_val eσ_54
        have rm54 : σ_54 kR_resultMany 0 = 0 := by rw [eσ_54, sg_nc (by decide), eσ_53, sg_nc (by decide)]; exact sg_val eσ_52
        have hpm := ii_kR_planMany hσ slot_0
        have hqm := ii_kR_pointMany hσ slot_0
        have c27 := w32_rng slot_0
        refine wp_rdI (by (try dsimp only) <;> first | assumption | omega | ((try simp (disch := omega) only [w32_of, w64_of, w8_of]) <;> first | assumption | omega | (split <;> omega) | (refine And.intro ?_ ?_ <;> split <;> omega)) | omega) (by (try dsimp only) <;> first | assumption | omega | ((try simp (disch := omega) only [w32_of, w64_of, w8_of]) <;> first | assumption | omega | (split <;> omega) | (refine And.intro ?_ ?_ <;> split <;> omega)) | omega) (fun x_55 e_x_55 => ?_)
        have b_x_55 : 0 ≤ x_55 ∧ x_55 ≤ 2048 := by rw [e_x_55]; exact ii_kR_planMany hσ_54 _
        rw [FR_at frσ_54 (c := kR_planMany) (by decide)] at e_x_55
        try simp (disch := omega) only [w32_of, w64_of, w8_of] at e_x_55
        have c28 := ii_kR_planMany hσ_54 slot_0
        have c29 := FR_at flσ_54 (c := kR_planMany) (by decide) slot_0
        have c30 := ii_kR_planMany hσ_53 slot_0
        have c31 := FR_at flσ_53 (c := kR_planMany) (by decide) slot_0
        have c32 := ii_kR_planMany hσ_52 slot_0
        have c33 := FR_at flσ_52 (c := kR_planMany) (by decide) slot_0
        have c34 := ii_kR_planMany hσ_49 slot_0
        have c35 := FR_at flσ_49 (c := kR_planMany) (by decide) slot_0
        have c36 := ii_kR_planMany hσ_44 slot_0
        have c37 := FR_at flσ_44 (c := kR_planMany) (by decide) slot_0
        refine wp_bd (P := fun rr_ => II rr_ ∧ FR [kR_planAt, kR_pointAt, kR_result, kR_resultMany, kR_thrown] σ rr_) ?_ ?_
        · have c38 := ii_kR_planAt hσ_54 0
          have c39 := FR_at flσ_54 (c := kR_planAt) (by decide) 0
          have c40 := ii_kR_planAt hσ_53 0
          have c41 := sg_val eσ_53
          have c42 := ii_kR_pointAt hσ_54 0
          have c43 := sg_val eσ_54
          have c44 := ii_kR_resultMany hσ_54 0
          have c45 := FR_at flσ_54 (c := kR_resultMany) (by decide) 0
          have c46 := ii_kR_resultMany hσ_53 0
          have c47 := FR_at flσ_53 (c := kR_resultMany) (by decide) 0
          have c48 := ii_kR_resultMany hσ_52 0
          have c49 := sg_val eσ_52
          refine wp_whl (fun ss_ => II ss_ ∧ FR [kR_planAt, kR_pointAt, kR_result, kR_resultMany, kR_thrown] σ ss_ ∧ (FLw σ slot_0 (ss_ kR_planAt 0) (ss_ kR_pointAt 0)) ∧ (ss_ kR_resultMany 0 ≤ 11 * (ss_ kR_planAt 0 - 2048 * slot_0) + 16 * (ss_ kR_pointAt 0 - 2048 * slot_0))) (fun ss_ => (2048 * slot_0 + 2050 - ss_ kR_planAt 0).toNat) ⟨hσ_54, frσ_54, (by (try dsimp only) <;> (first | exact gw2 | (rw [pa54, pb54]; exact FLw_0 (w0 _ (by omega) (by omega))))), (by (try dsimp only) <;> first | assumption | omega | ((try simp (disch := omega) only [w32_of, w64_of, w8_of]) <;> first | assumption | omega | (split <;> omega) | (refine And.intro ?_ ?_ <;> split <;> omega)) | omega)⟩ ?_
          rintro σ_57 ⟨hσ_57, frσ_57, gw, g50⟩
          have hle := FLw_le gw
          have c52 := ii_kR_planAt hσ_57 0
          have c53 := w32_rng (σ_57 kR_planAt 0)
          have c54 := w32_rng ((σ_54 kR_planAt 0) + x_55)
          refine wp_if (fun c51 => ?_) (fun c51 => ?_)
          · try simp (disch := omega) only [w32_of, w64_of, w8_of, decide_eq_true_eq, decide_eq_false_iff_not, Bool.not_eq_true] at c51
            obtain ⟨ho, hn, h2, h3, h4, h5, -⟩ := FLw_hd gw (by omega)
            have ho1 := ho.1
            have ho2 := ho.2.1
            have ho3 := ho.2.2.1
            have ho4 := ho.2.2.2.1
            have hle2 := FLw_le hn
            refine wp_bd (v_next (σ := σ_57) hσ_57 (by (try dsimp only) <;> first | assumption | omega | ((try simp (disch := omega) only [w32_of, w64_of, w8_of]) <;> first | assumption | omega | (split <;> omega) | (refine And.intro ?_ ?_ <;> split <;> omega)) | omega)) ?_
            rintro ⟨x_68, σ_67⟩ - y55
            try dsimp only at y55 ⊢
            obtain ⟨hσ_67, flσ_67, n1, n2⟩ := y55
            have frσ_67 : FR [kR_planAt, kR_pointAt, kR_result, kR_resultMany, kR_thrown] σ σ_67 := FR_tr frσ_57 flσ_67 (by decide) (by decide)
            have c56 := ii_kR_planAt hσ_67 0
            try simp (disch := omega) only [w32_of, w64_of, w8_of] at n1
            have c57 := FR_at frσ_57 (c := kR_plan) (by decide) (σ_57 kR_planAt 0)
            try simp (disch := omega) only [w32_of, w64_of, w8_of] at n2
            refine wp_bd (v_next (σ := σ_67) hσ_67 (by (try dsimp only) <;> first | assumption | omega | ((try simp (disch := omega) only [w32_of, w64_of, w8_of]) <;> first | assumption | omega | (split <;> omega) | (refine And.intro ?_ ?_ <;> split <;> omega)) | omega)) ?_
            rintro ⟨x_71, σ_70⟩ - y58
            try dsimp only at y58 ⊢
            obtain ⟨hσ_70, flσ_70, n3, n4⟩ := y58
            have frσ_70 : FR [kR_planAt, kR_pointAt, kR_result, kR_resultMany, kR_thrown] σ σ_70 := FR_tr frσ_67 flσ_70 (by decide) (by decide)
            have c59 := ii_kR_planAt hσ_70 0
            try simp (disch := omega) only [w32_of, w64_of, w8_of] at n3
            have c60 := FR_at flσ_67 (c := kR_plan) (by decide) (σ_67 kR_planAt 0)
            have c61 := FR_at frσ_57 (c := kR_plan) (by decide) (σ_67 kR_planAt 0)
            try simp (disch := omega) only [w32_of, w64_of, w8_of] at n4
            have hx68 : x_68 = σ kR_plan (σ_57 kR_planAt 0) := n2.trans (FR_at frσ_57 (c := kR_plan) (by decide) _)
            have hx71 : x_71 = σ kR_plan (σ_57 kR_planAt 0 + 1) := by rw [n4, n1]; exact FR_at frσ_67 (c := kR_plan) (by decide) _
            have pa70 : σ_70 kR_planAt 0 = σ_57 kR_planAt 0 + 2 := by omega
            have pb70 : σ_70 kR_pointAt 0 = σ_57 kR_pointAt 0 := (FR_at flσ_70 (c := kR_pointAt) (by decide) 0).trans (FR_at flσ_67 (c := kR_pointAt) (by decide) 0)
            have rm70 : σ_70 kR_resultMany 0 = σ_57 kR_resultMany 0 := (FR_at flσ_70 (c := kR_resultMany) (by decide) 0).trans (FR_at flσ_67 (c := kR_resultMany) (by decide) 0)
            have hw68 : w32 x_68 = x_68 := w32_of (by omega) (by omega)
            have c62 := ii_kR_resultMany hσ_70 0
            have c63 := FR_at flσ_70 (c := kR_resultMany) (by decide) 0
            have c64 := ii_kR_resultMany hσ_67 0
            have c65 := FR_at flσ_67 (c := kR_resultMany) (by decide) 0
            have c66 := ii_kR_resultMany hσ_57 0
            refine wp_bd (s_R_put (σ := σ_70) (c_0 := order_0) hσ_70 (by (try dsimp only) <;> first | assumption | omega | ((try simp (disch := omega) only [w32_of, w64_of, w8_of]) <;> first | assumption | omega | (split <;> omega) | (refine And.intro ?_ ?_ <;> split <;> omega)) | omega) (by (try dsimp only) <;> first | assumption | omega | ((try simp (disch := omega) only [w32_of, w64_of, w8_of]) <;> first | assumption | omega | (split <;> omega) | (refine And.intro ?_ ?_ <;> split <;> omega)) | omega)) ?_
            rintro σ_73 - ⟨hσ_73, flσ_73, g67⟩
            have frσ_73 : FR [kR_planAt, kR_pointAt, kR_result, kR_resultMany, kR_thrown] σ σ_73 := FR_tr frσ_70 flσ_73 (by decide) (by decide)
            have c68 := ii_kR_resultMany hσ_73 0
            try simp (disch := omega) only [w32_of, w64_of, w8_of] at g67
            have c69 := w32_rng x_68
            refine wp_bd (v_putBytes (σ := σ_73) (v_0 := (w32 x_68)) (n_0 := 4) (order_0 := order_0) hσ_73 (by (try dsimp only) <;> first | assumption | omega | ((try simp (disch := omega) only [w32_of, w64_of, w8_of]) <;> first | assumption | omega | (split <;> omega) | (refine And.intro ?_ ?_ <;> split <;> omega)) | omega) (by (try dsimp only) <;> first | assumption | omega | ((try simp (disch := omega) only [w32_of, w64_of, w8_of]) <;> first | assumption | omega | (split <;> omega) | (refine And.intro ?_ ?_ <;> split <;> omega)) | omega) (by (try dsimp only) <;> first | assumption | omega | ((try simp (disch := omega) only [w32_of, w64_of, w8_of]) <;> first | assumption | omega | (split <;> omega) | (refine And.intro ?_ ?_ <;> split <;> omega)) | omega)) ?_
            rintro σ_75 - ⟨hσ_75, flσ_75, g70⟩
            have frσ_75 : FR [kR_planAt, kR_pointAt, kR_result, kR_resultMany, kR_thrown] σ σ_75 := FR_tr frσ_73 flσ_75 (by decide) (by decide)
            have c71 := ii_kR_resultMany hσ_75 0
            try simp (disch := omega) only [w32_of, w64_of, w8_of] at g70
            have pa75 : σ_75 kR_planAt 0 = σ_57 kR_planAt 0 + 2 := (FR_at flσ_75 (c := kR_planAt) (by decide) 0).trans ((FR_at flσ_73 (c := kR_planAt) (by decide) 0).trans pa70)
            have pb75 : σ_75 kR_pointAt 0 = σ_57 kR_pointAt 0 := (FR_at flσ_75 (c := kR_pointAt) (by decide) 0).trans ((FR_at flσ_73 (c := kR_pointAt) (by decide) 0).trans pb70)
            have c73 := w32_rng x_71
            refine wp_if (fun c72 => ?_) (fun c72 => ?_)
            · try simp (disch := omega) only [w32_of, w64_of, w8_of, decide_eq_true_eq, decide_eq_false_iff_not, Bool.not_eq_true] at c72
              refine wp_bd (v_putBytes (σ := σ_75) (v_0 := 9221120237041090560) (n_0 := 8) (order_0 := order_0) hσ_75 (by (try dsimp only) <;> first | assumption | omega | ((try simp (disch := omega) only [w32_of, w64_of, w8_of]) <;> first | assumption | omega | (split <;> omega) | (refine And.intro ?_ ?_ <;> split <;> omega)) | omega) (by (try dsimp only) <;> first | assumption | omega | ((try simp (disch := omega) only [w32_of, w64_of, w8_of]) <;> first | assumption | omega | (split <;> omega) | (refine And.intro ?_ ?_ <;> split <;> omega)) | omega) (by (try dsimp only) <;> first | assumption | omega | ((try simp (disch := omega) only [w32_of, w64_of, w8_of]) <;> first | assumption | omega | (split <;> omega) | (refine And.intro ?_ ?_ <;> split <;> omega)) | omega)) ?_
              rintro σ_77 - ⟨hσ_77, flσ_77, g74⟩
              have frσ_77 : FR [kR_planAt, kR_pointAt, kR_result, kR_resultMany, kR_thrown] σ σ_77 := FR_tr frσ_75 flσ_77 (by decide) (by decide)
              have c75 := ii_kR_resultMany hσ_77 0
              try simp (disch := omega) only [w32_of, w64_of, w8_of] at g74
              refine wp_bd (v_putBytes (σ := σ_77) (v_0 := 9221120237041090560) (n_0 := 8) (order_0 := order_0) hσ_77 (by (try dsimp only) <;> first | assumption | omega | ((try simp (disch := omega) only [w32_of, w64_of, w8_of]) <;> first | assumption | omega | (split <;> omega) | (refine And.intro ?_ ?_ <;> split <;> omega)) | omega) (by (try dsimp only) <;> first | assumption | omega | ((try simp (disch := omega) only [w32_of, w64_of, w8_of]) <;> first | assumption | omega | (split <;> omega) | (refine And.intro ?_ ?_ <;> split <;> omega)) | omega) (by (try dsimp only) <;> first | assumption | omega | ((try simp (disch := omega) only [w32_of, w64_of, w8_of]) <;> first | assumption | omega | (split <;> omega) | (refine And.intro ?_ ?_ <;> split <;> omega)) | omega)) ?_
              rintro σ_79 - ⟨hσ_79, flσ_79, g76⟩
              have frσ_79 : FR [kR_planAt, kR_pointAt, kR_result, kR_resultMany, kR_thrown] σ σ_79 := FR_tr frσ_77 flσ_79 (by decide) (by decide)
              have c77 := ii_kR_resultMany hσ_79 0
              try simp (disch := omega) only [w32_of, w64_of, w8_of] at g76
              have pa79 : σ_79 kR_planAt 0 = σ_57 kR_planAt 0 + 2 := (FR_at flσ_79 (c := kR_planAt) (by decide) 0).trans ((FR_at flσ_77 (c := kR_planAt) (by decide) 0).trans pa75)
              have pb79 : σ_79 kR_pointAt 0 = σ_57 kR_pointAt 0 := (FR_at flσ_79 (c := kR_pointAt) (by decide) 0).trans ((FR_at flσ_77 (c := kR_pointAt) (by decide) 0).trans pb75)
              have gw2 : FLw σ slot_0 (σ_79 kR_planAt 0) (σ_79 kR_pointAt 0) := by
                have z := hn
                rw [el_n (by omega), ep_l (by omega), show σ kR_plan (σ_57 kR_planAt 0 + 1) = 0 by omega, Int.add_zero] at z
                rw [pa79, pb79]; exact z
              have c78 := ii_kR_planAt hσ_79 0
              have c79 := FR_at flσ_79 (c := kR_planAt) (by decide) 0
              have c80 := ii_kR_planAt hσ_77 0
              have c81 := FR_at flσ_77 (c := kR_planAt) (by decide) 0
              have c82 := ii_kR_planAt hσ_75 0
              have c83 := FR_at flσ_75 (c := kR_planAt) (by decide) 0
              have c84 := ii_kR_planAt hσ_73 0
              have c85 := FR_at flσ_73 (c := kR_planAt) (by decide) 0
              have c86 := ii_kR_pointAt hσ_79 0
              have c87 := FR_at flσ_79 (c := kR_pointAt) (by decide) 0
              have c88 := ii_kR_pointAt hσ_77 0
              have c89 := FR_at flσ_77 (c := kR_pointAt) (by decide) 0
              have c90 := ii_kR_pointAt hσ_75 0
              have c91 := FR_at flσ_75 (c := kR_pointAt) (by decide) 0
              have c92 := ii_kR_pointAt hσ_73 0
              have c93 := FR_at flσ_73 (c := kR_pointAt) (by decide) 0
              have c94 := ii_kR_pointAt hσ_70 0
              have c95 := FR_at flσ_70 (c := kR_pointAt) (by decide) 0
              have c96 := ii_kR_pointAt hσ_67 0
              have c97 := FR_at flσ_67 (c := kR_pointAt) (by decide) 0
              have c98 := ii_kR_pointAt hσ_57 0
              exact wp_some (x_inl ⟨⟨hσ_79, frσ_79, (by (try dsimp only) <;> (first | exact gw2 | (rw [pa54, pb54]; exact FLw_0 (w0 _ (by omega) (by omega))))), (by (try dsimp only) <;> first | assumption | omega | ((try simp (disch := omega) only [w32_of, w64_of, w8_of]) <;> first | assumption | omega | (split <;> omega) | (refine And.intro ?_ ?_ <;> split <;> omega)) | omega)⟩, (by (try dsimp only) <;> first | assumption | omega | ((try simp (disch := omega) only [w32_of, w64_of, w8_of]) <;> first | assumption | omega | (split <;> omega) | (refine And.intro ?_ ?_ <;> split <;> omega)) | omega)⟩)
            · try simp (disch := omega) only [w32_of, w64_of, w8_of, decide_eq_true_eq, decide_eq_false_iff_not, Bool.not_eq_true] at c72
              refine wp_bd (P := fun rr_ => II rr_ ∧ FR [kR_planAt, kR_pointAt, kR_result, kR_resultMany, kR_thrown] σ rr_ ∧ (rr_ kR_planAt 0 = σ_57 kR_planAt 0 + 2) ∧ (rr_ kR_pointAt 0 = σ_57 kR_pointAt 0) ∧ (rr_ kR_resultMany 0 ≤ σ_57 kR_resultMany 0 + 9)) ?_ ?_
              · refine wp_if (fun c99 => ?_) (fun c99 => ?_)
                · try simp (disch := omega) only [w32_of, w64_of, w8_of, decide_eq_true_eq, decide_eq_false_iff_not, Bool.not_eq_true] at c99
                  refine wp_bd (v_putBytes (σ := σ_75) (v_0 := (w32 x_71)) (n_0 := 4) (order_0 := order_0) hσ_75 (by (try dsimp only) <;> first | assumption | omega | ((try simp (disch := omega) only [w32_of, w64_of, w8_of]) <;> first | assumption | omega | (split <;> omega) | (refine And.intro ?_ ?_ <;> split <;> omega)) | omega) (by (try dsimp only) <;> first | assumption | omega | ((try simp (disch := omega) only [w32_of, w64_of, w8_of]) <;> first | assumption | omega | (split <;> omega) | (refine And.intro ?_ ?_ <;> split <;> omega)) | omega) (by (try dsimp only) <;> first | assumption | omega | ((try simp (disch := omega) only [w32_of, w64_of, w8_of]) <;> first | assumption | omega | (split <;> omega) | (refine And.intro ?_ ?_ <;> split <;> omega)) | omega)) ?_
                  rintro σ_87 - ⟨hσ_87, flσ_87, g100⟩
                  have frσ_87 : FR [kR_planAt, kR_pointAt, kR_result, kR_resultMany, kR_thrown] σ σ_87 := FR_tr frσ_75 flσ_87 (by decide) (by decide)
                  have c101 := ii_kR_resultMany hσ_87 0
                  try simp (disch := omega) only [w32_of, w64_of, w8_of] at g100
                  have pa87 : σ_87 kR_planAt 0 = σ_57 kR_planAt 0 + 2 := (FR_at flσ_87 (c := kR_planAt) (by decide) 0).trans pa75
                  have pb87 : σ_87 kR_pointAt 0 = σ_57 kR_pointAt 0 := (FR_at flσ_87 (c := kR_pointAt) (by decide) 0).trans pb75
                  have c102 := ii_kR_planAt hσ_87 0
                  have c103 := FR_at flσ_87 (c := kR_planAt) (by decide) 0
                  have c104 := ii_kR_planAt hσ_75 0
                  have c105 := FR_at flσ_75 (c := kR_planAt) (by decide) 0
                  have c106 := ii_kR_planAt hσ_73 0
                  have c107 := FR_at flσ_73 (c := kR_planAt) (by decide) 0
                  have c108 := ii_kR_pointAt hσ_87 0
                  have c109 := FR_at flσ_87 (c := kR_pointAt) (by decide) 0
                  have c110 := ii_kR_pointAt hσ_75 0
                  have c111 := FR_at flσ_75 (c := kR_pointAt) (by decide) 0
                  have c112 := ii_kR_pointAt hσ_73 0
                  have c113 := FR_at flσ_73 (c := kR_pointAt) (by decide) 0
                  have c114 := ii_kR_pointAt hσ_70 0
                  have c115 := FR_at flσ_70 (c := kR_pointAt) (by decide) 0
                  have c116 := ii_kR_pointAt hσ_67 0
                  have c117 := FR_at flσ_67 (c := kR_pointAt) (by decide) 0
                  have c118 := ii_kR_pointAt hσ_57 0
                  exact wp_some ⟨hσ_87, frσ_87, (by (try dsimp only) <;> first | assumption | omega | ((try simp (disch := omega) only [w32_of, w64_of, w8_of]) <;> first | assumption | omega | (split <;> omega) | (refine And.intro ?_ ?_ <;> split <;> omega)) | omega), (by (try dsimp only) <;> first | assumption | omega | ((try simp (disch := omega) only [w32_of, w64_of, w8_of]) <;> first | assumption | omega | (split <;> omega) | (refine And.intro ?_ ?_ <;> split <;> omega)) | omega), (by (try dsimp only) <;> first | assumption | omega | ((try simp (disch := omega) only [w32_of, w64_of, w8_of]) <;> first | assumption | omega | (split <;> omega) | (refine And.intro ?_ ?_ <;> split <;> omega)) | omega)⟩
                · try simp (disch := omega) only [w32_of, w64_of, w8_of, decide_eq_true_eq, decide_eq_false_iff_not, Bool.not_eq_true] at c99
                  have c119 := ii_kR_planAt hσ_75 0
                  have c120 := FR_at flσ_75 (c := kR_planAt) (by decide) 0
                  have c121 := ii_kR_planAt hσ_73 0
                  have c122 := FR_at flσ_73 (c := kR_planAt) (by decide) 0
                  have c123 := ii_kR_pointAt hσ_75 0
                  have c124 := FR_at flσ_75 (c := kR_pointAt) (by decide) 0
                  have c125 := ii_kR_pointAt hσ_73 0
                  have c126 := FR_at flσ_73 (c := kR_pointAt) (by decide) 0
                  have c127 := ii_kR_pointAt hσ_70 0
                  have c128 := FR_at flσ_70 (c := kR_pointAt) (by decide) 0
                  have c129 := ii_kR_pointAt hσ_67 0
                  have c130 := FR_at flσ_67 (c := kR_pointAt) (by decide) 0
                  have c131 := ii_kR_pointAt hσ_57 0
                  exact wp_some ⟨hσ_75, frσ_75, (by (try dsimp only) <;> first | assumption | omega | ((try simp (disch := omega) only [w32_of, w64_of, w8_of]) <;> first | assumption | omega | (split <;> omega) | (refine And.intro ?_ ?_ <;> split <;> omega)) | omega), (by (try dsimp only) <;> first | assumption | omega | ((try simp (disch := omega) only [w32_of, w64_of, w8_of]) <;> first | assumption | omega | (split <;> omega) | (refine And.intro ?_ ?_ <;> split <;> omega)) | omega), (by (try dsimp only) <;> first | assumption | omega | ((try simp (disch := omega) only [w32_of, w64_of, w8_of]) <;> first | assumption | omega | (split <;> omega) | (refine And.intro ?_ ?_ <;> split <;> omega)) | omega)⟩
              rintro σ_90 _ ⟨hσ_90, frσ_90, g132, g133, g134⟩
              have ept : x_68 < 3 → eP (σ kR_plan) (σ_57 kR_planAt 0) = x_71 := fun z => by rw [ep_l (by omega), hx71]
              refine wp_bd (P := fun rr_ => II rr_ ∧ FR [kR_planAt, kR_pointAt, kR_result, kR_resultMany, kR_thrown] σ rr_ ∧ (rr_ kR_planAt 0 = σ_57 kR_planAt 0 + 2) ∧ (rr_ kR_pointAt 0 = σ_57 kR_pointAt 0 + (if w32 x_68 < 3 then x_71 else 0)) ∧ (rr_ kR_resultMany 0 ≤ σ_57 kR_resultMany 0 + 9 + 16 * (rr_ kR_pointAt 0 - σ_57 kR_pointAt 0))) ?_ ?_
              · refine wp_if (fun c135 => ?_) (fun c135 => ?_)
                · try simp (disch := omega) only [w32_of, w64_of, w8_of, decide_eq_true_eq, decide_eq_false_iff_not, Bool.not_eq_true] at c135
                  have hk3 : w32 x_68 < 3 := by omega
                  have c136 := ii_kR_pointAt hσ_90 0
                  have c137 := ii_kR_resultMany hσ_90 0
                  refine wp_bd (v_putPoints (σ := σ_90) (n_0 := x_71) (order_0 := order_0) hσ_90 (by (try dsimp only) <;> first | assumption | omega | ((try simp (disch := omega) only [w32_of, w64_of, w8_of]) <;> first | assumption | omega | (split <;> omega) | (refine And.intro ?_ ?_ <;> split <;> omega)) | omega) (by (try dsimp only) <;> first | assumption | omega | ((try simp (disch := omega) only [w32_of, w64_of, w8_of]) <;> first | assumption | omega | (split <;> omega) | (refine And.intro ?_ ?_ <;> split <;> omega)) | omega) (by (try dsimp only) <;> first | assumption | omega | ((try simp (disch := omega) only [w32_of, w64_of, w8_of]) <;> first | assumption | omega | (split <;> omega) | (refine And.intro ?_ ?_ <;> split <;> omega)) | omega) (by (try dsimp only) <;> first | assumption | omega | ((try simp (disch := omega) only [w32_of, w64_of, w8_of]) <;> first | assumption | omega | (split <;> omega) | (refine And.intro ?_ ?_ <;> split <;> omega)) | omega)) ?_
                  rintro σ_97 - ⟨hσ_97, flσ_97, g138, g139⟩
                  have frσ_97 : FR [kR_planAt, kR_pointAt, kR_result, kR_resultMany, kR_thrown] σ σ_97 := FR_tr frσ_90 flσ_97 (by decide) (by decide)
                  have c140 := ii_kR_pointAt hσ_97 0
                  try simp (disch := omega) only [w32_of, w64_of, w8_of] at g138
                  have c141 := ii_kR_resultMany hσ_97 0
                  try simp (disch := omega) only [w32_of, w64_of, w8_of] at g139
                  have pa97 : σ_97 kR_planAt 0 = σ_57 kR_planAt 0 + 2 := (FR_at flσ_97 (c := kR_planAt) (by decide) 0).trans (by assumption)
                  have c142 := ii_kR_planAt hσ_97 0
                  have c143 := FR_at flσ_97 (c := kR_planAt) (by decide) 0
                  have c144 := ii_kR_planAt hσ_90 0
                  have c145 := ii_kR_pointAt hσ_57 0
                  exact wp_some ⟨hσ_97, frσ_97, (by (try dsimp only) <;> first | assumption | omega | ((try simp (disch := omega) only [w32_of, w64_of, w8_of]) <;> first | assumption | omega | (split <;> omega) | (refine And.intro ?_ ?_ <;> split <;> omega)) | omega), (by (try dsimp only) <;> (first | (rw [if_pos hk3]; omega) | (rw [if_neg hk3]; omega))), (by (try dsimp only) <;> first | assumption | omega | ((try simp (disch := omega) only [w32_of, w64_of, w8_of]) <;> first | assumption | omega | (split <;> omega) | (refine And.intro ?_ ?_ <;> split <;> omega)) | omega)⟩
                · try simp (disch := omega) only [w32_of, w64_of, w8_of, decide_eq_true_eq, decide_eq_false_iff_not, Bool.not_eq_true] at c135
                  have hk3 : ¬ w32 x_68 < 3 := by omega
                  have c146 := ii_kR_planAt hσ_90 0
                  have c147 := ii_kR_pointAt hσ_90 0
                  have c148 := ii_kR_pointAt hσ_57 0
                  have c149 := ii_kR_resultMany hσ_90 0
                  exact wp_some ⟨hσ_90, frσ_90, (by (try dsimp only) <;> first | assumption | omega | ((try simp (disch := omega) only [w32_of, w64_of, w8_of]) <;> first | assumption | omega | (split <;> omega) | (refine And.intro ?_ ?_ <;> split <;> omega)) | omega), (by (try dsimp only) <;> (first | (rw [if_pos hk3]; omega) | (rw [if_neg hk3]; omega))), (by (try dsimp only) <;> first | assumption | omega | ((try simp (disch := omega) only [w32_of, w64_of, w8_of]) <;> first | assumption | omega | (split <;> omega) | (refine And.intro ?_ ?_ <;> split <;> omega)) | omega)⟩
              rintro σ_100 _ ⟨hσ_100, frσ_100, g150, gq, g151⟩
              have hr0 : RWp (σ kR_plan) (σ_57 kR_planAt 0) 0 (σ_100 kR_planAt 0) (σ_57 kR_pointAt 0) (σ_100 kR_pointAt 0) := by
                rw [gq, show σ_100 kR_planAt 0 = σ_57 kR_planAt 0 + 2 by omega]
                exact RW_0 ho hx68 hx71
              refine wp_bd (P := fun rr_ => II rr_.2 ∧ FR [kR_planAt, kR_pointAt, kR_result, kR_resultMany, kR_thrown] σ rr_.2 ∧ (FLw σ slot_0 (rr_.2 kR_planAt 0) (rr_.2 kR_pointAt 0)) ∧ (rr_.2 kR_resultMany 0 ≤ σ_57 kR_resultMany 0 + 11 * (rr_.2 kR_planAt 0 - σ_57 kR_planAt 0) + 16 * (rr_.2 kR_pointAt 0 - σ_57 kR_pointAt 0)) ∧ (σ_57 kR_planAt 0 + 2 ≤ rr_.2 kR_planAt 0)) ?_ ?_
              · have c152 := ii_kR_planAt hσ_100 0
                have c153 := ii_kR_pointAt hσ_57 0
                have c154 := ii_kR_pointAt hσ_100 0
                have c155 := ii_kR_resultMany hσ_100 0
                refine wp_whl (fun ss_ => II ss_.2 ∧ FR [kR_planAt, kR_pointAt, kR_result, kR_resultMany, kR_thrown] σ ss_.2 ∧ (RWp (σ kR_plan) (σ_57 kR_planAt 0) ss_.1 (ss_.2 kR_planAt 0) (σ_57 kR_pointAt 0) (ss_.2 kR_pointAt 0)) ∧ (ss_.2 kR_resultMany 0 ≤ σ_57 kR_resultMany 0 + 9 + 4 * ss_.1 + 16 * (ss_.2 kR_pointAt 0 - σ_57 kR_pointAt 0))) (fun ss_ => (4096 - ss_.1).toNat) ⟨hσ_100, frσ_100, (by (try dsimp only) <;> (first | exact hr0 | exact r1x)), (by (try dsimp only) <;> first | assumption | omega | ((try simp (disch := omega) only [w32_of, w64_of, w8_of]) <;> first | assumption | omega | (split <;> omega) | (refine And.intro ?_ ?_ <;> split <;> omega)) | omega)⟩ ?_
                rintro ⟨k_101, σ_102⟩ y157
                try dsimp only at y157 ⊢
                obtain ⟨hσ_102, frσ_102, gr, g156⟩ := y157
                have hrl := RW_le ho gr
                have c159 := w32_rng k_101
                refine wp_if (fun c158 => ?_) (fun c158 => ?_)
                · try simp (disch := omega) only [w32_of, w64_of, w8_of, decide_eq_true_eq, decide_eq_false_iff_not, Bool.not_eq_true] at c158
                  obtain ⟨r1, r2, r3, r4, r5, r6⟩ := RW_go ho gr (by omega) (by omega)
                  have c160 := ii_kR_planAt hσ_102 0
                  refine wp_bd (v_next (σ := σ_102) hσ_102 (by (try dsimp only) <;> first | assumption | omega | ((try simp (disch := omega) only [w32_of, w64_of, w8_of]) <;> first | assumption | omega | (split <;> omega) | (refine And.intro ?_ ?_ <;> split <;> omega)) | omega)) ?_
                  rintro ⟨x_112, σ_111⟩ - y161
                  try dsimp only at y161 ⊢
                  obtain ⟨hσ_111, flσ_111, n5, n6⟩ := y161
                  have frσ_111 : FR [kR_planAt, kR_pointAt, kR_result, kR_resultMany, kR_thrown] σ σ_111 := FR_tr frσ_102 flσ_111 (by decide) (by decide)
                  have c162 := ii_kR_planAt hσ_111 0
                  try simp (disch := omega) only [w32_of, w64_of, w8_of] at n5
                  have c163 := FR_at frσ_102 (c := kR_plan) (by decide) (σ_102 kR_planAt 0)
                  try simp (disch := omega) only [w32_of, w64_of, w8_of] at n6
                  have hx112 : x_112 = σ kR_plan (σ_102 kR_planAt 0) := n6.trans (FR_at frσ_102 (c := kR_plan) (by decide) _)
                  have pb111 : σ_111 kR_pointAt 0 = σ_102 kR_pointAt 0 := FR_at flσ_111 (c := kR_pointAt) (by decide) 0
                  have rm111 : σ_111 kR_resultMany 0 = σ_102 kR_resultMany 0 := FR_at flσ_111 (c := kR_resultMany) (by decide) 0
                  have c164 := w32_rng x_112
                  have c165 := ii_kR_resultMany hσ_111 0
                  have c166 := FR_at flσ_111 (c := kR_resultMany) (by decide) 0
                  have c167 := ii_kR_resultMany hσ_102 0
                  refine wp_bd (v_putBytes (σ := σ_111) (v_0 := (w32 x_112)) (n_0 := 4) (order_0 := order_0) hσ_111 (by (try dsimp only) <;> first | assumption | omega | ((try simp (disch := omega) only [w32_of, w64_of, w8_of]) <;> first | assumption | omega | (split <;> omega) | (refine And.intro ?_ ?_ <;> split <;> omega)) | omega) (by (try dsimp only) <;> first | assumption | omega | ((try simp (disch := omega) only [w32_of, w64_of, w8_of]) <;> first | assumption | omega | (split <;> omega) | (refine And.intro ?_ ?_ <;> split <;> omega)) | omega) (by (try dsimp only) <;> first | assumption | omega | ((try simp (disch := omega) only [w32_of, w64_of, w8_of]) <;> first | assumption | omega | (split <;> omega) | (refine And.intro ?_ ?_ <;> split <;> omega)) | omega)) ?_
                  rintro σ_114 - ⟨hσ_114, flσ_114, g168⟩
                  have frσ_114 : FR [kR_planAt, kR_pointAt, kR_result, kR_resultMany, kR_thrown] σ σ_114 := FR_tr frσ_111 flσ_114 (by decide) (by decide)
                  have c169 := ii_kR_resultMany hσ_114 0
                  try simp (disch := omega) only [w32_of, w64_of, w8_of] at g168
                  have pb114 : σ_114 kR_pointAt 0 = σ_102 kR_pointAt 0 := (FR_at flσ_114 (c := kR_pointAt) (by decide) 0).trans pb111
                  have c170 := ii_kR_pointAt hσ_114 0
                  have c171 := FR_at flσ_114 (c := kR_pointAt) (by decide) 0
                  have c172 := ii_kR_pointAt hσ_111 0
                  have c173 := FR_at flσ_111 (c := kR_pointAt) (by decide) 0
                  have c174 := ii_kR_pointAt hσ_102 0
                  refine wp_bd (v_putPoints (σ := σ_114) (n_0 := x_112) (order_0 := order_0) hσ_114 (by (try dsimp only) <;> first | assumption | omega | ((try simp (disch := omega) only [w32_of, w64_of, w8_of]) <;> first | assumption | omega | (split <;> omega) | (refine And.intro ?_ ?_ <;> split <;> omega)) | omega) (by (try dsimp only) <;> first | assumption | omega | ((try simp (disch := omega) only [w32_of, w64_of, w8_of]) <;> first | assumption | omega | (split <;> omega) | (refine And.intro ?_ ?_ <;> split <;> omega)) | omega) (by (try dsimp only) <;> first | assumption | omega | ((try simp (disch := omega) only [w32_of, w64_of, w8_of]) <;> first | assumption | omega | (split <;> omega) | (refine And.intro ?_ ?_ <;> split <;> omega)) | omega) (by (try dsimp only) <;> first | assumption | omega | ((try simp (disch := omega) only [w32_of, w64_of, w8_of]) <;> first | assumption | omega | (split <;> omega) | (refine And.intro ?_ ?_ <;> split <;> omega)) | omega)) ?_
                  rintro σ_116 - ⟨hσ_116, flσ_116, g175, g176⟩
                  have frσ_116 : FR [kR_planAt, kR_pointAt, kR_result, kR_resultMany, kR_thrown] σ σ_116 := FR_tr frσ_114 flσ_116 (by decide) (by decide)
                  have c177 := ii_kR_pointAt hσ_116 0
                  try simp (disch := omega) only [w32_of, w64_of, w8_of] at g175
                  have c178 := ii_kR_resultMany hσ_116 0
                  try simp (disch := omega) only [w32_of, w64_of, w8_of] at g176
                  have pa116 : σ_116 kR_planAt 0 = σ_102 kR_planAt 0 + 1 := (FR_at flσ_116 (c := kR_planAt) (by decide) 0).trans ((FR_at flσ_114 (c := kR_planAt) (by decide) 0).trans n5)
                  have r1x : RWp (σ kR_plan) (σ_57 kR_planAt 0) (k_101 + 1) (σ_116 kR_planAt 0) (σ_57 kR_pointAt 0) (σ_116 kR_pointAt 0) := by
                    rw [pa116, show σ_116 kR_pointAt 0 = σ_102 kR_pointAt 0 + σ kR_plan (σ_102 kR_planAt 0) by omega]; exact r1
                  have c179 := ii_kR_planAt hσ_116 0
                  have c180 := FR_at flσ_116 (c := kR_planAt) (by decide) 0
                  have c181 := ii_kR_planAt hσ_114 0
                  have c182 := FR_at flσ_114 (c := kR_planAt) (by decide) 0
                  exact wp_some (x_inl ⟨⟨hσ_116, frσ_116, (by (try dsimp only) <;> (first | exact hr0 | exact r1x)), (by (try dsimp only) <;> first | assumption | omega | ((try simp (disch := omega) only [w32_of, w64_of, w8_of]) <;> first | assumption | omega | (split <;> omega) | (refine And.intro ?_ ?_ <;> split <;> omega)) | omega)⟩, (by (try dsimp only) <;> first | assumption | omega | ((try simp (disch := omega) only [w32_of, w64_of, w8_of]) <;> first | assumption | omega | (split <;> omega) | (refine And.intro ?_ ?_ <;> split <;> omega)) | omega)⟩)
                · try simp (disch := omega) only [w32_of, w64_of, w8_of, decide_eq_true_eq, decide_eq_false_iff_not, Bool.not_eq_true] at c158
                  obtain ⟨r1, r2⟩ := RW_end ho gr (by omega)
                  have c183 := ii_kR_planAt hσ_102 0
                  have c184 := ii_kR_pointAt hσ_102 0
                  have c185 := ii_kR_resultMany hσ_102 0
                  exact wp_some (x_inr ⟨hσ_102, frσ_102, (by (try dsimp only) <;> (rw [r1, r2]; exact hn)), (by (try dsimp only) <;> first | assumption | omega | ((try simp (disch := omega) only [w32_of, w64_of, w8_of]) <;> first | assumption | omega | (split <;> omega) | (refine And.intro ?_ ?_ <;> split <;> omega)) | omega), (by (try dsimp only) <;> first | assumption | omega | ((try simp (disch := omega) only [w32_of, w64_of, w8_of]) <;> first | assumption | omega | (split <;> omega) | (refine And.intro ?_ ?_ <;> split <;> omega)) | omega)⟩)
              rintro ⟨k_126, σ_127⟩ _ y188
              try dsimp only at y188 ⊢
              obtain ⟨hσ_127, frσ_127, gw2, g186, g187⟩ := y188
              have c189 := ii_kR_planAt hσ_127 0
              have c190 := ii_kR_pointAt hσ_127 0
              have c191 := ii_kR_resultMany hσ_127 0
              exact wp_some (x_inl ⟨⟨hσ_127, frσ_127, (by (try dsimp only) <;> (first | exact gw2 | (rw [pa54, pb54]; exact FLw_0 (w0 _ (by omega) (by omega))))), (by (try dsimp only) <;> first | assumption | omega | ((try simp (disch := omega) only [w32_of, w64_of, w8_of]) <;> first | assumption | omega | (split <;> omega) | (refine And.intro ?_ ?_ <;> split <;> omega)) | omega)⟩, (by (try dsimp only) <;> first | assumption | omega | ((try simp (disch := omega) only [w32_of, w64_of, w8_of]) <;> first | assumption | omega | (split <;> omega) | (refine And.intro ?_ ?_ <;> split <;> omega)) | omega)⟩)
          · try simp (disch := omega) only [w32_of, w64_of, w8_of, decide_eq_true_eq, decide_eq_false_iff_not, Bool.not_eq_true] at c51
            exact wp_some (x_inr ⟨hσ_57, frσ_57⟩)
        rintro σ_140 _ ⟨hσ_140, frσ_140⟩
        exact wp_some ⟨hσ_140, frσ_140⟩
    · have k192 := fun q => c14 (g8.mpr q)
      try simp (disch := omega) only [w32_of, w64_of, w8_of] at k192
      try simp (disch := omega) only [w32_of, w64_of, w8_of, decide_eq_true_eq, decide_eq_false_iff_not, Bool.not_eq_true] at c14
      refine wp_somek ?_
      try dsimp only
      have c195 := ii_kR_thrown hσ_34 0
      refine wp_fails hσ_34 (by (try dsimp only) <;> first | assumption | omega | ((try simp (disch := omega) only [w32_of, w64_of, w8_of]) <;> first | assumption | omega | (split <;> omega) | (refine And.intro ?_ ?_ <;> split <;> omega)) | omega) (by decide) (fun σ_44 hσ_44 flσ_44 e193 e194 => ?_)
      try dsimp only
      have frσ_44 : FR [kR_planAt, kR_pointAt, kR_result, kR_resultMany, kR_thrown] σ σ_44 := FR_tr frσ_34 flσ_44 (by decide) (by decide)
      have k196 := e193 rfl
      refine wp_tt ?_
      exact wp_some ⟨hσ_44, frσ_44⟩
