theorem s_R_cutAt {σ : SG} {num_0 : Int} {den_0 : Int} (hσ : II σ) (w0 : -9000000000000000000 ≤ num_0 ∧ num_0 ≤ 9000000000000000000) (w1 : -9000000000000000000 ≤ den_0 ∧ den_0 ≤ 9000000000000000000) (w2 : ¬ den_0 = 0) (w3 : CUTs σ) (w4 : σ kR_cutsMany 0 < 5000) : wp_ (fR_cutAt σ num_0 den_0) (fun zz_ => II zz_ ∧ FR [kR_cutsMany, kR_partDen, kR_partNum] σ zz_ ∧ (CUTs zz_) ∧ (zz_ kR_cutsMany 0 = σ kR_cutsMany 0 + 1)) := by
  unfold fR_cutAt
  have c1 := ii_kR_cutsMany hσ 0
  have hw : w64 den_0 = den_0 := w64_of (by omega) (by omega)
  have hN : -9000000000000000000 ≤ (if den_0 < 0 then (-num_0) else num_0) ∧ (if den_0 < 0 then (-num_0) else num_0) ≤ 9000000000000000000 := by split <;> omega
  have hD : 0 < (if den_0 < 0 then (-den_0) else den_0) ∧ (if den_0 < 0 then (-den_0) else den_0) ≤ 9000000000000000000 := by split <;> omega
  refine wp_bd (P := fun rr_ => II rr_.2 ∧ FR [kR_cutsMany, kR_partDen, kR_partNum] σ rr_.2 ∧ (0 ≤ rr_.1 ∧ rr_.1 ≤ σ kR_cutsMany 0) ∧ (rr_.2 kR_cutsMany 0 = σ kR_cutsMany 0) ∧ (CUx rr_.2 (σ kR_cutsMany 0) rr_.1)) ?_ ?_
  · refine wp_whl (fun ss_ => II ss_.2 ∧ FR [kR_cutsMany, kR_partDen, kR_partNum] σ ss_.2 ∧ (0 ≤ ss_.1 ∧ ss_.1 ≤ σ kR_cutsMany 0) ∧ (ss_.2 kR_cutsMany 0 = σ kR_cutsMany 0) ∧ (CUx ss_.2 (σ kR_cutsMany 0) ss_.1)) (fun ss_ => ss_.1.toNat) ⟨hσ, (FR_refl _ _), (by (try dsimp only) <;> first | assumption | omega | ((try simp (disch := omega) only [w32_of, w64_of, w8_of]) <;> first | assumption | omega | (split <;> omega) | (refine And.intro ?_ ?_ <;> split <;> omega)) | omega), (by (try dsimp only) <;> (first | rfl | (rw [eσ_38, sg_nc (by decide), eσ_34, sg_nc (by decide), gm]))), (by (try dsimp only) <;> (first | exact CUx_0 w3 | exact CUx_mv (σ := σ_4) (τ := σ_34) (υ := σ_38) (k := k_3) (by rw [← e_x_32]; exact eσ_34) (by rw [← e_x_36]; exact eσ_38) gc (by omega) (by omega)))⟩ ?_
    rintro ⟨k_3, σ_4⟩ y3
    try dsimp only at y3 ⊢
    obtain ⟨hσ_4, frσ_4, g2, gm, gc⟩ := y3
    have c5 := w32_rng k_3
    refine wp_if (fun c4 => ?_) (fun c4 => ?_)
    · try simp (disch := omega) only [w32_of, w64_of, w8_of, decide_eq_true_eq, decide_eq_false_iff_not, Bool.not_eq_true] at c4
      have c6 := w32_rng (k_3 - 1)
      refine wp_rdI (by (try dsimp only) <;> first | assumption | omega | ((try simp (disch := omega) only [w32_of, w64_of, w8_of]) <;> first | assumption | omega | (split <;> omega) | (refine And.intro ?_ ?_ <;> split <;> omega)) | omega) (by (try dsimp only) <;> first | assumption | omega | ((try simp (disch := omega) only [w32_of, w64_of, w8_of]) <;> first | assumption | omega | (split <;> omega) | (refine And.intro ?_ ?_ <;> split <;> omega)) | omega) (fun x_25 e_x_25 => ?_)
      try simp (disch := omega) only [w32_of, w64_of, w8_of] at e_x_25
      have hcg := gc (k_3 - 1) (by omega) (by omega) (by omega)
      unfold CUg at hcg
      rw [← e_x_25] at hcg
      refine wp_rdI (by (try dsimp only) <;> first | assumption | omega | ((try simp (disch := omega) only [w32_of, w64_of, w8_of]) <;> first | assumption | omega | (split <;> omega) | (refine And.intro ?_ ?_ <;> split <;> omega)) | omega) (by (try dsimp only) <;> first | assumption | omega | ((try simp (disch := omega) only [w32_of, w64_of, w8_of]) <;> first | assumption | omega | (split <;> omega) | (refine And.intro ?_ ?_ <;> split <;> omega)) | omega) (fun x_27 e_x_27 => ?_)
      try simp (disch := omega) only [w32_of, w64_of, w8_of] at e_x_27
      rw [← e_x_27] at hcg
      have c7 := w64_rng den_0
      refine wp_bd (s_R_order (a_0 := (if ((w64 den_0) < 0) then (-num_0) else num_0)) (b_0 := (if ((w64 den_0) < 0) then (-den_0) else den_0)) (c_0 := x_25) (d_0 := x_27) (by rw [w64_of (by omega) (by omega)]; omega) (by rw [w64_of (by omega) (by omega)]; omega)) ?_
      rintro x_30 - -
      have c10 := w32_rng x_30
      refine wp_if (fun c9 => ?_) (fun c9 => ?_)
      · try simp (disch := omega) only [w32_of, w64_of, w8_of, decide_eq_true_eq, decide_eq_false_iff_not, Bool.not_eq_true] at c9
        refine wp_rdI (by (try dsimp only) <;> first | assumption | omega | ((try simp (disch := omega) only [w32_of, w64_of, w8_of]) <;> first | assumption | omega | (split <;> omega) | (refine And.intro ?_ ?_ <;> split <;> omega)) | omega) (by (try dsimp only) <;> first | assumption | omega | ((try simp (disch := omega) only [w32_of, w64_of, w8_of]) <;> first | assumption | omega | (split <;> omega) | (refine And.intro ?_ ?_ <;> split <;> omega)) | omega) (fun x_32 e_x_32 => ?_)
        try simp (disch := omega) only [w32_of, w64_of, w8_of] at e_x_32
        refine wp_waN hσ_4 b_kR_partNum (by (try dsimp only) <;> first | assumption | omega | ((try simp (disch := omega) only [w32_of, w64_of, w8_of]) <;> first | assumption | omega | (split <;> omega) | (refine And.intro ?_ ?_ <;> split <;> omega)) | omega) (by (try dsimp only) <;> first | assumption | omega | ((try simp (disch := omega) only [w32_of, w64_of, w8_of]) <;> first | assumption | omega | (split <;> omega) | (refine And.intro ?_ ?_ <;> split <;> omega)) | omega) (fun σ_34 hσ_34 eσ_34 => ?_)
        try simp (disch := omega) only [w32_of, w64_of, w8_of] at eσ_34
        have flσ_34 := FR_sg eσ_34
        have frσ_34 : FR [kR_cutsMany, kR_partDen, kR_partNum] σ σ_34 := FR_tr frσ_4 flσ_34 (by decide) (by decide)
        refine wp_rdI (by (try dsimp only) <;> first | assumption | omega | ((try simp (disch := omega) only [w32_of, w64_of, w8_of]) <;> first | assumption | omega | (split <;> omega) | (refine And.intro ?_ ?_ <;> split <;> omega)) | omega) (by (try dsimp only) <;> first | assumption | omega | ((try simp (disch := omega) only [w32_of, w64_of, w8_of]) <;> first | assumption | omega | (split <;> omega) | (refine And.intro ?_ ?_ <;> split <;> omega)) | omega) (fun x_36 e_x_36 => ?_)
        try simp (disch := omega) only [w32_of, w64_of, w8_of] at e_x_36
        have c11 := FR_at flσ_34 (c := kR_partDen) (by decide) (k_3 - 1)
        refine wp_waN hσ_34 b_kR_partDen (by (try dsimp only) <;> first | assumption | omega | ((try simp (disch := omega) only [w32_of, w64_of, w8_of]) <;> first | assumption | omega | (split <;> omega) | (refine And.intro ?_ ?_ <;> split <;> omega)) | omega) (by (try dsimp only) <;> first | assumption | omega | ((try simp (disch := omega) only [w32_of, w64_of, w8_of]) <;> first | assumption | omega | (split <;> omega) | (refine And.intro ?_ ?_ <;> split <;> omega)) | omega) (fun σ_38 hσ_38 eσ_38 => ?_)
        try simp (disch := omega) only [w32_of, w64_of, w8_of] at eσ_38
        have flσ_38 := FR_sg eσ_38
        have frσ_38 : FR [kR_cutsMany, kR_partDen, kR_partNum] σ σ_38 := FR_tr frσ_34 flσ_38 (by decide) (by decide)
        have c12 := ii_kR_cutsMany hσ_38 0
        have c13 := FR_at flσ_38 (c := kR_cutsMany) (by decide) 0
        have c14 := ii_kR_cutsMany hσ_34 0
        have c15 := FR_at flσ_34 (c := kR_cutsMany) (by decide) 0
        have c16 := ii_kR_cutsMany hσ_4 0
        exact wp_some (x_inl ⟨⟨hσ_38, frσ_38, (by (try dsimp only) <;> first | assumption | omega | ((try simp (disch := omega) only [w32_of, w64_of, w8_of]) <;> first | assumption | omega | (split <;> omega) | (refine And.intro ?_ ?_ <;> split <;> omega)) | omega), (by (try dsimp only) <;> (first | rfl | (rw [eσ_38, sg_nc (by decide), eσ_34, sg_nc (by decide), gm]))), (by (try dsimp only) <;> (first | exact CUx_0 w3 | exact CUx_mv (σ := σ_4) (τ := σ_34) (υ := σ_38) (k := k_3) (by rw [← e_x_32]; exact eσ_34) (by rw [← e_x_36]; exact eσ_38) gc (by omega) (by omega)))⟩, (by (try dsimp only) <;> first | assumption | omega | ((try simp (disch := omega) only [w32_of, w64_of, w8_of]) <;> first | assumption | omega | (split <;> omega) | (refine And.intro ?_ ?_ <;> split <;> omega)) | omega)⟩)
      · try simp (disch := omega) only [w32_of, w64_of, w8_of, decide_eq_true_eq, decide_eq_false_iff_not, Bool.not_eq_true] at c9
        have c17 := ii_kR_cutsMany hσ_4 0
        exact wp_some (x_inr ⟨hσ_4, frσ_4, (by (try dsimp only) <;> first | assumption | omega | ((try simp (disch := omega) only [w32_of, w64_of, w8_of]) <;> first | assumption | omega | (split <;> omega) | (refine And.intro ?_ ?_ <;> split <;> omega)) | omega), (by (try dsimp only) <;> (exact gm)), (by (try dsimp only) <;> (exact gc))⟩)
    · try simp (disch := omega) only [w32_of, w64_of, w8_of, decide_eq_true_eq, decide_eq_false_iff_not, Bool.not_eq_true] at c4
      have c18 := ii_kR_cutsMany hσ_4 0
      exact wp_some (x_inr ⟨hσ_4, frσ_4, (by (try dsimp only) <;> first | assumption | omega | ((try simp (disch := omega) only [w32_of, w64_of, w8_of]) <;> first | assumption | omega | (split <;> omega) | (refine And.intro ?_ ?_ <;> split <;> omega)) | omega), (by (try dsimp only) <;> (exact gm)), (by (try dsimp only) <;> (exact gc))⟩)
  rintro ⟨k_43, σ_44⟩ _ y20
  try dsimp only at y20 ⊢
  obtain ⟨hσ_44, frσ_44, g19, gm, gc⟩ := y20
  have c21 := w64_rng den_0
  have c22 := w32_rng k_43
  refine wp_waN hσ_44 b_kR_partNum (by (try dsimp only) <;> first | assumption | omega | ((try simp (disch := omega) only [w32_of, w64_of, w8_of]) <;> first | assumption | omega | (split <;> omega) | (refine And.intro ?_ ?_ <;> split <;> omega)) | omega) (by (try dsimp only) <;> first | assumption | omega | ((try simp (disch := omega) only [w32_of, w64_of, w8_of]) <;> first | assumption | omega | (split <;> omega) | (refine And.intro ?_ ?_ <;> split <;> omega)) | omega) (fun σ_45 hσ_45 eσ_45 => ?_)
  try simp (disch := omega) only [w32_of, w64_of, w8_of] at eσ_45
  have flσ_45 := FR_sg eσ_45
  have frσ_45 : FR [kR_cutsMany, kR_partDen, kR_partNum] σ σ_45 := FR_tr frσ_44 flσ_45 (by decide) (by decide)
  refine wp_waN hσ_45 b_kR_partDen (by (try dsimp only) <;> first | assumption | omega | ((try simp (disch := omega) only [w32_of, w64_of, w8_of]) <;> first | assumption | omega | (split <;> omega) | (refine And.intro ?_ ?_ <;> split <;> omega)) | omega) (by (try dsimp only) <;> first | assumption | omega | ((try simp (disch := omega) only [w32_of, w64_of, w8_of]) <;> first | assumption | omega | (split <;> omega) | (refine And.intro ?_ ?_ <;> split <;> omega)) | omega) (fun σ_47 hσ_47 eσ_47 => ?_)
  try simp (disch := omega) only [w32_of, w64_of, w8_of] at eσ_47
  have flσ_47 := FR_sg eσ_47
  have frσ_47 : FR [kR_cutsMany, kR_partDen, kR_partNum] σ σ_47 := FR_tr frσ_45 flσ_47 (by decide) (by decide)
  have c23 := ii_kR_cutsMany hσ_47 0
  have c24 := FR_at flσ_47 (c := kR_cutsMany) (by decide) 0
  have c25 := ii_kR_cutsMany hσ_45 0
  have c26 := FR_at flσ_45 (c := kR_cutsMany) (by decide) 0
  have c27 := ii_kR_cutsMany hσ_44 0
  refine wp_wfI hσ_47 b_kR_cutsMany (by (try dsimp only) <;> first | assumption | omega | ((try simp (disch := omega) only [w32_of, w64_of, w8_of]) <;> first | assumption | omega | (split <;> omega) | (refine And.intro ?_ ?_ <;> split <;> omega)) | omega) (fun σ_49 hσ_49 eσ_49 => ?_)
  try simp (disch := omega) only [w32_of, w64_of, w8_of] at eσ_49
  have flσ_49 := FR_sg eσ_49
  have frσ_49 : FR [kR_cutsMany, kR_partDen, kR_partNum] σ σ_49 := FR_tr frσ_47 flσ_49 (by decide) (by decide)
  have c28 := ii_kR_cutsMany hσ_49 0
  have c29 := sg_val eσ_49
  exact wp_some ⟨hσ_49, frσ_49, (by (try dsimp only) <;> (exact CUx_end eσ_45 eσ_47 eσ_49 gm gc hN hD)), (by (try dsimp only) <;> (rw [eσ_49, sg_at, eσ_47, sg_nc (by decide), eσ_45, sg_nc (by decide), gm]))⟩
theorem s_R_cutAtPlace {σ : SG} {i_0 : Int} {x_0 : Int} {y_0 : Int} (hσ : II σ) (qi_0 : 0 ≤ i_0 ∧ i_0 ≤ 4199) (qx_0 : (-1000000000) ≤ x_0 ∧ x_0 ≤ 1000000000) (qy_0 : (-1000000000) ≤ y_0 ∧ y_0 ≤ 1000000000) (w0 : ND σ) (w1 : CUTs σ) (w2 : i_0 < σ kR_segments 0) (w3 : σ kR_cutsMany 0 < 5000) : wp_ (fR_cutAtPlace σ i_0 x_0 y_0) (fun zz_ => II zz_ ∧ FR [kR_cutsMany, kR_partDen, kR_partNum] σ zz_ ∧ (CUTs zz_) ∧ (zz_ kR_cutsMany 0 = σ kR_cutsMany 0 + 1)) := by
  unfold fR_cutAtPlace
  have c1 := ii_kR_segments hσ 0
  have c2 := ii_kR_cutsMany hσ 0
  have nd := w0 i_0 (by omega) (by omega)
  refine wp_bd (P := fun rr_ => II rr_ ∧ FR [kR_cutsMany, kR_partDen, kR_partNum] σ rr_ ∧ (CUTs rr_) ∧ (rr_ kR_cutsMany 0 = σ kR_cutsMany 0 + 1)) ?_ ?_
  · have c3 := w32_rng i_0
    refine wp_rdI (by (try dsimp only) <;> first | assumption | omega | ((try simp (disch := omega) only [w32_of, w64_of, w8_of]) <;> first | assumption | omega | (split <;> omega) | (refine And.intro ?_ ?_ <;> split <;> omega)) | omega) (by (try dsimp only) <;> first | assumption | omega | ((try simp (disch := omega) only [w32_of, w64_of, w8_of]) <;> first | assumption | omega | (split <;> omega) | (refine And.intro ?_ ?_ <;> split <;> omega)) | omega) (fun x_5 e_x_5 => ?_)
    have b_x_5 : (-1000000000) ≤ x_5 ∧ x_5 ≤ 1000000000 := by rw [e_x_5]; exact ii_kR_ex hσ _
    try simp (disch := omega) only [w32_of, w64_of, w8_of] at e_x_5
    have c4 := ii_kR_ex hσ i_0
    refine wp_rdI (by (try dsimp only) <;> first | assumption | omega | ((try simp (disch := omega) only [w32_of, w64_of, w8_of]) <;> first | assumption | omega | (split <;> omega) | (refine And.intro ?_ ?_ <;> split <;> omega)) | omega) (by (try dsimp only) <;> first | assumption | omega | ((try simp (disch := omega) only [w32_of, w64_of, w8_of]) <;> first | assumption | omega | (split <;> omega) | (refine And.intro ?_ ?_ <;> split <;> omega)) | omega) (fun x_7 e_x_7 => ?_)
    have b_x_7 : (-1000000000) ≤ x_7 ∧ x_7 ≤ 1000000000 := by rw [e_x_7]; exact ii_kR_sx hσ _
    try simp (disch := omega) only [w32_of, w64_of, w8_of] at e_x_7
    have c5 := ii_kR_sx hσ i_0
    have c7 := w64_rng x_5
    have c8 := w64_rng x_7
    refine wp_if (fun c6 => ?_) (fun c6 => ?_)
    · try simp (disch := omega) only [w32_of, w64_of, w8_of, decide_eq_true_eq, decide_eq_false_iff_not, Bool.not_eq_true] at c6
      refine wp_rdI (by (try dsimp only) <;> first | assumption | omega | ((try simp (disch := omega) only [w32_of, w64_of, w8_of]) <;> first | assumption | omega | (split <;> omega) | (refine And.intro ?_ ?_ <;> split <;> omega)) | omega) (by (try dsimp only) <;> first | assumption | omega | ((try simp (disch := omega) only [w32_of, w64_of, w8_of]) <;> first | assumption | omega | (split <;> omega) | (refine And.intro ?_ ?_ <;> split <;> omega)) | omega) (fun x_10 e_x_10 => ?_)
      have b_x_10 : (-1000000000) ≤ x_10 ∧ x_10 ≤ 1000000000 := by rw [e_x_10]; exact ii_kR_sx hσ _
      try simp (disch := omega) only [w32_of, w64_of, w8_of] at e_x_10
      refine wp_rdI (by (try dsimp only) <;> first | assumption | omega | ((try simp (disch := omega) only [w32_of, w64_of, w8_of]) <;> first | assumption | omega | (split <;> omega) | (refine And.intro ?_ ?_ <;> split <;> omega)) | omega) (by (try dsimp only) <;> first | assumption | omega | ((try simp (disch := omega) only [w32_of, w64_of, w8_of]) <;> first | assumption | omega | (split <;> omega) | (refine And.intro ?_ ?_ <;> split <;> omega)) | omega) (fun x_12 e_x_12 => ?_)
      have b_x_12 : (-1000000000) ≤ x_12 ∧ x_12 ≤ 1000000000 := by rw [e_x_12]; exact ii_kR_ex hσ _
      try simp (disch := omega) only [w32_of, w64_of, w8_of] at e_x_12
      refine wp_rdI (by (try dsimp only) <;> first | assumption | omega | ((try simp (disch := omega) only [w32_of, w64_of, w8_of]) <;> first | assumption | omega | (split <;> omega) | (refine And.intro ?_ ?_ <;> split <;> omega)) | omega) (by (try dsimp only) <;> first | assumption | omega | ((try simp (disch := omega) only [w32_of, w64_of, w8_of]) <;> first | assumption | omega | (split <;> omega) | (refine And.intro ?_ ?_ <;> split <;> omega)) | omega) (fun x_14 e_x_14 => ?_)
      have b_x_14 : (-1000000000) ≤ x_14 ∧ x_14 ≤ 1000000000 := by rw [e_x_14]; exact ii_kR_sx hσ _
      try simp (disch := omega) only [w32_of, w64_of, w8_of] at e_x_14
      refine wp_bd (s_R_cutAt (σ := σ) (num_0 := (x_0 - x_10)) (den_0 := (x_12 - x_14)) hσ (by (try dsimp only) <;> first | assumption | omega | ((try simp (disch := omega) only [w32_of, w64_of, w8_of]) <;> first | assumption | omega | (split <;> omega) | (refine And.intro ?_ ?_ <;> split <;> omega)) | omega) (by (try dsimp only) <;> first | assumption | omega | ((try simp (disch := omega) only [w32_of, w64_of, w8_of]) <;> first | assumption | omega | (split <;> omega) | (refine And.intro ?_ ?_ <;> split <;> omega)) | omega) (by (try dsimp only) <;> first | assumption | omega | ((try simp (disch := omega) only [w32_of, w64_of, w8_of]) <;> first | assumption | omega | (split <;> omega) | (refine And.intro ?_ ?_ <;> split <;> omega)) | omega) w1 (by (try dsimp only) <;> first | assumption | omega | ((try simp (disch := omega) only [w32_of, w64_of, w8_of]) <;> first | assumption | omega | (split <;> omega) | (refine And.intro ?_ ?_ <;> split <;> omega)) | omega)) ?_
      rintro σ_17 - ⟨hσ_17, flσ_17, g9, g10⟩
      have frσ_17 : FR [kR_cutsMany, kR_partDen, kR_partNum] σ σ_17 := FR_le flσ_17 (by decide)
      try simp (disch := omega) only [w32_of, w64_of, w8_of] at g9
      have c11 := ii_kR_cutsMany hσ_17 0
      try simp (disch := omega) only [w32_of, w64_of, w8_of] at g10
      exact wp_some ⟨hσ_17, frσ_17, g9, (by (try dsimp only) <;> first | assumption | omega | ((try simp (disch := omega) only [w32_of, w64_of, w8_of]) <;> first | assumption | omega | (split <;> omega) | (refine And.intro ?_ ?_ <;> split <;> omega)) | omega)⟩
    · try simp (disch := omega) only [w32_of, w64_of, w8_of, decide_eq_true_eq, decide_eq_false_iff_not, Bool.not_eq_true] at c6
      refine wp_rdI (by (try dsimp only) <;> first | assumption | omega | ((try simp (disch := omega) only [w32_of, w64_of, w8_of]) <;> first | assumption | omega | (split <;> omega) | (refine And.intro ?_ ?_ <;> split <;> omega)) | omega) (by (try dsimp only) <;> first | assumption | omega | ((try simp (disch := omega) only [w32_of, w64_of, w8_of]) <;> first | assumption | omega | (split <;> omega) | (refine And.intro ?_ ?_ <;> split <;> omega)) | omega) (fun x_19 e_x_19 => ?_)
      have b_x_19 : (-1000000000) ≤ x_19 ∧ x_19 ≤ 1000000000 := by rw [e_x_19]; exact ii_kR_sy hσ _
      try simp (disch := omega) only [w32_of, w64_of, w8_of] at e_x_19
      have c12 := ii_kR_sy hσ i_0
      refine wp_rdI (by (try dsimp only) <;> first | assumption | omega | ((try simp (disch := omega) only [w32_of, w64_of, w8_of]) <;> first | assumption | omega | (split <;> omega) | (refine And.intro ?_ ?_ <;> split <;> omega)) | omega) (by (try dsimp only) <;> first | assumption | omega | ((try simp (disch := omega) only [w32_of, w64_of, w8_of]) <;> first | assumption | omega | (split <;> omega) | (refine And.intro ?_ ?_ <;> split <;> omega)) | omega) (fun x_21 e_x_21 => ?_)
      have b_x_21 : (-1000000000) ≤ x_21 ∧ x_21 ≤ 1000000000 := by rw [e_x_21]; exact ii_kR_ey hσ _
      try simp (disch := omega) only [w32_of, w64_of, w8_of] at e_x_21
      have c13 := ii_kR_ey hσ i_0
      refine wp_rdI (by (try dsimp only) <;> first | assumption | omega | ((try simp (disch := omega) only [w32_of, w64_of, w8_of]) <;> first | assumption | omega | (split <;> omega) | (refine And.intro ?_ ?_ <;> split <;> omega)) | omega) (by (try dsimp only) <;> first | assumption | omega | ((try simp (disch := omega) only [w32_of, w64_of, w8_of]) <;> first | assumption | omega | (split <;> omega) | (refine And.intro ?_ ?_ <;> split <;> omega)) | omega) (fun x_23 e_x_23 => ?_)
      have b_x_23 : (-1000000000) ≤ x_23 ∧ x_23 ≤ 1000000000 := by rw [e_x_23]; exact ii_kR_sy hσ _
      try simp (disch := omega) only [w32_of, w64_of, w8_of] at e_x_23
      refine wp_bd (s_R_cutAt (σ := σ) (num_0 := (y_0 - x_19)) (den_0 := (x_21 - x_23)) hσ (by (try dsimp only) <;> first | assumption | omega | ((try simp (disch := omega) only [w32_of, w64_of, w8_of]) <;> first | assumption | omega | (split <;> omega) | (refine And.intro ?_ ?_ <;> split <;> omega)) | omega) (by (try dsimp only) <;> first | assumption | omega | ((try simp (disch := omega) only [w32_of, w64_of, w8_of]) <;> first | assumption | omega | (split <;> omega) | (refine And.intro ?_ ?_ <;> split <;> omega)) | omega) (by (try dsimp only) <;> first | assumption | omega | ((try simp (disch := omega) only [w32_of, w64_of, w8_of]) <;> first | assumption | omega | (split <;> omega) | (refine And.intro ?_ ?_ <;> split <;> omega)) | omega) w1 (by (try dsimp only) <;> first | assumption | omega | ((try simp (disch := omega) only [w32_of, w64_of, w8_of]) <;> first | assumption | omega | (split <;> omega) | (refine And.intro ?_ ?_ <;> split <;> omega)) | omega)) ?_
      rintro σ_26 - ⟨hσ_26, flσ_26, g14, g15⟩
      have frσ_26 : FR [kR_cutsMany, kR_partDen, kR_partNum] σ σ_26 := FR_le flσ_26 (by decide)
      try simp (disch := omega) only [w32_of, w64_of, w8_of] at g14
      have c16 := ii_kR_cutsMany hσ_26 0
      try simp (disch := omega) only [w32_of, w64_of, w8_of] at g15
      exact wp_some ⟨hσ_26, frσ_26, g14, (by (try dsimp only) <;> first | assumption | omega | ((try simp (disch := omega) only [w32_of, w64_of, w8_of]) <;> first | assumption | omega | (split <;> omega) | (refine And.intro ?_ ?_ <;> split <;> omega)) | omega)⟩
  rintro σ_28 _ ⟨hσ_28, frσ_28, g17, g18⟩
  have c19 := ii_kR_cutsMany hσ_28 0
  exact wp_some ⟨hσ_28, frσ_28, g17, (by (try dsimp only) <;> first | assumption | omega | ((try simp (disch := omega) only [w32_of, w64_of, w8_of]) <;> first | assumption | omega | (split <;> omega) | (refine And.intro ?_ ?_ <;> split <;> omega)) | omega)⟩
theorem s_R_cutBy {σ : SG} {i_0 : Int} {j_0 : Int} (hσ : II σ) (qi_0 : 0 ≤ i_0 ∧ i_0 ≤ 4199) (qj_0 : 0 ≤ j_0 ∧ j_0 ≤ 4199) (w0 : ND σ) (w1 : CUTs σ) (w2 : i_0 < σ kR_segments 0) (w3 : σ kR_cutsMany 0 + 2 ≤ 5000) : wp_ (fR_cutBy σ i_0 j_0) (fun zz_ => II zz_ ∧ FR [kR_cutsMany, kR_isInner, kR_meetX, kR_meetY, kR_partDen, kR_partNum] σ zz_ ∧ (CUTs zz_) ∧ (zz_ kR_cutsMany 0 ≤ σ kR_cutsMany 0 + 2)) := by
  unfold fR_cutBy
  have c1 := ii_kR_segments hσ 0
  have c2 := ii_kR_cutsMany hσ 0
  refine wp_bd (v_meetC (σ := σ) (i_0 := i_0) (j_0 := j_0) hσ (by (try dsimp only) <;> first | assumption | omega | ((try simp (disch := omega) only [w32_of, w64_of, w8_of]) <;> first | assumption | omega | (split <;> omega) | (refine And.intro ?_ ?_ <;> split <;> omega)) | omega) (by (try dsimp only) <;> first | assumption | omega | ((try simp (disch := omega) only [w32_of, w64_of, w8_of]) <;> first | assumption | omega | (split <;> omega) | (refine And.intro ?_ ?_ <;> split <;> omega)) | omega)) ?_
  rintro ⟨x_3, σ_2⟩ - y3
  try dsimp only at y3 ⊢
  obtain ⟨hmr, hσ_2, flσ_2, hmx⟩ := y3
  have frσ_2 : FR [kR_cutsMany, kR_isInner, kR_meetX, kR_meetY, kR_partDen, kR_partNum] σ σ_2 := FR_le flσ_2 (by decide)
  try simp (disch := omega) only [w32_of, w64_of, w8_of] at hmr
  have c4 := ii_kR_isInner hσ_2 0
  have c5 := ii_kR_ex hσ i_0
  have c6 := ii_kR_sx hσ i_0
  have c7 := ii_kR_ey hσ i_0
  have c8 := ii_kR_sy hσ i_0
  have c9 := ii_kR_ex hσ j_0
  have c10 := ii_kR_sx hσ j_0
  have c11 := ii_kR_ey hσ j_0
  have c12 := ii_kR_sy hσ j_0
  try simp (disch := omega) only [w32_of, w64_of, w8_of] at hmx
  have c14 := w32_rng x_3
  refine wp_if (fun c13 => ?_) (fun c13 => ?_)
  · try simp (disch := omega) only [w32_of, w64_of, w8_of, decide_eq_true_eq, decide_eq_false_iff_not, Bool.not_eq_true] at c13
    have c15 := ii_kR_cutsMany hσ_2 0
    have c16 := FR_at flσ_2 (c := kR_cutsMany) (by decide) 0
    exact wp_some ⟨hσ_2, frσ_2, (CUTs_f flσ_2 (by decide) w1), (by (try dsimp only) <;> first | assumption | omega | ((try simp (disch := omega) only [w32_of, w64_of, w8_of]) <;> first | assumption | omega | (split <;> omega) | (refine And.intro ?_ ?_ <;> split <;> omega)) | omega)⟩
  · try simp (disch := omega) only [w32_of, w64_of, w8_of, decide_eq_true_eq, decide_eq_false_iff_not, Bool.not_eq_true] at c13
    refine wp_bd (P := fun rr_ => II rr_ ∧ FR [kR_cutsMany, kR_isInner, kR_meetX, kR_meetY, kR_partDen, kR_partNum] σ rr_ ∧ (CUTs rr_) ∧ (rr_ kR_cutsMany 0 ≤ σ kR_cutsMany 0 + 2)) ?_ ?_
    · refine wp_if (fun c17 => ?_) (fun c17 => ?_)
      · try simp (disch := omega) only [w32_of, w64_of, w8_of, decide_eq_true_eq, decide_eq_false_iff_not, Bool.not_eq_true] at c17
        refine wp_bd (P := fun rr_ => II rr_ ∧ FR [kR_cutsMany, kR_isInner, kR_meetX, kR_meetY, kR_partDen, kR_partNum] σ rr_ ∧ (CUTs rr_) ∧ (rr_ kR_cutsMany 0 ≤ σ kR_cutsMany 0 + 1)) ?_ ?_
        · have c18 := w32_rng j_0
          refine wp_rdI (by (try dsimp only) <;> first | assumption | omega | ((try simp (disch := omega) only [w32_of, w64_of, w8_of]) <;> first | assumption | omega | (split <;> omega) | (refine And.intro ?_ ?_ <;> split <;> omega)) | omega) (by (try dsimp only) <;> first | assumption | omega | ((try simp (disch := omega) only [w32_of, w64_of, w8_of]) <;> first | assumption | omega | (split <;> omega) | (refine And.intro ?_ ?_ <;> split <;> omega)) | omega) (fun x_14 e_x_14 => ?_)
          have b_x_14 : (-1000000000) ≤ x_14 ∧ x_14 ≤ 1000000000 := by rw [e_x_14]; exact ii_kR_sx hσ_2 _
          rw [FR_at frσ_2 (c := kR_sx) (by decide)] at e_x_14
          try simp (disch := omega) only [w32_of, w64_of, w8_of] at e_x_14
          have c19 := ii_kR_sx hσ_2 j_0
          have c20 := FR_at flσ_2 (c := kR_sx) (by decide) j_0
          refine wp_rdI (by (try dsimp only) <;> first | assumption | omega | ((try simp (disch := omega) only [w32_of, w64_of, w8_of]) <;> first | assumption | omega | (split <;> omega) | (refine And.intro ?_ ?_ <;> split <;> omega)) | omega) (by (try dsimp only) <;> first | assumption | omega | ((try simp (disch := omega) only [w32_of, w64_of, w8_of]) <;> first | assumption | omega | (split <;> omega) | (refine And.intro ?_ ?_ <;> split <;> omega)) | omega) (fun x_16 e_x_16 => ?_)
          have b_x_16 : (-1000000000) ≤ x_16 ∧ x_16 ≤ 1000000000 := by rw [e_x_16]; exact ii_kR_sy hσ_2 _
          rw [FR_at frσ_2 (c := kR_sy) (by decide)] at e_x_16
          try simp (disch := omega) only [w32_of, w64_of, w8_of] at e_x_16
          have c21 := ii_kR_sy hσ_2 j_0
          have c22 := FR_at flσ_2 (c := kR_sy) (by decide) j_0
          refine wp_bd (s_R_isOn (σ := σ_2) (i_0 := i_0) (x_0 := x_14) (y_0 := x_16) hσ_2 (by (try dsimp only) <;> first | assumption | omega | ((try simp (disch := omega) only [w32_of, w64_of, w8_of]) <;> first | assumption | omega | (split <;> omega) | (refine And.intro ?_ ?_ <;> split <;> omega)) | omega) (by (try dsimp only) <;> first | assumption | omega | ((try simp (disch := omega) only [w32_of, w64_of, w8_of]) <;> first | assumption | omega | (split <;> omega) | (refine And.intro ?_ ?_ <;> split <;> omega)) | omega) (by (try dsimp only) <;> first | assumption | omega | ((try simp (disch := omega) only [w32_of, w64_of, w8_of]) <;> first | assumption | omega | (split <;> omega) | (refine And.intro ?_ ?_ <;> split <;> omega)) | omega)) ?_
          rintro x_19 - -
          refine wp_if (fun c24 => ?_) (fun c24 => ?_)
          · try simp (disch := omega) only [w32_of, w64_of, w8_of, decide_eq_true_eq, decide_eq_false_iff_not, Bool.not_eq_true] at c24
            refine wp_rdI (by (try dsimp only) <;> first | assumption | omega | ((try simp (disch := omega) only [w32_of, w64_of, w8_of]) <;> first | assumption | omega | (split <;> omega) | (refine And.intro ?_ ?_ <;> split <;> omega)) | omega) (by (try dsimp only) <;> first | assumption | omega | ((try simp (disch := omega) only [w32_of, w64_of, w8_of]) <;> first | assumption | omega | (split <;> omega) | (refine And.intro ?_ ?_ <;> split <;> omega)) | omega) (fun x_21 e_x_21 => ?_)
            have b_x_21 : (-1000000000) ≤ x_21 ∧ x_21 ≤ 1000000000 := by rw [e_x_21]; exact ii_kR_sx hσ_2 _
            rw [FR_at frσ_2 (c := kR_sx) (by decide)] at e_x_21
            try simp (disch := omega) only [w32_of, w64_of, w8_of] at e_x_21
            refine wp_rdI (by (try dsimp only) <;> first | assumption | omega | ((try simp (disch := omega) only [w32_of, w64_of, w8_of]) <;> first | assumption | omega | (split <;> omega) | (refine And.intro ?_ ?_ <;> split <;> omega)) | omega) (by (try dsimp only) <;> first | assumption | omega | ((try simp (disch := omega) only [w32_of, w64_of, w8_of]) <;> first | assumption | omega | (split <;> omega) | (refine And.intro ?_ ?_ <;> split <;> omega)) | omega) (fun x_23 e_x_23 => ?_)
            have b_x_23 : (-1000000000) ≤ x_23 ∧ x_23 ≤ 1000000000 := by rw [e_x_23]; exact ii_kR_sy hσ_2 _
            rw [FR_at frσ_2 (c := kR_sy) (by decide)] at e_x_23
            try simp (disch := omega) only [w32_of, w64_of, w8_of] at e_x_23
            have c25 := ii_kR_segments hσ_2 0
            have c26 := FR_at flσ_2 (c := kR_segments) (by decide) 0
            have c27 := ii_kR_cutsMany hσ_2 0
            have c28 := FR_at flσ_2 (c := kR_cutsMany) (by decide) 0
            refine wp_bd (s_R_cutAtPlace (σ := σ_2) (i_0 := i_0) (x_0 := x_21) (y_0 := x_23) hσ_2 (by (try dsimp only) <;> first | assumption | omega | ((try simp (disch := omega) only [w32_of, w64_of, w8_of]) <;> first | assumption | omega | (split <;> omega) | (refine And.intro ?_ ?_ <;> split <;> omega)) | omega) (by (try dsimp only) <;> first | assumption | omega | ((try simp (disch := omega) only [w32_of, w64_of, w8_of]) <;> first | assumption | omega | (split <;> omega) | (refine And.intro ?_ ?_ <;> split <;> omega)) | omega) (by (try dsimp only) <;> first | assumption | omega | ((try simp (disch := omega) only [w32_of, w64_of, w8_of]) <;> first | assumption | omega | (split <;> omega) | (refine And.intro ?_ ?_ <;> split <;> omega)) | omega) (ND_f flσ_2 (by decide) w0) (CUTs_f flσ_2 (by decide) w1) (by (try dsimp only) <;> first | assumption | omega | ((try simp (disch := omega) only [w32_of, w64_of, w8_of]) <;> first | assumption | omega | (split <;> omega) | (refine And.intro ?_ ?_ <;> split <;> omega)) | omega) (by (try dsimp only) <;> first | assumption | omega | ((try simp (disch := omega) only [w32_of, w64_of, w8_of]) <;> first | assumption | omega | (split <;> omega) | (refine And.intro ?_ ?_ <;> split <;> omega)) | omega)) ?_
            rintro σ_26 - ⟨hσ_26, flσ_26, g29, g30⟩
            have frσ_26 : FR [kR_cutsMany, kR_isInner, kR_meetX, kR_meetY, kR_partDen, kR_partNum] σ σ_26 := FR_tr frσ_2 flσ_26 (by decide) (by decide)
            try simp (disch := omega) only [w32_of, w64_of, w8_of] at g29
            have c31 := ii_kR_cutsMany hσ_26 0
            try simp (disch := omega) only [w32_of, w64_of, w8_of] at g30
            exact wp_some ⟨hσ_26, frσ_26, g29, (by (try dsimp only) <;> first | assumption | omega | ((try simp (disch := omega) only [w32_of, w64_of, w8_of]) <;> first | assumption | omega | (split <;> omega) | (refine And.intro ?_ ?_ <;> split <;> omega)) | omega)⟩
          · try simp (disch := omega) only [w32_of, w64_of, w8_of, decide_eq_true_eq, decide_eq_false_iff_not, Bool.not_eq_true] at c24
            have c32 := ii_kR_cutsMany hσ_2 0
            have c33 := FR_at flσ_2 (c := kR_cutsMany) (by decide) 0
            exact wp_some ⟨hσ_2, frσ_2, (CUTs_f flσ_2 (by decide) w1), (by (try dsimp only) <;> first | assumption | omega | ((try simp (disch := omega) only [w32_of, w64_of, w8_of]) <;> first | assumption | omega | (split <;> omega) | (refine And.intro ?_ ?_ <;> split <;> omega)) | omega)⟩
        rintro σ_29 _ ⟨hσ_29, frσ_29, g34, g35⟩
        refine wp_bd (P := fun rr_ => II rr_ ∧ FR [kR_cutsMany, kR_isInner, kR_meetX, kR_meetY, kR_partDen, kR_partNum] σ rr_ ∧ (CUTs rr_) ∧ (rr_ kR_cutsMany 0 ≤ σ kR_cutsMany 0 + 2)) ?_ ?_
        · have c36 := w32_rng j_0
          refine wp_rdI (by (try dsimp only) <;> first | assumption | omega | ((try simp (disch := omega) only [w32_of, w64_of, w8_of]) <;> first | assumption | omega | (split <;> omega) | (refine And.intro ?_ ?_ <;> split <;> omega)) | omega) (by (try dsimp only) <;> first | assumption | omega | ((try simp (disch := omega) only [w32_of, w64_of, w8_of]) <;> first | assumption | omega | (split <;> omega) | (refine And.intro ?_ ?_ <;> split <;> omega)) | omega) (fun x_34 e_x_34 => ?_)
          have b_x_34 : (-1000000000) ≤ x_34 ∧ x_34 ≤ 1000000000 := by rw [e_x_34]; exact ii_kR_ex hσ_29 _
          rw [FR_at frσ_29 (c := kR_ex) (by decide)] at e_x_34
          try simp (disch := omega) only [w32_of, w64_of, w8_of] at e_x_34
          have c37 := ii_kR_ex hσ_29 j_0
          have c38 := FR_at frσ_29 (c := kR_ex) (by decide) j_0
          refine wp_rdI (by (try dsimp only) <;> first | assumption | omega | ((try simp (disch := omega) only [w32_of, w64_of, w8_of]) <;> first | assumption | omega | (split <;> omega) | (refine And.intro ?_ ?_ <;> split <;> omega)) | omega) (by (try dsimp only) <;> first | assumption | omega | ((try simp (disch := omega) only [w32_of, w64_of, w8_of]) <;> first | assumption | omega | (split <;> omega) | (refine And.intro ?_ ?_ <;> split <;> omega)) | omega) (fun x_36 e_x_36 => ?_)
          have b_x_36 : (-1000000000) ≤ x_36 ∧ x_36 ≤ 1000000000 := by rw [e_x_36]; exact ii_kR_ey hσ_29 _
          rw [FR_at frσ_29 (c := kR_ey) (by decide)] at e_x_36
          try simp (disch := omega) only [w32_of, w64_of, w8_of] at e_x_36
          have c39 := ii_kR_ey hσ_29 j_0
          have c40 := FR_at frσ_29 (c := kR_ey) (by decide) j_0
          refine wp_bd (s_R_isOn (σ := σ_29) (i_0 := i_0) (x_0 := x_34) (y_0 := x_36) hσ_29 (by (try dsimp only) <;> first | assumption | omega | ((try simp (disch := omega) only [w32_of, w64_of, w8_of]) <;> first | assumption | omega | (split <;> omega) | (refine And.intro ?_ ?_ <;> split <;> omega)) | omega) (by (try dsimp only) <;> first | assumption | omega | ((try simp (disch := omega) only [w32_of, w64_of, w8_of]) <;> first | assumption | omega | (split <;> omega) | (refine And.intro ?_ ?_ <;> split <;> omega)) | omega) (by (try dsimp only) <;> first | assumption | omega | ((try simp (disch := omega) only [w32_of, w64_of, w8_of]) <;> first | assumption | omega | (split <;> omega) | (refine And.intro ?_ ?_ <;> split <;> omega)) | omega)) ?_
          rintro x_39 - -
          refine wp_if (fun c42 => ?_) (fun c42 => ?_)
          · try simp (disch := omega) only [w32_of, w64_of, w8_of, decide_eq_true_eq, decide_eq_false_iff_not, Bool.not_eq_true] at c42
            refine wp_rdI (by (try dsimp only) <;> first | assumption | omega | ((try simp (disch := omega) only [w32_of, w64_of, w8_of]) <;> first | assumption | omega | (split <;> omega) | (refine And.intro ?_ ?_ <;> split <;> omega)) | omega) (by (try dsimp only) <;> first | assumption | omega | ((try simp (disch := omega) only [w32_of, w64_of, w8_of]) <;> first | assumption | omega | (split <;> omega) | (refine And.intro ?_ ?_ <;> split <;> omega)) | omega) (fun x_41 e_x_41 => ?_)
            have b_x_41 : (-1000000000) ≤ x_41 ∧ x_41 ≤ 1000000000 := by rw [e_x_41]; exact ii_kR_ex hσ_29 _
            rw [FR_at frσ_29 (c := kR_ex) (by decide)] at e_x_41
            try simp (disch := omega) only [w32_of, w64_of, w8_of] at e_x_41
            refine wp_rdI (by (try dsimp only) <;> first | assumption | omega | ((try simp (disch := omega) only [w32_of, w64_of, w8_of]) <;> first | assumption | omega | (split <;> omega) | (refine And.intro ?_ ?_ <;> split <;> omega)) | omega) (by (try dsimp only) <;> first | assumption | omega | ((try simp (disch := omega) only [w32_of, w64_of, w8_of]) <;> first | assumption | omega | (split <;> omega) | (refine And.intro ?_ ?_ <;> split <;> omega)) | omega) (fun x_43 e_x_43 => ?_)
            have b_x_43 : (-1000000000) ≤ x_43 ∧ x_43 ≤ 1000000000 := by rw [e_x_43]; exact ii_kR_ey hσ_29 _
            rw [FR_at frσ_29 (c := kR_ey) (by decide)] at e_x_43
            try simp (disch := omega) only [w32_of, w64_of, w8_of] at e_x_43
            have c43 := ii_kR_segments hσ_29 0
            have c44 := FR_at frσ_29 (c := kR_segments) (by decide) 0
            have c45 := ii_kR_cutsMany hσ_29 0
            refine wp_bd (s_R_cutAtPlace (σ := σ_29) (i_0 := i_0) (x_0 := x_41) (y_0 := x_43) hσ_29 (by (try dsimp only) <;> first | assumption | omega | ((try simp (disch := omega) only [w32_of, w64_of, w8_of]) <;> first | assumption | omega | (split <;> omega) | (refine And.intro ?_ ?_ <;> split <;> omega)) | omega) (by (try dsimp only) <;> first | assumption | omega | ((try simp (disch := omega) only [w32_of, w64_of, w8_of]) <;> first | assumption | omega | (split <;> omega) | (refine And.intro ?_ ?_ <;> split <;> omega)) | omega) (by (try dsimp only) <;> first | assumption | omega | ((try simp (disch := omega) only [w32_of, w64_of, w8_of]) <;> first | assumption | omega | (split <;> omega) | (refine And.intro ?_ ?_ <;> split <;> omega)) | omega) (ND_f frσ_29 (by decide) w0) g34 (by (try dsimp only) <;> first | assumption | omega | ((try simp (disch := omega) only [w32_of, w64_of, w8_of]) <;> first | assumption | omega | (split <;> omega) | (refine And.intro ?_ ?_ <;> split <;> omega)) | omega) (by (try dsimp only) <;> first | assumption | omega | ((try simp (disch := omega) only [w32_of, w64_of, w8_of]) <;> first | assumption | omega | (split <;> omega) | (refine And.intro ?_ ?_ <;> split <;> omega)) | omega)) ?_
            rintro σ_46 - ⟨hσ_46, flσ_46, g46, g47⟩
            have frσ_46 : FR [kR_cutsMany, kR_isInner, kR_meetX, kR_meetY, kR_partDen, kR_partNum] σ σ_46 := FR_tr frσ_29 flσ_46 (by decide) (by decide)
            try simp (disch := omega) only [w32_of, w64_of, w8_of] at g46
            have c48 := ii_kR_cutsMany hσ_46 0
            try simp (disch := omega) only [w32_of, w64_of, w8_of] at g47
            exact wp_some ⟨hσ_46, frσ_46, g46, (by (try dsimp only) <;> first | assumption | omega | ((try simp (disch := omega) only [w32_of, w64_of, w8_of]) <;> first | assumption | omega | (split <;> omega) | (refine And.intro ?_ ?_ <;> split <;> omega)) | omega)⟩
          · try simp (disch := omega) only [w32_of, w64_of, w8_of, decide_eq_true_eq, decide_eq_false_iff_not, Bool.not_eq_true] at c42
            have c49 := ii_kR_cutsMany hσ_29 0
            exact wp_some ⟨hσ_29, frσ_29, g34, (by (try dsimp only) <;> first | assumption | omega | ((try simp (disch := omega) only [w32_of, w64_of, w8_of]) <;> first | assumption | omega | (split <;> omega) | (refine And.intro ?_ ?_ <;> split <;> omega)) | omega)⟩
        rintro σ_49 _ ⟨hσ_49, frσ_49, g50, g51⟩
        have c52 := ii_kR_cutsMany hσ_49 0
        exact wp_some ⟨hσ_49, frσ_49, g50, (by (try dsimp only) <;> first | assumption | omega | ((try simp (disch := omega) only [w32_of, w64_of, w8_of]) <;> first | assumption | omega | (split <;> omega) | (refine And.intro ?_ ?_ <;> split <;> omega)) | omega)⟩
      · try simp (disch := omega) only [w32_of, w64_of, w8_of, decide_eq_true_eq, decide_eq_false_iff_not, Bool.not_eq_true] at c17
        refine wp_bd (P := fun rr_ => II rr_ ∧ FR [kR_cutsMany, kR_isInner, kR_meetX, kR_meetY, kR_partDen, kR_partNum] σ rr_ ∧ (CUTs rr_) ∧ (rr_ kR_cutsMany 0 ≤ σ kR_cutsMany 0 + 1)) ?_ ?_
        · refine wp_if (fun c53 => ?_) (fun c53 => ?_)
          · have hin := c53
            try simp (disch := omega) only [w32_of, w64_of, w8_of, decide_eq_true_eq, decide_eq_false_iff_not, Bool.not_eq_true] at c53
            have c54 := w32_rng j_0
            refine wp_rdI (by (try dsimp only) <;> first | assumption | omega | ((try simp (disch := omega) only [w32_of, w64_of, w8_of]) <;> first | assumption | omega | (split <;> omega) | (refine And.intro ?_ ?_ <;> split <;> omega)) | omega) (by (try dsimp only) <;> first | assumption | omega | ((try simp (disch := omega) only [w32_of, w64_of, w8_of]) <;> first | assumption | omega | (split <;> omega) | (refine And.intro ?_ ?_ <;> split <;> omega)) | omega) (fun x_58 e_x_58 => ?_)
            have b_x_58 : (-1000000000) ≤ x_58 ∧ x_58 ≤ 1000000000 := by rw [e_x_58]; exact ii_kR_ex hσ_2 _
            rw [FR_at frσ_2 (c := kR_ex) (by decide)] at e_x_58
            try simp (disch := omega) only [w32_of, w64_of, w8_of] at e_x_58
            have c55 := ii_kR_ex hσ_2 j_0
            have c56 := FR_at flσ_2 (c := kR_ex) (by decide) j_0
            refine wp_rdI (by (try dsimp only) <;> first | assumption | omega | ((try simp (disch := omega) only [w32_of, w64_of, w8_of]) <;> first | assumption | omega | (split <;> omega) | (refine And.intro ?_ ?_ <;> split <;> omega)) | omega) (by (try dsimp only) <;> first | assumption | omega | ((try simp (disch := omega) only [w32_of, w64_of, w8_of]) <;> first | assumption | omega | (split <;> omega) | (refine And.intro ?_ ?_ <;> split <;> omega)) | omega) (fun x_60 e_x_60 => ?_)
            have b_x_60 : (-1000000000) ≤ x_60 ∧ x_60 ≤ 1000000000 := by rw [e_x_60]; exact ii_kR_sx hσ_2 _
            rw [FR_at frσ_2 (c := kR_sx) (by decide)] at e_x_60
            try simp (disch := omega) only [w32_of, w64_of, w8_of] at e_x_60
            have c57 := ii_kR_sx hσ_2 j_0
            have c58 := FR_at flσ_2 (c := kR_sx) (by decide) j_0
            refine wp_rdI (by (try dsimp only) <;> first | assumption | omega | ((try simp (disch := omega) only [w32_of, w64_of, w8_of]) <;> first | assumption | omega | (split <;> omega) | (refine And.intro ?_ ?_ <;> split <;> omega)) | omega) (by (try dsimp only) <;> first | assumption | omega | ((try simp (disch := omega) only [w32_of, w64_of, w8_of]) <;> first | assumption | omega | (split <;> omega) | (refine And.intro ?_ ?_ <;> split <;> omega)) | omega) (fun x_62 e_x_62 => ?_)
            have b_x_62 : (-1000000000) ≤ x_62 ∧ x_62 ≤ 1000000000 := by rw [e_x_62]; exact ii_kR_ey hσ_2 _
            rw [FR_at frσ_2 (c := kR_ey) (by decide)] at e_x_62
            try simp (disch := omega) only [w32_of, w64_of, w8_of] at e_x_62
            have c59 := ii_kR_ey hσ_2 j_0
            have c60 := FR_at flσ_2 (c := kR_ey) (by decide) j_0
            refine wp_rdI (by (try dsimp only) <;> first | assumption | omega | ((try simp (disch := omega) only [w32_of, w64_of, w8_of]) <;> first | assumption | omega | (split <;> omega) | (refine And.intro ?_ ?_ <;> split <;> omega)) | omega) (by (try dsimp only) <;> first | assumption | omega | ((try simp (disch := omega) only [w32_of, w64_of, w8_of]) <;> first | assumption | omega | (split <;> omega) | (refine And.intro ?_ ?_ <;> split <;> omega)) | omega) (fun x_64 e_x_64 => ?_)
            have b_x_64 : (-1000000000) ≤ x_64 ∧ x_64 ≤ 1000000000 := by rw [e_x_64]; exact ii_kR_sy hσ_2 _
            rw [FR_at frσ_2 (c := kR_sy) (by decide)] at e_x_64
            try simp (disch := omega) only [w32_of, w64_of, w8_of] at e_x_64
            have c61 := ii_kR_sy hσ_2 j_0
            have c62 := FR_at flσ_2 (c := kR_sy) (by decide) j_0
            refine wp_rdI (by (try dsimp only) <;> first | assumption | omega | ((try simp (disch := omega) only [w32_of, w64_of, w8_of]) <;> first | assumption | omega | (split <;> omega) | (refine And.intro ?_ ?_ <;> split <;> omega)) | omega) (by (try dsimp only) <;> first | assumption | omega | ((try simp (disch := omega) only [w32_of, w64_of, w8_of]) <;> first | assumption | omega | (split <;> omega) | (refine And.intro ?_ ?_ <;> split <;> omega)) | omega) (fun x_66 e_x_66 => ?_)
            have b_x_66 : (-1000000000) ≤ x_66 ∧ x_66 ≤ 1000000000 := by rw [e_x_66]; exact ii_kR_sx hσ_2 _
            rw [FR_at frσ_2 (c := kR_sx) (by decide)] at e_x_66
            try simp (disch := omega) only [w32_of, w64_of, w8_of] at e_x_66
            have c63 := w32_rng i_0
            refine wp_rdI (by (try dsimp only) <;> first | assumption | omega | ((try simp (disch := omega) only [w32_of, w64_of, w8_of]) <;> first | assumption | omega | (split <;> omega) | (refine And.intro ?_ ?_ <;> split <;> omega)) | omega) (by (try dsimp only) <;> first | assumption | omega | ((try simp (disch := omega) only [w32_of, w64_of, w8_of]) <;> first | assumption | omega | (split <;> omega) | (refine And.intro ?_ ?_ <;> split <;> omega)) | omega) (fun x_68 e_x_68 => ?_)
            have b_x_68 : (-1000000000) ≤ x_68 ∧ x_68 ≤ 1000000000 := by rw [e_x_68]; exact ii_kR_sx hσ_2 _
            rw [FR_at frσ_2 (c := kR_sx) (by decide)] at e_x_68
            try simp (disch := omega) only [w32_of, w64_of, w8_of] at e_x_68
            have c64 := ii_kR_sx hσ_2 i_0
            have c65 := FR_at flσ_2 (c := kR_sx) (by decide) i_0
            refine wp_rdI (by (try dsimp only) <;> first | assumption | omega | ((try simp (disch := omega) only [w32_of, w64_of, w8_of]) <;> first | assumption | omega | (split <;> omega) | (refine And.intro ?_ ?_ <;> split <;> omega)) | omega) (by (try dsimp only) <;> first | assumption | omega | ((try simp (disch := omega) only [w32_of, w64_of, w8_of]) <;> first | assumption | omega | (split <;> omega) | (refine And.intro ?_ ?_ <;> split <;> omega)) | omega) (fun x_70 e_x_70 => ?_)
            have b_x_70 : (-1000000000) ≤ x_70 ∧ x_70 ≤ 1000000000 := by rw [e_x_70]; exact ii_kR_sy hσ_2 _
            rw [FR_at frσ_2 (c := kR_sy) (by decide)] at e_x_70
            try simp (disch := omega) only [w32_of, w64_of, w8_of] at e_x_70
            refine wp_rdI (by (try dsimp only) <;> first | assumption | omega | ((try simp (disch := omega) only [w32_of, w64_of, w8_of]) <;> first | assumption | omega | (split <;> omega) | (refine And.intro ?_ ?_ <;> split <;> omega)) | omega) (by (try dsimp only) <;> first | assumption | omega | ((try simp (disch := omega) only [w32_of, w64_of, w8_of]) <;> first | assumption | omega | (split <;> omega) | (refine And.intro ?_ ?_ <;> split <;> omega)) | omega) (fun x_72 e_x_72 => ?_)
            have b_x_72 : (-1000000000) ≤ x_72 ∧ x_72 ≤ 1000000000 := by rw [e_x_72]; exact ii_kR_sy hσ_2 _
            rw [FR_at frσ_2 (c := kR_sy) (by decide)] at e_x_72
            try simp (disch := omega) only [w32_of, w64_of, w8_of] at e_x_72
            have c66 := ii_kR_sy hσ_2 i_0
            have c67 := FR_at flσ_2 (c := kR_sy) (by decide) i_0
            refine wp_rdI (by (try dsimp only) <;> first | assumption | omega | ((try simp (disch := omega) only [w32_of, w64_of, w8_of]) <;> first | assumption | omega | (split <;> omega) | (refine And.intro ?_ ?_ <;> split <;> omega)) | omega) (by (try dsimp only) <;> first | assumption | omega | ((try simp (disch := omega) only [w32_of, w64_of, w8_of]) <;> first | assumption | omega | (split <;> omega) | (refine And.intro ?_ ?_ <;> split <;> omega)) | omega) (fun x_74 e_x_74 => ?_)
            have b_x_74 : (-1000000000) ≤ x_74 ∧ x_74 ≤ 1000000000 := by rw [e_x_74]; exact ii_kR_ex hσ_2 _
            rw [FR_at frσ_2 (c := kR_ex) (by decide)] at e_x_74
            try simp (disch := omega) only [w32_of, w64_of, w8_of] at e_x_74
            have c68 := ii_kR_ex hσ_2 i_0
            have c69 := FR_at flσ_2 (c := kR_ex) (by decide) i_0
            refine wp_rdI (by (try dsimp only) <;> first | assumption | omega | ((try simp (disch := omega) only [w32_of, w64_of, w8_of]) <;> first | assumption | omega | (split <;> omega) | (refine And.intro ?_ ?_ <;> split <;> omega)) | omega) (by (try dsimp only) <;> first | assumption | omega | ((try simp (disch := omega) only [w32_of, w64_of, w8_of]) <;> first | assumption | omega | (split <;> omega) | (refine And.intro ?_ ?_ <;> split <;> omega)) | omega) (fun x_76 e_x_76 => ?_)
            have b_x_76 : (-1000000000) ≤ x_76 ∧ x_76 ≤ 1000000000 := by rw [e_x_76]; exact ii_kR_sx hσ_2 _
            rw [FR_at frσ_2 (c := kR_sx) (by decide)] at e_x_76
            try simp (disch := omega) only [w32_of, w64_of, w8_of] at e_x_76
            refine wp_rdI (by (try dsimp only) <;> first | assumption | omega | ((try simp (disch := omega) only [w32_of, w64_of, w8_of]) <;> first | assumption | omega | (split <;> omega) | (refine And.intro ?_ ?_ <;> split <;> omega)) | omega) (by (try dsimp only) <;> first | assumption | omega | ((try simp (disch := omega) only [w32_of, w64_of, w8_of]) <;> first | assumption | omega | (split <;> omega) | (refine And.intro ?_ ?_ <;> split <;> omega)) | omega) (fun x_78 e_x_78 => ?_)
            have b_x_78 : (-1000000000) ≤ x_78 ∧ x_78 ≤ 1000000000 := by rw [e_x_78]; exact ii_kR_ey hσ_2 _
            rw [FR_at frσ_2 (c := kR_ey) (by decide)] at e_x_78
            try simp (disch := omega) only [w32_of, w64_of, w8_of] at e_x_78
            have c70 := ii_kR_ey hσ_2 i_0
            have c71 := FR_at flσ_2 (c := kR_ey) (by decide) i_0
            refine wp_rdI (by (try dsimp only) <;> first | assumption | omega | ((try simp (disch := omega) only [w32_of, w64_of, w8_of]) <;> first | assumption | omega | (split <;> omega) | (refine And.intro ?_ ?_ <;> split <;> omega)) | omega) (by (try dsimp only) <;> first | assumption | omega | ((try simp (disch := omega) only [w32_of, w64_of, w8_of]) <;> first | assumption | omega | (split <;> omega) | (refine And.intro ?_ ?_ <;> split <;> omega)) | omega) (fun x_80 e_x_80 => ?_)
            have b_x_80 : (-1000000000) ≤ x_80 ∧ x_80 ≤ 1000000000 := by rw [e_x_80]; exact ii_kR_sy hσ_2 _
            rw [FR_at frσ_2 (c := kR_sy) (by decide)] at e_x_80
            try simp (disch := omega) only [w32_of, w64_of, w8_of] at e_x_80
            have hc1 := crR_b (a := x_66 - x_68) (b := x_70 - x_72) (c := x_58 - x_60) (d := x_62 - x_64) ⟨by omega, by omega⟩ ⟨by omega, by omega⟩ ⟨by omega, by omega⟩ ⟨by omega, by omega⟩
            have hc2 := crR_b (a := x_74 - x_76) (b := x_78 - x_80) (c := x_58 - x_60) (d := x_62 - x_64) ⟨by omega, by omega⟩ ⟨by omega, by omega⟩ ⟨by omega, by omega⟩ ⟨by omega, by omega⟩
            have hnz : ¬ fR_cross (x_74 - x_76) (x_78 - x_80) (x_58 - x_60) (x_62 - x_64) = 0 := by rw [e_x_74, e_x_76, e_x_78, e_x_80, e_x_58, e_x_60, e_x_62, e_x_64]; exact hmx (by omega) hin
            have c72 := ii_kR_cutsMany hσ_2 0
            have c73 := FR_at flσ_2 (c := kR_cutsMany) (by decide) 0
            refine wp_bd (s_R_cutAt (σ := σ_2) (num_0 := (fR_cross (x_66 - x_68) (x_70 - x_72) (x_58 - x_60) (x_62 - x_64))) (den_0 := (fR_cross (x_74 - x_76) (x_78 - x_80) (x_58 - x_60) (x_62 - x_64))) hσ_2 (by (try dsimp only) <;> first | assumption | omega | ((try simp (disch := omega) only [w32_of, w64_of, w8_of]) <;> first | assumption | omega | (split <;> omega) | (refine And.intro ?_ ?_ <;> split <;> omega)) | omega) (by (try dsimp only) <;> first | assumption | omega | ((try simp (disch := omega) only [w32_of, w64_of, w8_of]) <;> first | assumption | omega | (split <;> omega) | (refine And.intro ?_ ?_ <;> split <;> omega)) | omega) (by (try dsimp only) <;> first | assumption | omega | ((try simp (disch := omega) only [w32_of, w64_of, w8_of]) <;> first | assumption | omega | (split <;> omega) | (refine And.intro ?_ ?_ <;> split <;> omega)) | omega) (CUTs_f flσ_2 (by decide) w1) (by (try dsimp only) <;> first | assumption | omega | ((try simp (disch := omega) only [w32_of, w64_of, w8_of]) <;> first | assumption | omega | (split <;> omega) | (refine And.intro ?_ ?_ <;> split <;> omega)) | omega)) ?_
            rintro σ_83 - ⟨hσ_83, flσ_83, g74, g75⟩
            have frσ_83 : FR [kR_cutsMany, kR_isInner, kR_meetX, kR_meetY, kR_partDen, kR_partNum] σ σ_83 := FR_tr frσ_2 flσ_83 (by decide) (by decide)
            try simp (disch := omega) only [w32_of, w64_of, w8_of] at g74
            have c76 := ii_kR_cutsMany hσ_83 0
            try simp (disch := omega) only [w32_of, w64_of, w8_of] at g75
            exact wp_some ⟨hσ_83, frσ_83, g74, (by (try dsimp only) <;> first | assumption | omega | ((try simp (disch := omega) only [w32_of, w64_of, w8_of]) <;> first | assumption | omega | (split <;> omega) | (refine And.intro ?_ ?_ <;> split <;> omega)) | omega)⟩
          · have hin := c53
            try simp (disch := omega) only [w32_of, w64_of, w8_of, decide_eq_true_eq, decide_eq_false_iff_not, Bool.not_eq_true] at c53
            have c77 := ii_kR_meetX hσ_2 0
            have c78 := ii_kR_meetY hσ_2 0
            have c79 := ii_kR_segments hσ_2 0
            have c80 := FR_at flσ_2 (c := kR_segments) (by decide) 0
            have c81 := ii_kR_cutsMany hσ_2 0
            have c82 := FR_at flσ_2 (c := kR_cutsMany) (by decide) 0
            refine wp_bd (s_R_cutAtPlace (σ := σ_2) (i_0 := i_0) (x_0 := (σ_2 kR_meetX 0)) (y_0 := (σ_2 kR_meetY 0)) hσ_2 (by (try dsimp only) <;> first | assumption | omega | ((try simp (disch := omega) only [w32_of, w64_of, w8_of]) <;> first | assumption | omega | (split <;> omega) | (refine And.intro ?_ ?_ <;> split <;> omega)) | omega) (by (try dsimp only) <;> first | assumption | omega | ((try simp (disch := omega) only [w32_of, w64_of, w8_of]) <;> first | assumption | omega | (split <;> omega) | (refine And.intro ?_ ?_ <;> split <;> omega)) | omega) (by (try dsimp only) <;> first | assumption | omega | ((try simp (disch := omega) only [w32_of, w64_of, w8_of]) <;> first | assumption | omega | (split <;> omega) | (refine And.intro ?_ ?_ <;> split <;> omega)) | omega) (ND_f flσ_2 (by decide) w0) (CUTs_f flσ_2 (by decide) w1) (by (try dsimp only) <;> first | assumption | omega | ((try simp (disch := omega) only [w32_of, w64_of, w8_of]) <;> first | assumption | omega | (split <;> omega) | (refine And.intro ?_ ?_ <;> split <;> omega)) | omega) (by (try dsimp only) <;> first | assumption | omega | ((try simp (disch := omega) only [w32_of, w64_of, w8_of]) <;> first | assumption | omega | (split <;> omega) | (refine And.intro ?_ ?_ <;> split <;> omega)) | omega)) ?_
            rintro σ_86 - ⟨hσ_86, flσ_86, g83, g84⟩
            have frσ_86 : FR [kR_cutsMany, kR_isInner, kR_meetX, kR_meetY, kR_partDen, kR_partNum] σ σ_86 := FR_tr frσ_2 flσ_86 (by decide) (by decide)
            try simp (disch := omega) only [w32_of, w64_of, w8_of] at g83
            have c85 := ii_kR_cutsMany hσ_86 0
            try simp (disch := omega) only [w32_of, w64_of, w8_of] at g84
            exact wp_some ⟨hσ_86, frσ_86, g83, (by (try dsimp only) <;> first | assumption | omega | ((try simp (disch := omega) only [w32_of, w64_of, w8_of]) <;> first | assumption | omega | (split <;> omega) | (refine And.intro ?_ ?_ <;> split <;> omega)) | omega)⟩
        rintro σ_88 _ ⟨hσ_88, frσ_88, g86, g87⟩
        have c88 := ii_kR_cutsMany hσ_88 0
        exact wp_some ⟨hσ_88, frσ_88, g86, (by (try dsimp only) <;> first | assumption | omega | ((try simp (disch := omega) only [w32_of, w64_of, w8_of]) <;> first | assumption | omega | (split <;> omega) | (refine And.intro ?_ ?_ <;> split <;> omega)) | omega)⟩
    rintro σ_91 _ ⟨hσ_91, frσ_91, g89, g90⟩
    have c91 := ii_kR_cutsMany hσ_91 0
    exact wp_some ⟨hσ_91, frσ_91, g89, (by (try dsimp only) <;> first | assumption | omega | ((try simp (disch := omega) only [w32_of, w64_of, w8_of]) <;> first | assumption | omega | (split <;> omega) | (refine And.intro ?_ ?_ <;> split <;> omega)) | omega)⟩
theorem s_R_cutAll {σ : SG} {i_0 : Int} (hσ : II σ) (qi_0 : 0 ≤ i_0 ∧ i_0 ≤ 4199) (w0 : ND σ) (w1 : i_0 < σ kR_segments 0) (w2 : σ kR_segments 0 ≤ 256) : wp_ (fR_cutAll σ i_0) (fun zz_ => II zz_ ∧ FR [kR_cutsMany, kR_isInner, kR_meetX, kR_meetY, kR_partDen, kR_partNum] σ zz_ ∧ (CUTs zz_)) := by
  unfold fR_cutAll
  have c1 := ii_kR_segments hσ 0
  refine wp_wfI hσ b_kR_cutsMany (by (try dsimp only) <;> first | assumption | omega | ((try simp (disch := omega) only [w32_of, w64_of, w8_of]) <;> first | assumption | omega | (split <;> omega) | (refine And.intro ?_ ?_ <;> split <;> omega)) | omega) (fun σ_1 hσ_1 eσ_1 => ?_)
  try simp (disch := omega) only [w32_of, w64_of, w8_of] at eσ_1
  have flσ_1 := FR_sg eσ_1
  have frσ_1 : FR [kR_cutsMany, kR_isInner, kR_meetX, kR_meetY, kR_partDen, kR_partNum] σ σ_1 := FR_le flσ_1 (by decide)
  have c2 := ii_kR_cutsMany hσ_1 0
  have c3 := sg_val eσ_1
  refine wp_bd (s_R_cutAt (σ := σ_1) (num_0 := 0) (den_0 := 1) hσ_1 (by (try dsimp only) <;> first | assumption | omega | ((try simp (disch := omega) only [w32_of, w64_of, w8_of]) <;> first | assumption | omega | (split <;> omega) | (refine And.intro ?_ ?_ <;> split <;> omega)) | omega) (by (try dsimp only) <;> first | assumption | omega | ((try simp (disch := omega) only [w32_of, w64_of, w8_of]) <;> first | assumption | omega | (split <;> omega) | (refine And.intro ?_ ?_ <;> split <;> omega)) | omega) (by (try dsimp only) <;> first | assumption | omega | ((try simp (disch := omega) only [w32_of, w64_of, w8_of]) <;> first | assumption | omega | (split <;> omega) | (refine And.intro ?_ ?_ <;> split <;> omega)) | omega) (by first | assumption | (intro q9 a9 b9; rw [sg_val eσ_1] at b9; omega)) (by (try dsimp only) <;> first | assumption | omega | ((try simp (disch := omega) only [w32_of, w64_of, w8_of]) <;> first | assumption | omega | (split <;> omega) | (refine And.intro ?_ ?_ <;> split <;> omega)) | omega)) ?_
  rintro σ_3 - ⟨hσ_3, flσ_3, g4, g5⟩
  have frσ_3 : FR [kR_cutsMany, kR_isInner, kR_meetX, kR_meetY, kR_partDen, kR_partNum] σ σ_3 := FR_tr frσ_1 flσ_3 (by decide) (by decide)
  try simp (disch := omega) only [w32_of, w64_of, w8_of] at g4
  have c6 := ii_kR_cutsMany hσ_3 0
  try simp (disch := omega) only [w32_of, w64_of, w8_of] at g5
  refine wp_bd (s_R_cutAt (σ := σ_3) (num_0 := 1) (den_0 := 1) hσ_3 (by (try dsimp only) <;> first | assumption | omega | ((try simp (disch := omega) only [w32_of, w64_of, w8_of]) <;> first | assumption | omega | (split <;> omega) | (refine And.intro ?_ ?_ <;> split <;> omega)) | omega) (by (try dsimp only) <;> first | assumption | omega | ((try simp (disch := omega) only [w32_of, w64_of, w8_of]) <;> first | assumption | omega | (split <;> omega) | (refine And.intro ?_ ?_ <;> split <;> omega)) | omega) (by (try dsimp only) <;> first | assumption | omega | ((try simp (disch := omega) only [w32_of, w64_of, w8_of]) <;> first | assumption | omega | (split <;> omega) | (refine And.intro ?_ ?_ <;> split <;> omega)) | omega) (by first | assumption | (intro q9 a9 b9; rw [sg_val eσ_1] at b9; omega)) (by (try dsimp only) <;> first | assumption | omega | ((try simp (disch := omega) only [w32_of, w64_of, w8_of]) <;> first | assumption | omega | (split <;> omega) | (refine And.intro ?_ ?_ <;> split <;> omega)) | omega)) ?_
  rintro σ_5 - ⟨hσ_5, flσ_5, g7, g8⟩
  have frσ_5 : FR [kR_cutsMany, kR_isInner, kR_meetX, kR_meetY, kR_partDen, kR_partNum] σ σ_5 := FR_tr frσ_3 flσ_5 (by decide) (by decide)
  try simp (disch := omega) only [w32_of, w64_of, w8_of] at g7
  have c9 := ii_kR_cutsMany hσ_5 0
  try simp (disch := omega) only [w32_of, w64_of, w8_of] at g8
  refine wp_bd (P := fun rr_ => II rr_.2 ∧ FR [kR_cutsMany, kR_isInner, kR_meetX, kR_meetY, kR_partDen, kR_partNum] σ rr_.2 ∧ (CUTs rr_.2) ∧ (rr_.2 kR_cutsMany 0 ≤ 514)) ?_ ?_
  · refine wp_whl (fun ss_ => II ss_.2 ∧ FR [kR_cutsMany, kR_isInner, kR_meetX, kR_meetY, kR_partDen, kR_partNum] σ ss_.2 ∧ (0 ≤ ss_.1 ∧ ss_.1 ≤ σ kR_segments 0) ∧ (CUTs ss_.2) ∧ (ss_.2 kR_cutsMany 0 ≤ 2 + 2 * ss_.1)) (fun ss_ => (4300 - ss_.1).toNat) ⟨hσ_5, frσ_5, (by (try dsimp only) <;> first | assumption | omega | ((try simp (disch := omega) only [w32_of, w64_of, w8_of]) <;> first | assumption | omega | (split <;> omega) | (refine And.intro ?_ ?_ <;> split <;> omega)) | omega), g7, (by (try dsimp only) <;> first | assumption | omega | ((try simp (disch := omega) only [w32_of, w64_of, w8_of]) <;> first | assumption | omega | (split <;> omega) | (refine And.intro ?_ ?_ <;> split <;> omega)) | omega)⟩ ?_
    rintro ⟨j_6, σ_7⟩ y13
    try dsimp only at y13 ⊢
    obtain ⟨hσ_7, frσ_7, g10, g11, g12⟩ := y13
    have c15 := w32_rng j_6
    have c16 := ii_kR_segments hσ_7 0
    have c17 := FR_at frσ_7 (c := kR_segments) (by decide) 0
    have c18 := w32_rng (σ_7 kR_segments 0)
    refine wp_if (fun c14 => ?_) (fun c14 => ?_)
    · try simp (disch := omega) only [w32_of, w64_of, w8_of, decide_eq_true_eq, decide_eq_false_iff_not, Bool.not_eq_true] at c14
      refine wp_bd (P := fun rr_ => II rr_ ∧ FR [kR_cutsMany, kR_isInner, kR_meetX, kR_meetY, kR_partDen, kR_partNum] σ rr_ ∧ (CUTs rr_) ∧ (rr_ kR_cutsMany 0 ≤ 2 + 2 * (j_6 + 1))) ?_ ?_
      · have c20 := w32_rng i_0
        refine wp_if (fun c19 => ?_) (fun c19 => ?_)
        · try simp (disch := omega) only [w32_of, w64_of, w8_of, decide_eq_true_eq, decide_eq_false_iff_not, Bool.not_eq_true] at c19
          have c21 := ii_kR_cutsMany hσ_7 0
          refine wp_bd (s_R_cutBy (σ := σ_7) (i_0 := i_0) (j_0 := j_6) hσ_7 (by (try dsimp only) <;> first | assumption | omega | ((try simp (disch := omega) only [w32_of, w64_of, w8_of]) <;> first | assumption | omega | (split <;> omega) | (refine And.intro ?_ ?_ <;> split <;> omega)) | omega) (by (try dsimp only) <;> first | assumption | omega | ((try simp (disch := omega) only [w32_of, w64_of, w8_of]) <;> first | assumption | omega | (split <;> omega) | (refine And.intro ?_ ?_ <;> split <;> omega)) | omega) (ND_f frσ_7 (by decide) w0) g11 (by (try dsimp only) <;> first | assumption | omega | ((try simp (disch := omega) only [w32_of, w64_of, w8_of]) <;> first | assumption | omega | (split <;> omega) | (refine And.intro ?_ ?_ <;> split <;> omega)) | omega) (by (try dsimp only) <;> first | assumption | omega | ((try simp (disch := omega) only [w32_of, w64_of, w8_of]) <;> first | assumption | omega | (split <;> omega) | (refine And.intro ?_ ?_ <;> split <;> omega)) | omega)) ?_
          rintro σ_22 - ⟨hσ_22, flσ_22, g22, g23⟩
          have frσ_22 : FR [kR_cutsMany, kR_isInner, kR_meetX, kR_meetY, kR_partDen, kR_partNum] σ σ_22 := FR_tr frσ_7 flσ_22 (by decide) (by decide)
          try simp (disch := omega) only [w32_of, w64_of, w8_of] at g22
          have c24 := ii_kR_cutsMany hσ_22 0
          try simp (disch := omega) only [w32_of, w64_of, w8_of] at g23
          exact wp_some ⟨hσ_22, frσ_22, g22, (by (try dsimp only) <;> first | assumption | omega | ((try simp (disch := omega) only [w32_of, w64_of, w8_of]) <;> first | assumption | omega | (split <;> omega) | (refine And.intro ?_ ?_ <;> split <;> omega)) | omega)⟩
        · try simp (disch := omega) only [w32_of, w64_of, w8_of, decide_eq_true_eq, decide_eq_false_iff_not, Bool.not_eq_true] at c19
          have c25 := ii_kR_cutsMany hσ_7 0
          exact wp_some ⟨hσ_7, frσ_7, g11, (by (try dsimp only) <;> first | assumption | omega | ((try simp (disch := omega) only [w32_of, w64_of, w8_of]) <;> first | assumption | omega | (split <;> omega) | (refine And.intro ?_ ?_ <;> split <;> omega)) | omega)⟩
      rintro σ_25 _ ⟨hσ_25, frσ_25, g26, g27⟩
      have c28 := ii_kR_cutsMany hσ_25 0
      exact wp_some (x_inl ⟨⟨hσ_25, frσ_25, (by (try dsimp only) <;> first | assumption | omega | ((try simp (disch := omega) only [w32_of, w64_of, w8_of]) <;> first | assumption | omega | (split <;> omega) | (refine And.intro ?_ ?_ <;> split <;> omega)) | omega), g26, (by (try dsimp only) <;> first | assumption | omega | ((try simp (disch := omega) only [w32_of, w64_of, w8_of]) <;> first | assumption | omega | (split <;> omega) | (refine And.intro ?_ ?_ <;> split <;> omega)) | omega)⟩, (by (try dsimp only) <;> first | assumption | omega | ((try simp (disch := omega) only [w32_of, w64_of, w8_of]) <;> first | assumption | omega | (split <;> omega) | (refine And.intro ?_ ?_ <;> split <;> omega)) | omega)⟩)
    · try simp (disch := omega) only [w32_of, w64_of, w8_of, decide_eq_true_eq, decide_eq_false_iff_not, Bool.not_eq_true] at c14
      have c29 := ii_kR_cutsMany hσ_7 0
      exact wp_some (x_inr ⟨hσ_7, frσ_7, g11, (by (try dsimp only) <;> first | assumption | omega | ((try simp (disch := omega) only [w32_of, w64_of, w8_of]) <;> first | assumption | omega | (split <;> omega) | (refine And.intro ?_ ?_ <;> split <;> omega)) | omega)⟩)
  rintro ⟨j_29, σ_30⟩ _ y32
  try dsimp only at y32 ⊢
  obtain ⟨hσ_30, frσ_30, g30, g31⟩ := y32
  refine wp_bd (P := fun rr_ => II rr_.2 ∧ FR [kR_cutsMany, kR_isInner, kR_meetX, kR_meetY, kR_partDen, kR_partNum] σ rr_.2 ∧ (CUTs rr_.2)) ?_ ?_
  · have c33 := ii_kR_cutsMany hσ_30 0
    refine wp_whl (fun ss_ => II ss_.2 ∧ FR [kR_cutsMany, kR_isInner, kR_meetX, kR_meetY, kR_partDen, kR_partNum] σ ss_.2 ∧ (0 ≤ ss_.1 ∧ ss_.1 ≤ 2) ∧ (CUTs ss_.2) ∧ (ss_.2 kR_cutsMany 0 ≤ 514 + 2048 * ss_.1)) (fun ss_ => (3 - ss_.1).toNat) ⟨hσ_30, frσ_30, (by (try dsimp only) <;> first | assumption | omega | ((try simp (disch := omega) only [w32_of, w64_of, w8_of]) <;> first | assumption | omega | (split <;> omega) | (refine And.intro ?_ ?_ <;> split <;> omega)) | omega), g30, (by (try dsimp only) <;> first | assumption | omega | ((try simp (disch := omega) only [w32_of, w64_of, w8_of]) <;> first | assumption | omega | (split <;> omega) | (refine And.intro ?_ ?_ <;> split <;> omega)) | omega)⟩ ?_
    rintro ⟨s_31, σ_32⟩ y37
    try dsimp only at y37 ⊢
    obtain ⟨hσ_32, frσ_32, g34, g35, g36⟩ := y37
    have c39 := w32_rng s_31
    refine wp_if (fun c38 => ?_) (fun c38 => ?_)
    · try simp (disch := omega) only [w32_of, w64_of, w8_of, decide_eq_true_eq, decide_eq_false_iff_not, Bool.not_eq_true] at c38
      refine wp_rdI (by (try dsimp only) <;> first | assumption | omega | ((try simp (disch := omega) only [w32_of, w64_of, w8_of]) <;> first | assumption | omega | (split <;> omega) | (refine And.intro ?_ ?_ <;> split <;> omega)) | omega) (by (try dsimp only) <;> first | assumption | omega | ((try simp (disch := omega) only [w32_of, w64_of, w8_of]) <;> first | assumption | omega | (split <;> omega) | (refine And.intro ?_ ?_ <;> split <;> omega)) | omega) (fun x_41 e_x_41 => ?_)
      have b_x_41 : (-1) ≤ x_41 ∧ x_41 ≤ 2 := by rw [e_x_41]; exact ii_kR_typeOf hσ_32 _
      rw [FR_at frσ_32 (c := kR_typeOf) (by decide)] at e_x_41
      try simp (disch := omega) only [w32_of, w64_of, w8_of] at e_x_41
      have c40 := ii_kR_typeOf hσ_32 s_31
      have c41 := FR_at frσ_32 (c := kR_typeOf) (by decide) s_31
      have c42 := ii_kR_typeOf hσ s_31
      have c44 := w32_rng x_41
      refine wp_if (fun c43 => ?_) (fun c43 => ?_)
      · try simp (disch := omega) only [w32_of, w64_of, w8_of, decide_eq_true_eq, decide_eq_false_iff_not, Bool.not_eq_true] at c43
        have c45 := ii_kR_cutsMany hσ_32 0
        exact wp_some (x_inl ⟨⟨hσ_32, frσ_32, (by (try dsimp only) <;> first | assumption | omega | ((try simp (disch := omega) only [w32_of, w64_of, w8_of]) <;> first | assumption | omega | (split <;> omega) | (refine And.intro ?_ ?_ <;> split <;> omega)) | omega), g35, (by (try dsimp only) <;> first | assumption | omega | ((try simp (disch := omega) only [w32_of, w64_of, w8_of]) <;> first | assumption | omega | (split <;> omega) | (refine And.intro ?_ ?_ <;> split <;> omega)) | omega)⟩, (by (try dsimp only) <;> first | assumption | omega | ((try simp (disch := omega) only [w32_of, w64_of, w8_of]) <;> first | assumption | omega | (split <;> omega) | (refine And.intro ?_ ?_ <;> split <;> omega)) | omega)⟩)
      · try simp (disch := omega) only [w32_of, w64_of, w8_of, decide_eq_true_eq, decide_eq_false_iff_not, Bool.not_eq_true] at c43
        refine wp_rdI (by (try dsimp only) <;> first | assumption | omega | ((try simp (disch := omega) only [w32_of, w64_of, w8_of]) <;> first | assumption | omega | (split <;> omega) | (refine And.intro ?_ ?_ <;> split <;> omega)) | omega) (by (try dsimp only) <;> first | assumption | omega | ((try simp (disch := omega) only [w32_of, w64_of, w8_of]) <;> first | assumption | omega | (split <;> omega) | (refine And.intro ?_ ?_ <;> split <;> omega)) | omega) (fun x_45 e_x_45 => ?_)
        have b_x_45 : 0 ≤ x_45 ∧ x_45 ≤ 31 := by rw [e_x_45]; exact ii_kR_slotOf hσ_32 _
        rw [FR_at frσ_32 (c := kR_slotOf) (by decide)] at e_x_45
        try simp (disch := omega) only [w32_of, w64_of, w8_of] at e_x_45
        have c46 := ii_kR_slotOf hσ_32 s_31
        have c47 := FR_at frσ_32 (c := kR_slotOf) (by decide) s_31
        have c48 := ii_kR_slotOf hσ s_31
        refine wp_bd (P := fun rr_ => II rr_.2 ∧ FR [kR_cutsMany, kR_isInner, kR_meetX, kR_meetY, kR_partDen, kR_partNum] σ rr_.2 ∧ (CUTs rr_.2) ∧ (rr_.2 kR_cutsMany 0 ≤ 514 + 2048 * (s_31 + 1))) ?_ ?_
        · have c49 := ii_kR_cutsMany hσ_32 0
          refine wp_whl (fun ss_ => II ss_.2 ∧ FR [kR_cutsMany, kR_isInner, kR_meetX, kR_meetY, kR_partDen, kR_partNum] σ ss_.2 ∧ (2048 * x_45 ≤ ss_.1 ∧ ss_.1 ≤ 2048 * x_45 + 2048) ∧ (CUTs ss_.2) ∧ (ss_.2 kR_cutsMany 0 ≤ 514 + 2048 * s_31 + (ss_.1 - 2048 * x_45))) (fun ss_ => (2048 * x_45 + 2050 - ss_.1).toNat) ⟨hσ_32, frσ_32, (by (try dsimp only) <;> first | assumption | omega | ((try simp (disch := omega) only [w32_of, w64_of, w8_of]) <;> first | assumption | omega | (split <;> omega) | (refine And.intro ?_ ?_ <;> split <;> omega)) | omega), g35, (by (try dsimp only) <;> first | assumption | omega | ((try simp (disch := omega) only [w32_of, w64_of, w8_of]) <;> first | assumption | omega | (split <;> omega) | (refine And.intro ?_ ?_ <;> split <;> omega)) | omega)⟩ ?_
          rintro ⟨k_47, σ_48⟩ y53
          try dsimp only at y53 ⊢
          obtain ⟨hσ_48, frσ_48, g50, g51, g52⟩ := y53
          refine wp_rdI (by (try dsimp only) <;> first | assumption | omega | ((try simp (disch := omega) only [w32_of, w64_of, w8_of]) <;> first | assumption | omega | (split <;> omega) | (refine And.intro ?_ ?_ <;> split <;> omega)) | omega) (by (try dsimp only) <;> first | assumption | omega | ((try simp (disch := omega) only [w32_of, w64_of, w8_of]) <;> first | assumption | omega | (split <;> omega) | (refine And.intro ?_ ?_ <;> split <;> omega)) | omega) (fun x_56 e_x_56 => ?_)
          have b_x_56 : 0 ≤ x_56 ∧ x_56 ≤ 31 := by rw [e_x_56]; exact ii_kR_slotOf hσ_48 _
          rw [FR_at frσ_48 (c := kR_slotOf) (by decide)] at e_x_56
          try simp (disch := omega) only [w32_of, w64_of, w8_of] at e_x_56
          have c54 := ii_kR_slotOf hσ_48 s_31
          have c55 := FR_at frσ_48 (c := kR_slotOf) (by decide) s_31
          have c56 := w32_rng x_56
          refine wp_rdI (by (try dsimp only) <;> first | assumption | omega | ((try simp (disch := omega) only [w32_of, w64_of, w8_of]) <;> first | assumption | omega | (split <;> omega) | (refine And.intro ?_ ?_ <;> split <;> omega)) | omega) (by (try dsimp only) <;> first | assumption | omega | ((try simp (disch := omega) only [w32_of, w64_of, w8_of]) <;> first | assumption | omega | (split <;> omega) | (refine And.intro ?_ ?_ <;> split <;> omega)) | omega) (fun x_58 e_x_58 => ?_)
          have b_x_58 : 0 ≤ x_58 ∧ x_58 ≤ 2048 := by rw [e_x_58]; exact ii_kR_pointMany hσ_48 _
          rw [FR_at frσ_48 (c := kR_pointMany) (by decide)] at e_x_58
          try simp (disch := omega) only [w32_of, w64_of, w8_of] at e_x_58
          have c57 := ii_kR_pointMany hσ_48 x_56
          have c58 := FR_at frσ_48 (c := kR_pointMany) (by decide) x_56
          have c59 := ii_kR_pointMany hσ x_56
          have c61 := w32_rng k_47
          have c62 := w32_rng ((2048 * x_45) + x_58)
          refine wp_if (fun c60 => ?_) (fun c60 => ?_)
          · try simp (disch := omega) only [w32_of, w64_of, w8_of, decide_eq_true_eq, decide_eq_false_iff_not, Bool.not_eq_true] at c60
            refine wp_bd (P := fun rr_ => II rr_ ∧ FR [kR_cutsMany, kR_isInner, kR_meetX, kR_meetY, kR_partDen, kR_partNum] σ rr_ ∧ (CUTs rr_) ∧ (rr_ kR_cutsMany 0 ≤ 514 + 2048 * s_31 + (k_47 + 1 - 2048 * x_45))) ?_ ?_
            · refine wp_rdI (by (try dsimp only) <;> first | assumption | omega | ((try simp (disch := omega) only [w32_of, w64_of, w8_of]) <;> first | assumption | omega | (split <;> omega) | (refine And.intro ?_ ?_ <;> split <;> omega)) | omega) (by (try dsimp only) <;> first | assumption | omega | ((try simp (disch := omega) only [w32_of, w64_of, w8_of]) <;> first | assumption | omega | (split <;> omega) | (refine And.intro ?_ ?_ <;> split <;> omega)) | omega) (fun x_65 e_x_65 => ?_)
              have b_x_65 : (-1000000000) ≤ x_65 ∧ x_65 ≤ 1000000000 := by rw [e_x_65]; exact ii_kR_xs hσ_48 _
              rw [FR_at frσ_48 (c := kR_xs) (by decide)] at e_x_65
              try simp (disch := omega) only [w32_of, w64_of, w8_of] at e_x_65
              have c63 := ii_kR_xs hσ_48 k_47
              have c64 := FR_at frσ_48 (c := kR_xs) (by decide) k_47
              have c65 := ii_kR_xs hσ k_47
              refine wp_rdI (by (try dsimp only) <;> first | assumption | omega | ((try simp (disch := omega) only [w32_of, w64_of, w8_of]) <;> first | assumption | omega | (split <;> omega) | (refine And.intro ?_ ?_ <;> split <;> omega)) | omega) (by (try dsimp only) <;> first | assumption | omega | ((try simp (disch := omega) only [w32_of, w64_of, w8_of]) <;> first | assumption | omega | (split <;> omega) | (refine And.intro ?_ ?_ <;> split <;> omega)) | omega) (fun x_67 e_x_67 => ?_)
              have b_x_67 : (-1000000000) ≤ x_67 ∧ x_67 ≤ 1000000000 := by rw [e_x_67]; exact ii_kR_ys hσ_48 _
              rw [FR_at frσ_48 (c := kR_ys) (by decide)] at e_x_67
              try simp (disch := omega) only [w32_of, w64_of, w8_of] at e_x_67
              have c66 := ii_kR_ys hσ_48 k_47
              have c67 := FR_at frσ_48 (c := kR_ys) (by decide) k_47
              have c68 := ii_kR_ys hσ k_47
              have c69 := w32_rng x_65
              have c70 := w32_rng x_67
              refine wp_bd (s_R_isOn (σ := σ_48) (i_0 := i_0) (x_0 := (w32 x_65)) (y_0 := (w32 x_67)) hσ_48 (by (try dsimp only) <;> first | assumption | omega | ((try simp (disch := omega) only [w32_of, w64_of, w8_of]) <;> first | assumption | omega | (split <;> omega) | (refine And.intro ?_ ?_ <;> split <;> omega)) | omega) (by (try dsimp only) <;> first | assumption | omega | ((try simp (disch := omega) only [w32_of, w64_of, w8_of]) <;> first | assumption | omega | (split <;> omega) | (refine And.intro ?_ ?_ <;> split <;> omega)) | omega) (by (try dsimp only) <;> first | assumption | omega | ((try simp (disch := omega) only [w32_of, w64_of, w8_of]) <;> first | assumption | omega | (split <;> omega) | (refine And.intro ?_ ?_ <;> split <;> omega)) | omega)) ?_
              rintro x_70 - -
              refine wp_if (fun c72 => ?_) (fun c72 => ?_)
              · try simp (disch := omega) only [w32_of, w64_of, w8_of, decide_eq_true_eq, decide_eq_false_iff_not, Bool.not_eq_true] at c72
                refine wp_rdI (by (try dsimp only) <;> first | assumption | omega | ((try simp (disch := omega) only [w32_of, w64_of, w8_of]) <;> first | assumption | omega | (split <;> omega) | (refine And.intro ?_ ?_ <;> split <;> omega)) | omega) (by (try dsimp only) <;> first | assumption | omega | ((try simp (disch := omega) only [w32_of, w64_of, w8_of]) <;> first | assumption | omega | (split <;> omega) | (refine And.intro ?_ ?_ <;> split <;> omega)) | omega) (fun x_72 e_x_72 => ?_)
                have b_x_72 : (-1000000000) ≤ x_72 ∧ x_72 ≤ 1000000000 := by rw [e_x_72]; exact ii_kR_xs hσ_48 _
                rw [FR_at frσ_48 (c := kR_xs) (by decide)] at e_x_72
                try simp (disch := omega) only [w32_of, w64_of, w8_of] at e_x_72
                refine wp_rdI (by (try dsimp only) <;> first | assumption | omega | ((try simp (disch := omega) only [w32_of, w64_of, w8_of]) <;> first | assumption | omega | (split <;> omega) | (refine And.intro ?_ ?_ <;> split <;> omega)) | omega) (by (try dsimp only) <;> first | assumption | omega | ((try simp (disch := omega) only [w32_of, w64_of, w8_of]) <;> first | assumption | omega | (split <;> omega) | (refine And.intro ?_ ?_ <;> split <;> omega)) | omega) (fun x_74 e_x_74 => ?_)
                have b_x_74 : (-1000000000) ≤ x_74 ∧ x_74 ≤ 1000000000 := by rw [e_x_74]; exact ii_kR_ys hσ_48 _
                rw [FR_at frσ_48 (c := kR_ys) (by decide)] at e_x_74
                try simp (disch := omega) only [w32_of, w64_of, w8_of] at e_x_74
                have c73 := w32_rng x_72
                have c74 := w32_rng x_74
                have c75 := ii_kR_segments hσ_48 0
                have c76 := FR_at frσ_48 (c := kR_segments) (by decide) 0
                have c77 := ii_kR_cutsMany hσ_48 0
                refine wp_bd (s_R_cutAtPlace (σ := σ_48) (i_0 := i_0) (x_0 := (w32 x_72)) (y_0 := (w32 x_74)) hσ_48 (by (try dsimp only) <;> first | assumption | omega | ((try simp (disch := omega) only [w32_of, w64_of, w8_of]) <;> first | assumption | omega | (split <;> omega) | (refine And.intro ?_ ?_ <;> split <;> omega)) | omega) (by (try dsimp only) <;> first | assumption | omega | ((try simp (disch := omega) only [w32_of, w64_of, w8_of]) <;> first | assumption | omega | (split <;> omega) | (refine And.intro ?_ ?_ <;> split <;> omega)) | omega) (by (try dsimp only) <;> first | assumption | omega | ((try simp (disch := omega) only [w32_of, w64_of, w8_of]) <;> first | assumption | omega | (split <;> omega) | (refine And.intro ?_ ?_ <;> split <;> omega)) | omega) (ND_f frσ_48 (by decide) w0) g51 (by (try dsimp only) <;> first | assumption | omega | ((try simp (disch := omega) only [w32_of, w64_of, w8_of]) <;> first | assumption | omega | (split <;> omega) | (refine And.intro ?_ ?_ <;> split <;> omega)) | omega) (by (try dsimp only) <;> first | assumption | omega | ((try simp (disch := omega) only [w32_of, w64_of, w8_of]) <;> first | assumption | omega | (split <;> omega) | (refine And.intro ?_ ?_ <;> split <;> omega)) | omega)) ?_
                rintro σ_77 - ⟨hσ_77, flσ_77, g78, g79⟩
                have frσ_77 : FR [kR_cutsMany, kR_isInner, kR_meetX, kR_meetY, kR_partDen, kR_partNum] σ σ_77 := FR_tr frσ_48 flσ_77 (by decide) (by decide)
                try simp (disch := omega) only [w32_of, w64_of, w8_of] at g78
                have c80 := ii_kR_cutsMany hσ_77 0
                try simp (disch := omega) only [w32_of, w64_of, w8_of] at g79
                exact wp_some ⟨hσ_77, frσ_77, g78, (by (try dsimp only) <;> first | assumption | omega | ((try simp (disch := omega) only [w32_of, w64_of, w8_of]) <;> first | assumption | omega | (split <;> omega) | (refine And.intro ?_ ?_ <;> split <;> omega)) | omega)⟩
              · try simp (disch := omega) only [w32_of, w64_of, w8_of, decide_eq_true_eq, decide_eq_false_iff_not, Bool.not_eq_true] at c72
                have c81 := ii_kR_cutsMany hσ_48 0
                exact wp_some ⟨hσ_48, frσ_48, g51, (by (try dsimp only) <;> first | assumption | omega | ((try simp (disch := omega) only [w32_of, w64_of, w8_of]) <;> first | assumption | omega | (split <;> omega) | (refine And.intro ?_ ?_ <;> split <;> omega)) | omega)⟩
            rintro σ_80 _ ⟨hσ_80, frσ_80, g82, g83⟩
            have c84 := ii_kR_cutsMany hσ_80 0
            exact wp_some (x_inl ⟨⟨hσ_80, frσ_80, (by (try dsimp only) <;> first | assumption | omega | ((try simp (disch := omega) only [w32_of, w64_of, w8_of]) <;> first | assumption | omega | (split <;> omega) | (refine And.intro ?_ ?_ <;> split <;> omega)) | omega), g82, (by (try dsimp only) <;> first | assumption | omega | ((try simp (disch := omega) only [w32_of, w64_of, w8_of]) <;> first | assumption | omega | (split <;> omega) | (refine And.intro ?_ ?_ <;> split <;> omega)) | omega)⟩, (by (try dsimp only) <;> first | assumption | omega | ((try simp (disch := omega) only [w32_of, w64_of, w8_of]) <;> first | assumption | omega | (split <;> omega) | (refine And.intro ?_ ?_ <;> split <;> omega)) | omega)⟩)
          · try simp (disch := omega) only [w32_of, w64_of, w8_of, decide_eq_true_eq, decide_eq_false_iff_not, Bool.not_eq_true] at c60
            have c85 := ii_kR_cutsMany hσ_48 0
            exact wp_some (x_inr ⟨hσ_48, frσ_48, g51, (by (try dsimp only) <;> first | assumption | omega | ((try simp (disch := omega) only [w32_of, w64_of, w8_of]) <;> first | assumption | omega | (split <;> omega) | (refine And.intro ?_ ?_ <;> split <;> omega)) | omega)⟩)
        rintro ⟨k_84, σ_85⟩ _ y88
        try dsimp only at y88 ⊢
        obtain ⟨hσ_85, frσ_85, g86, g87⟩ := y88
        have c89 := ii_kR_cutsMany hσ_85 0
        exact wp_some (x_inl ⟨⟨hσ_85, frσ_85, (by (try dsimp only) <;> first | assumption | omega | ((try simp (disch := omega) only [w32_of, w64_of, w8_of]) <;> first | assumption | omega | (split <;> omega) | (refine And.intro ?_ ?_ <;> split <;> omega)) | omega), g86, (by (try dsimp only) <;> first | assumption | omega | ((try simp (disch := omega) only [w32_of, w64_of, w8_of]) <;> first | assumption | omega | (split <;> omega) | (refine And.intro ?_ ?_ <;> split <;> omega)) | omega)⟩, (by (try dsimp only) <;> first | assumption | omega | ((try simp (disch := omega) only [w32_of, w64_of, w8_of]) <;> first | assumption | omega | (split <;> omega) | (refine And.intro ?_ ?_ <;> split <;> omega)) | omega)⟩)
    · try simp (disch := omega) only [w32_of, w64_of, w8_of, decide_eq_true_eq, decide_eq_false_iff_not, Bool.not_eq_true] at c38
      exact wp_some (x_inr ⟨hσ_32, frσ_32, g35⟩)
  rintro ⟨s_89, σ_90⟩ _ y91
  try dsimp only at y91 ⊢
  obtain ⟨hσ_90, frσ_90, g90⟩ := y91
  exact wp_some ⟨hσ_90, frσ_90, g90⟩
theorem s_R_middle {σ : SG} {k_0 : Int} (hσ : II σ) (qk_0 : 0 ≤ k_0 ∧ k_0 ≤ 5000) (w0 : CUTs σ) (w1 : k_0 + 1 < σ kR_cutsMany 0) : wp_ (fR_middle σ k_0) (fun zz_ => II zz_ ∧ FR [kR_limbs, kR_sign, kR_w] σ zz_ ∧ (R01 zz_)) := by
  unfold fR_middle
  have c1 := ii_kR_cutsMany hσ 0
  have c1 := w0 k_0 (by omega) (by omega)
  have c2 := w0 (k_0 + 1) (by omega) (by omega)
  have c2 := w32_rng k_0
  refine wp_rdI (by (try dsimp only) <;> first | assumption | omega | ((try simp (disch := omega) only [w32_of, w64_of, w8_of]) <;> first | assumption | omega | (split <;> omega) | (refine And.intro ?_ ?_ <;> split <;> omega)) | omega) (by (try dsimp only) <;> first | assumption | omega | ((try simp (disch := omega) only [w32_of, w64_of, w8_of]) <;> first | assumption | omega | (split <;> omega) | (refine And.intro ?_ ?_ <;> split <;> omega)) | omega) (fun x_1 e_x_1 => ?_)
  try simp (disch := omega) only [w32_of, w64_of, w8_of] at e_x_1
  refine wp_bd (g_set (σ := σ) (t := 7) (v := x_1) hσ (by (try dsimp only) <;> first | assumption | omega | ((try simp (disch := omega) only [w32_of, w64_of, w8_of]) <;> first | assumption | omega | (split <;> omega) | (refine And.intro ?_ ?_ <;> split <;> omega)) | omega) (by (try dsimp only) <;> first | assumption | omega | ((try simp (disch := omega) only [w32_of, w64_of, w8_of]) <;> first | assumption | omega | (split <;> omega) | (refine And.intro ?_ ?_ <;> split <;> omega)) | omega) (by (try dsimp only) <;> first | assumption | omega | ((try simp (disch := omega) only [w32_of, w64_of, w8_of]) <;> first | assumption | omega | (split <;> omega) | (refine And.intro ?_ ?_ <;> split <;> omega)) | omega) (by (try dsimp only) <;> first | assumption | omega | ((try simp (disch := omega) only [w32_of, w64_of, w8_of]) <;> first | assumption | omega | (split <;> omega) | (refine And.intro ?_ ?_ <;> split <;> omega)) | omega)) ?_
  rintro σ_4 - ⟨hσ_4, flσ_4, g3, g4⟩
  have frσ_4 : FR [kR_limbs, kR_sign, kR_w] σ σ_4 := FR_le flσ_4 (by decide)
  have rgσ_4_7 : RG σ_4 7 (x_1) 2 := g3
  have kpσ_4 := g4
  have c5 := w32_rng (k_0 + 1)
  refine wp_rdI (by (try dsimp only) <;> first | assumption | omega | ((try simp (disch := omega) only [w32_of, w64_of, w8_of]) <;> first | assumption | omega | (split <;> omega) | (refine And.intro ?_ ?_ <;> split <;> omega)) | omega) (by (try dsimp only) <;> first | assumption | omega | ((try simp (disch := omega) only [w32_of, w64_of, w8_of]) <;> first | assumption | omega | (split <;> omega) | (refine And.intro ?_ ?_ <;> split <;> omega)) | omega) (fun x_5 e_x_5 => ?_)
  rw [FR_at frσ_4 (c := kR_partDen) (by decide)] at e_x_5
  try simp (disch := omega) only [w32_of, w64_of, w8_of] at e_x_5
  have c6 := FR_at flσ_4 (c := kR_partDen) (by decide) (k_0 + 1)
  refine wp_bd (g_set (σ := σ_4) (t := 8) (v := x_5) hσ_4 (by (try dsimp only) <;> first | assumption | omega | ((try simp (disch := omega) only [w32_of, w64_of, w8_of]) <;> first | assumption | omega | (split <;> omega) | (refine And.intro ?_ ?_ <;> split <;> omega)) | omega) (by (try dsimp only) <;> first | assumption | omega | ((try simp (disch := omega) only [w32_of, w64_of, w8_of]) <;> first | assumption | omega | (split <;> omega) | (refine And.intro ?_ ?_ <;> split <;> omega)) | omega) (by (try dsimp only) <;> first | assumption | omega | ((try simp (disch := omega) only [w32_of, w64_of, w8_of]) <;> first | assumption | omega | (split <;> omega) | (refine And.intro ?_ ?_ <;> split <;> omega)) | omega) (by (try dsimp only) <;> first | assumption | omega | ((try simp (disch := omega) only [w32_of, w64_of, w8_of]) <;> first | assumption | omega | (split <;> omega) | (refine And.intro ?_ ?_ <;> split <;> omega)) | omega)) ?_
  rintro σ_8 - ⟨hσ_8, flσ_8, g7, g8⟩
  have frσ_8 : FR [kR_limbs, kR_sign, kR_w] σ σ_8 := FR_tr frσ_4 flσ_8 (by decide) (by decide)
  have rgσ_8_8 : RG σ_8 8 (x_5) 2 := g7
  have kpσ_8 := g8
  have rgσ_8_7 : RG σ_8 7 (x_1) 2 := g8 7 _ _ (by omega) (by omega) (by omega) rgσ_4_7
  refine wp_bd (g_times (σ := σ_8) (t := 9) (a := 7) (b := 8) hσ_8 (by (try dsimp only) <;> first | assumption | omega | ((try simp (disch := omega) only [w32_of, w64_of, w8_of]) <;> first | assumption | omega | (split <;> omega) | (refine And.intro ?_ ?_ <;> split <;> omega)) | omega) (by (try dsimp only) <;> first | assumption | omega | ((try simp (disch := omega) only [w32_of, w64_of, w8_of]) <;> first | assumption | omega | (split <;> omega) | (refine And.intro ?_ ?_ <;> split <;> omega)) | omega) (by (try dsimp only) <;> first | assumption | omega | ((try simp (disch := omega) only [w32_of, w64_of, w8_of]) <;> first | assumption | omega | (split <;> omega) | (refine And.intro ?_ ?_ <;> split <;> omega)) | omega) (by (try dsimp only) <;> first | assumption | omega | ((try simp (disch := omega) only [w32_of, w64_of, w8_of]) <;> first | assumption | omega | (split <;> omega) | (refine And.intro ?_ ?_ <;> split <;> omega)) | omega) (by (try dsimp only) <;> first | assumption | omega | ((try simp (disch := omega) only [w32_of, w64_of, w8_of]) <;> first | assumption | omega | (split <;> omega) | (refine And.intro ?_ ?_ <;> split <;> omega)) | omega) (by (try dsimp only) <;> first | assumption | omega | ((try simp (disch := omega) only [w32_of, w64_of, w8_of]) <;> first | assumption | omega | (split <;> omega) | (refine And.intro ?_ ?_ <;> split <;> omega)) | omega) (by (try dsimp only) <;> first | assumption | omega | ((try simp (disch := omega) only [w32_of, w64_of, w8_of]) <;> first | assumption | omega | (split <;> omega) | (refine And.intro ?_ ?_ <;> split <;> omega)) | omega) (by (try dsimp only) <;> first | assumption | omega | ((try simp (disch := omega) only [w32_of, w64_of, w8_of]) <;> first | assumption | omega | (split <;> omega) | (refine And.intro ?_ ?_ <;> split <;> omega)) | omega) rgσ_8_7 rgσ_8_8 (by decide)) ?_
  rintro σ_10 - ⟨hσ_10, flσ_10, g9, g10⟩
  have frσ_10 : FR [kR_limbs, kR_sign, kR_w] σ σ_10 := FR_tr frσ_8 flσ_10 (by decide) (by decide)
  have rgσ_10_9 : RG σ_10 9 ((x_1) * (x_5)) 4 := g9
  have kpσ_10 := g10
  have rgσ_10_8 : RG σ_10 8 (x_5) 2 := g10 8 _ _ (by omega) (by omega) (by omega) rgσ_8_8
  have rgσ_10_7 : RG σ_10 7 (x_1) 2 := g10 7 _ _ (by omega) (by omega) (by omega) rgσ_8_7
  refine wp_rdI (by (try dsimp only) <;> first | assumption | omega | ((try simp (disch := omega) only [w32_of, w64_of, w8_of]) <;> first | assumption | omega | (split <;> omega) | (refine And.intro ?_ ?_ <;> split <;> omega)) | omega) (by (try dsimp only) <;> first | assumption | omega | ((try simp (disch := omega) only [w32_of, w64_of, w8_of]) <;> first | assumption | omega | (split <;> omega) | (refine And.intro ?_ ?_ <;> split <;> omega)) | omega) (fun x_11 e_x_11 => ?_)
  rw [FR_at frσ_10 (c := kR_partNum) (by decide)] at e_x_11
  try simp (disch := omega) only [w32_of, w64_of, w8_of] at e_x_11
  have c11 := FR_at flσ_10 (c := kR_partNum) (by decide) (k_0 + 1)
  have c12 := FR_at flσ_8 (c := kR_partNum) (by decide) (k_0 + 1)
  have c13 := FR_at flσ_4 (c := kR_partNum) (by decide) (k_0 + 1)
  refine wp_bd (g_set (σ := σ_10) (t := 7) (v := x_11) hσ_10 (by (try dsimp only) <;> first | assumption | omega | ((try simp (disch := omega) only [w32_of, w64_of, w8_of]) <;> first | assumption | omega | (split <;> omega) | (refine And.intro ?_ ?_ <;> split <;> omega)) | omega) (by (try dsimp only) <;> first | assumption | omega | ((try simp (disch := omega) only [w32_of, w64_of, w8_of]) <;> first | assumption | omega | (split <;> omega) | (refine And.intro ?_ ?_ <;> split <;> omega)) | omega) (by (try dsimp only) <;> first | assumption | omega | ((try simp (disch := omega) only [w32_of, w64_of, w8_of]) <;> first | assumption | omega | (split <;> omega) | (refine And.intro ?_ ?_ <;> split <;> omega)) | omega) (by (try dsimp only) <;> first | assumption | omega | ((try simp (disch := omega) only [w32_of, w64_of, w8_of]) <;> first | assumption | omega | (split <;> omega) | (refine And.intro ?_ ?_ <;> split <;> omega)) | omega)) ?_
  rintro σ_14 - ⟨hσ_14, flσ_14, g14, g15⟩
  have frσ_14 : FR [kR_limbs, kR_sign, kR_w] σ σ_14 := FR_tr frσ_10 flσ_14 (by decide) (by decide)
  have rgσ_14_7 : RG σ_14 7 (x_11) 2 := g14
  have kpσ_14 := g15
  have rgσ_14_9 : RG σ_14 9 ((x_1) * (x_5)) 4 := g15 9 _ _ (by omega) (by omega) (by omega) rgσ_10_9
  have rgσ_14_8 : RG σ_14 8 (x_5) 2 := g15 8 _ _ (by omega) (by omega) (by omega) rgσ_10_8
  refine wp_rdI (by (try dsimp only) <;> first | assumption | omega | ((try simp (disch := omega) only [w32_of, w64_of, w8_of]) <;> first | assumption | omega | (split <;> omega) | (refine And.intro ?_ ?_ <;> split <;> omega)) | omega) (by (try dsimp only) <;> first | assumption | omega | ((try simp (disch := omega) only [w32_of, w64_of, w8_of]) <;> first | assumption | omega | (split <;> omega) | (refine And.intro ?_ ?_ <;> split <;> omega)) | omega) (fun x_15 e_x_15 => ?_)
  rw [FR_at frσ_14 (c := kR_partDen) (by decide)] at e_x_15
  try simp (disch := omega) only [w32_of, w64_of, w8_of] at e_x_15
  have c16 := FR_at flσ_14 (c := kR_partDen) (by decide) k_0
  have c17 := FR_at flσ_10 (c := kR_partDen) (by decide) k_0
  have c18 := FR_at flσ_8 (c := kR_partDen) (by decide) k_0
  have c19 := FR_at flσ_4 (c := kR_partDen) (by decide) k_0
  refine wp_bd (g_set (σ := σ_14) (t := 8) (v := x_15) hσ_14 (by (try dsimp only) <;> first | assumption | omega | ((try simp (disch := omega) only [w32_of, w64_of, w8_of]) <;> first | assumption | omega | (split <;> omega) | (refine And.intro ?_ ?_ <;> split <;> omega)) | omega) (by (try dsimp only) <;> first | assumption | omega | ((try simp (disch := omega) only [w32_of, w64_of, w8_of]) <;> first | assumption | omega | (split <;> omega) | (refine And.intro ?_ ?_ <;> split <;> omega)) | omega) (by (try dsimp only) <;> first | assumption | omega | ((try simp (disch := omega) only [w32_of, w64_of, w8_of]) <;> first | assumption | omega | (split <;> omega) | (refine And.intro ?_ ?_ <;> split <;> omega)) | omega) (by (try dsimp only) <;> first | assumption | omega | ((try simp (disch := omega) only [w32_of, w64_of, w8_of]) <;> first | assumption | omega | (split <;> omega) | (refine And.intro ?_ ?_ <;> split <;> omega)) | omega)) ?_
  rintro σ_18 - ⟨hσ_18, flσ_18, g20, g21⟩
  have frσ_18 : FR [kR_limbs, kR_sign, kR_w] σ σ_18 := FR_tr frσ_14 flσ_18 (by decide) (by decide)
  have rgσ_18_8 : RG σ_18 8 (x_15) 2 := g20
  have kpσ_18 := g21
  have rgσ_18_7 : RG σ_18 7 (x_11) 2 := g21 7 _ _ (by omega) (by omega) (by omega) rgσ_14_7
  have rgσ_18_9 : RG σ_18 9 ((x_1) * (x_5)) 4 := g21 9 _ _ (by omega) (by omega) (by omega) rgσ_14_9
  refine wp_bd (g_times (σ := σ_18) (t := 10) (a := 7) (b := 8) hσ_18 (by (try dsimp only) <;> first | assumption | omega | ((try simp (disch := omega) only [w32_of, w64_of, w8_of]) <;> first | assumption | omega | (split <;> omega) | (refine And.intro ?_ ?_ <;> split <;> omega)) | omega) (by (try dsimp only) <;> first | assumption | omega | ((try simp (disch := omega) only [w32_of, w64_of, w8_of]) <;> first | assumption | omega | (split <;> omega) | (refine And.intro ?_ ?_ <;> split <;> omega)) | omega) (by (try dsimp only) <;> first | assumption | omega | ((try simp (disch := omega) only [w32_of, w64_of, w8_of]) <;> first | assumption | omega | (split <;> omega) | (refine And.intro ?_ ?_ <;> split <;> omega)) | omega) (by (try dsimp only) <;> first | assumption | omega | ((try simp (disch := omega) only [w32_of, w64_of, w8_of]) <;> first | assumption | omega | (split <;> omega) | (refine And.intro ?_ ?_ <;> split <;> omega)) | omega) (by (try dsimp only) <;> first | assumption | omega | ((try simp (disch := omega) only [w32_of, w64_of, w8_of]) <;> first | assumption | omega | (split <;> omega) | (refine And.intro ?_ ?_ <;> split <;> omega)) | omega) (by (try dsimp only) <;> first | assumption | omega | ((try simp (disch := omega) only [w32_of, w64_of, w8_of]) <;> first | assumption | omega | (split <;> omega) | (refine And.intro ?_ ?_ <;> split <;> omega)) | omega) (by (try dsimp only) <;> first | assumption | omega | ((try simp (disch := omega) only [w32_of, w64_of, w8_of]) <;> first | assumption | omega | (split <;> omega) | (refine And.intro ?_ ?_ <;> split <;> omega)) | omega) (by (try dsimp only) <;> first | assumption | omega | ((try simp (disch := omega) only [w32_of, w64_of, w8_of]) <;> first | assumption | omega | (split <;> omega) | (refine And.intro ?_ ?_ <;> split <;> omega)) | omega) rgσ_18_7 rgσ_18_8 (by decide)) ?_
  rintro σ_20 - ⟨hσ_20, flσ_20, g22, g23⟩
  have frσ_20 : FR [kR_limbs, kR_sign, kR_w] σ σ_20 := FR_tr frσ_18 flσ_20 (by decide) (by decide)
  have rgσ_20_10 : RG σ_20 10 ((x_11) * (x_15)) 4 := g22
  have kpσ_20 := g23
  have rgσ_20_8 : RG σ_20 8 (x_15) 2 := g23 8 _ _ (by omega) (by omega) (by omega) rgσ_18_8
  have rgσ_20_7 : RG σ_20 7 (x_11) 2 := g23 7 _ _ (by omega) (by omega) (by omega) rgσ_18_7
  have rgσ_20_9 : RG σ_20 9 ((x_1) * (x_5)) 4 := g23 9 _ _ (by omega) (by omega) (by omega) rgσ_18_9
  refine wp_bd (g_add (σ := σ_20) (t := 0) (a := 9) (b := 10) (less := false) hσ_20 (by (try dsimp only) <;> first | assumption | omega | ((try simp (disch := omega) only [w32_of, w64_of, w8_of]) <;> first | assumption | omega | (split <;> omega) | (refine And.intro ?_ ?_ <;> split <;> omega)) | omega) (by (try dsimp only) <;> first | assumption | omega | ((try simp (disch := omega) only [w32_of, w64_of, w8_of]) <;> first | assumption | omega | (split <;> omega) | (refine And.intro ?_ ?_ <;> split <;> omega)) | omega) (by (try dsimp only) <;> first | assumption | omega | ((try simp (disch := omega) only [w32_of, w64_of, w8_of]) <;> first | assumption | omega | (split <;> omega) | (refine And.intro ?_ ?_ <;> split <;> omega)) | omega) (by (try dsimp only) <;> first | assumption | omega | ((try simp (disch := omega) only [w32_of, w64_of, w8_of]) <;> first | assumption | omega | (split <;> omega) | (refine And.intro ?_ ?_ <;> split <;> omega)) | omega) (by (try dsimp only) <;> first | assumption | omega | ((try simp (disch := omega) only [w32_of, w64_of, w8_of]) <;> first | assumption | omega | (split <;> omega) | (refine And.intro ?_ ?_ <;> split <;> omega)) | omega) (by (try dsimp only) <;> first | assumption | omega | ((try simp (disch := omega) only [w32_of, w64_of, w8_of]) <;> first | assumption | omega | (split <;> omega) | (refine And.intro ?_ ?_ <;> split <;> omega)) | omega) (RG_le rgσ_20_9 (by decide : (4 : Int) ≤ 4)) (RG_le rgσ_20_10 (by decide : (4 : Int) ≤ 4)) (by decide)) ?_
  rintro σ_22 - ⟨hσ_22, flσ_22, g24, g25⟩
  have frσ_22 : FR [kR_limbs, kR_sign, kR_w] σ σ_22 := FR_tr frσ_20 flσ_22 (by decide) (by decide)
  have rgσ_22_0 : RG σ_22 0 (((x_1) * (x_5)) + ((x_11) * (x_15))) 5 := g24
  have kpσ_22 := g25
  have rgσ_22_10 : RG σ_22 10 ((x_11) * (x_15)) 4 := g25 10 _ _ (by omega) (by omega) (by omega) rgσ_20_10
  have rgσ_22_8 : RG σ_22 8 (x_15) 2 := g25 8 _ _ (by omega) (by omega) (by omega) rgσ_20_8
  have rgσ_22_7 : RG σ_22 7 (x_11) 2 := g25 7 _ _ (by omega) (by omega) (by omega) rgσ_20_7
  have rgσ_22_9 : RG σ_22 9 ((x_1) * (x_5)) 4 := g25 9 _ _ (by omega) (by omega) (by omega) rgσ_20_9
  refine wp_rdI (by (try dsimp only) <;> first | assumption | omega | ((try simp (disch := omega) only [w32_of, w64_of, w8_of]) <;> first | assumption | omega | (split <;> omega) | (refine And.intro ?_ ?_ <;> split <;> omega)) | omega) (by (try dsimp only) <;> first | assumption | omega | ((try simp (disch := omega) only [w32_of, w64_of, w8_of]) <;> first | assumption | omega | (split <;> omega) | (refine And.intro ?_ ?_ <;> split <;> omega)) | omega) (fun x_23 e_x_23 => ?_)
  rw [FR_at frσ_22 (c := kR_partDen) (by decide)] at e_x_23
  try simp (disch := omega) only [w32_of, w64_of, w8_of] at e_x_23
  have c26 := FR_at flσ_22 (c := kR_partDen) (by decide) k_0
  have c27 := FR_at flσ_20 (c := kR_partDen) (by decide) k_0
  have c28 := FR_at flσ_18 (c := kR_partDen) (by decide) k_0
  refine wp_bd (g_set (σ := σ_22) (t := 7) (v := x_23) hσ_22 (by (try dsimp only) <;> first | assumption | omega | ((try simp (disch := omega) only [w32_of, w64_of, w8_of]) <;> first | assumption | omega | (split <;> omega) | (refine And.intro ?_ ?_ <;> split <;> omega)) | omega) (by (try dsimp only) <;> first | assumption | omega | ((try simp (disch := omega) only [w32_of, w64_of, w8_of]) <;> first | assumption | omega | (split <;> omega) | (refine And.intro ?_ ?_ <;> split <;> omega)) | omega) (by (try dsimp only) <;> first | assumption | omega | ((try simp (disch := omega) only [w32_of, w64_of, w8_of]) <;> first | assumption | omega | (split <;> omega) | (refine And.intro ?_ ?_ <;> split <;> omega)) | omega) (by (try dsimp only) <;> first | assumption | omega | ((try simp (disch := omega) only [w32_of, w64_of, w8_of]) <;> first | assumption | omega | (split <;> omega) | (refine And.intro ?_ ?_ <;> split <;> omega)) | omega)) ?_
  rintro σ_26 - ⟨hσ_26, flσ_26, g29, g30⟩
  have frσ_26 : FR [kR_limbs, kR_sign, kR_w] σ σ_26 := FR_tr frσ_22 flσ_26 (by decide) (by decide)
  have rgσ_26_7 : RG σ_26 7 (x_23) 2 := g29
  have kpσ_26 := g30
  have rgσ_26_0 : RG σ_26 0 (((x_1) * (x_5)) + ((x_11) * (x_15))) 5 := g30 0 _ _ (by omega) (by omega) (by omega) rgσ_22_0
  have rgσ_26_10 : RG σ_26 10 ((x_11) * (x_15)) 4 := g30 10 _ _ (by omega) (by omega) (by omega) rgσ_22_10
  have rgσ_26_8 : RG σ_26 8 (x_15) 2 := g30 8 _ _ (by omega) (by omega) (by omega) rgσ_22_8
  have rgσ_26_9 : RG σ_26 9 ((x_1) * (x_5)) 4 := g30 9 _ _ (by omega) (by omega) (by omega) rgσ_22_9
  refine wp_rdI (by (try dsimp only) <;> first | assumption | omega | ((try simp (disch := omega) only [w32_of, w64_of, w8_of]) <;> first | assumption | omega | (split <;> omega) | (refine And.intro ?_ ?_ <;> split <;> omega)) | omega) (by (try dsimp only) <;> first | assumption | omega | ((try simp (disch := omega) only [w32_of, w64_of, w8_of]) <;> first | assumption | omega | (split <;> omega) | (refine And.intro ?_ ?_ <;> split <;> omega)) | omega) (fun x_27 e_x_27 => ?_)
  rw [FR_at frσ_26 (c := kR_partDen) (by decide)] at e_x_27
  try simp (disch := omega) only [w32_of, w64_of, w8_of] at e_x_27
  have c31 := FR_at flσ_26 (c := kR_partDen) (by decide) (k_0 + 1)
  have c32 := FR_at flσ_22 (c := kR_partDen) (by decide) (k_0 + 1)
  have c33 := FR_at flσ_20 (c := kR_partDen) (by decide) (k_0 + 1)
  have c34 := FR_at flσ_18 (c := kR_partDen) (by decide) (k_0 + 1)
  have c35 := FR_at flσ_14 (c := kR_partDen) (by decide) (k_0 + 1)
  have c36 := FR_at flσ_10 (c := kR_partDen) (by decide) (k_0 + 1)
  have c37 := FR_at flσ_8 (c := kR_partDen) (by decide) (k_0 + 1)
  refine wp_bd (g_set (σ := σ_26) (t := 8) (v := x_27) hσ_26 (by (try dsimp only) <;> first | assumption | omega | ((try simp (disch := omega) only [w32_of, w64_of, w8_of]) <;> first | assumption | omega | (split <;> omega) | (refine And.intro ?_ ?_ <;> split <;> omega)) | omega) (by (try dsimp only) <;> first | assumption | omega | ((try simp (disch := omega) only [w32_of, w64_of, w8_of]) <;> first | assumption | omega | (split <;> omega) | (refine And.intro ?_ ?_ <;> split <;> omega)) | omega) (by (try dsimp only) <;> first | assumption | omega | ((try simp (disch := omega) only [w32_of, w64_of, w8_of]) <;> first | assumption | omega | (split <;> omega) | (refine And.intro ?_ ?_ <;> split <;> omega)) | omega) (by (try dsimp only) <;> first | assumption | omega | ((try simp (disch := omega) only [w32_of, w64_of, w8_of]) <;> first | assumption | omega | (split <;> omega) | (refine And.intro ?_ ?_ <;> split <;> omega)) | omega)) ?_
  rintro σ_30 - ⟨hσ_30, flσ_30, g38, g39⟩
  have frσ_30 : FR [kR_limbs, kR_sign, kR_w] σ σ_30 := FR_tr frσ_26 flσ_30 (by decide) (by decide)
  have rgσ_30_8 : RG σ_30 8 (x_27) 2 := g38
  have kpσ_30 := g39
  have rgσ_30_7 : RG σ_30 7 (x_23) 2 := g39 7 _ _ (by omega) (by omega) (by omega) rgσ_26_7
  have rgσ_30_0 : RG σ_30 0 (((x_1) * (x_5)) + ((x_11) * (x_15))) 5 := g39 0 _ _ (by omega) (by omega) (by omega) rgσ_26_0
  have rgσ_30_10 : RG σ_30 10 ((x_11) * (x_15)) 4 := g39 10 _ _ (by omega) (by omega) (by omega) rgσ_26_10
  have rgσ_30_9 : RG σ_30 9 ((x_1) * (x_5)) 4 := g39 9 _ _ (by omega) (by omega) (by omega) rgσ_26_9
  refine wp_bd (g_times (σ := σ_30) (t := 9) (a := 7) (b := 8) hσ_30 (by (try dsimp only) <;> first | assumption | omega | ((try simp (disch := omega) only [w32_of, w64_of, w8_of]) <;> first | assumption | omega | (split <;> omega) | (refine And.intro ?_ ?_ <;> split <;> omega)) | omega) (by (try dsimp only) <;> first | assumption | omega | ((try simp (disch := omega) only [w32_of, w64_of, w8_of]) <;> first | assumption | omega | (split <;> omega) | (refine And.intro ?_ ?_ <;> split <;> omega)) | omega) (by (try dsimp only) <;> first | assumption | omega | ((try simp (disch := omega) only [w32_of, w64_of, w8_of]) <;> first | assumption | omega | (split <;> omega) | (refine And.intro ?_ ?_ <;> split <;> omega)) | omega) (by (try dsimp only) <;> first | assumption | omega | ((try simp (disch := omega) only [w32_of, w64_of, w8_of]) <;> first | assumption | omega | (split <;> omega) | (refine And.intro ?_ ?_ <;> split <;> omega)) | omega) (by (try dsimp only) <;> first | assumption | omega | ((try simp (disch := omega) only [w32_of, w64_of, w8_of]) <;> first | assumption | omega | (split <;> omega) | (refine And.intro ?_ ?_ <;> split <;> omega)) | omega) (by (try dsimp only) <;> first | assumption | omega | ((try simp (disch := omega) only [w32_of, w64_of, w8_of]) <;> first | assumption | omega | (split <;> omega) | (refine And.intro ?_ ?_ <;> split <;> omega)) | omega) (by (try dsimp only) <;> first | assumption | omega | ((try simp (disch := omega) only [w32_of, w64_of, w8_of]) <;> first | assumption | omega | (split <;> omega) | (refine And.intro ?_ ?_ <;> split <;> omega)) | omega) (by (try dsimp only) <;> first | assumption | omega | ((try simp (disch := omega) only [w32_of, w64_of, w8_of]) <;> first | assumption | omega | (split <;> omega) | (refine And.intro ?_ ?_ <;> split <;> omega)) | omega) rgσ_30_7 rgσ_30_8 (by decide)) ?_
  rintro σ_32 - ⟨hσ_32, flσ_32, g40, g41⟩
  have frσ_32 : FR [kR_limbs, kR_sign, kR_w] σ σ_32 := FR_tr frσ_30 flσ_32 (by decide) (by decide)
  have rgσ_32_9 : RG σ_32 9 ((x_23) * (x_27)) 4 := g40
  have kpσ_32 := g41
  have rgσ_32_8 : RG σ_32 8 (x_27) 2 := g41 8 _ _ (by omega) (by omega) (by omega) rgσ_30_8
  have rgσ_32_7 : RG σ_32 7 (x_23) 2 := g41 7 _ _ (by omega) (by omega) (by omega) rgσ_30_7
  have rgσ_32_0 : RG σ_32 0 (((x_1) * (x_5)) + ((x_11) * (x_15))) 5 := g41 0 _ _ (by omega) (by omega) (by omega) rgσ_30_0
  have rgσ_32_10 : RG σ_32 10 ((x_11) * (x_15)) 4 := g41 10 _ _ (by omega) (by omega) (by omega) rgσ_30_10
  refine wp_bd (g_set (σ := σ_32) (t := 8) (v := 2) hσ_32 (by (try dsimp only) <;> first | assumption | omega | ((try simp (disch := omega) only [w32_of, w64_of, w8_of]) <;> first | assumption | omega | (split <;> omega) | (refine And.intro ?_ ?_ <;> split <;> omega)) | omega) (by (try dsimp only) <;> first | assumption | omega | ((try simp (disch := omega) only [w32_of, w64_of, w8_of]) <;> first | assumption | omega | (split <;> omega) | (refine And.intro ?_ ?_ <;> split <;> omega)) | omega) (by (try dsimp only) <;> first | assumption | omega | ((try simp (disch := omega) only [w32_of, w64_of, w8_of]) <;> first | assumption | omega | (split <;> omega) | (refine And.intro ?_ ?_ <;> split <;> omega)) | omega) (by (try dsimp only) <;> first | assumption | omega | ((try simp (disch := omega) only [w32_of, w64_of, w8_of]) <;> first | assumption | omega | (split <;> omega) | (refine And.intro ?_ ?_ <;> split <;> omega)) | omega)) ?_
  rintro σ_34 - ⟨hσ_34, flσ_34, g42, g43⟩
  have frσ_34 : FR [kR_limbs, kR_sign, kR_w] σ σ_34 := FR_tr frσ_32 flσ_34 (by decide) (by decide)
  have rgσ_34_8 : RG σ_34 8 (2) 2 := g42
  have kpσ_34 := g43
  have rgσ_34_9 : RG σ_34 9 ((x_23) * (x_27)) 4 := g43 9 _ _ (by omega) (by omega) (by omega) rgσ_32_9
  have rgσ_34_7 : RG σ_34 7 (x_23) 2 := g43 7 _ _ (by omega) (by omega) (by omega) rgσ_32_7
  have rgσ_34_0 : RG σ_34 0 (((x_1) * (x_5)) + ((x_11) * (x_15))) 5 := g43 0 _ _ (by omega) (by omega) (by omega) rgσ_32_0
  have rgσ_34_10 : RG σ_34 10 ((x_11) * (x_15)) 4 := g43 10 _ _ (by omega) (by omega) (by omega) rgσ_32_10
  refine wp_bd (g_times (σ := σ_34) (t := 1) (a := 9) (b := 8) hσ_34 (by (try dsimp only) <;> first | assumption | omega | ((try simp (disch := omega) only [w32_of, w64_of, w8_of]) <;> first | assumption | omega | (split <;> omega) | (refine And.intro ?_ ?_ <;> split <;> omega)) | omega) (by (try dsimp only) <;> first | assumption | omega | ((try simp (disch := omega) only [w32_of, w64_of, w8_of]) <;> first | assumption | omega | (split <;> omega) | (refine And.intro ?_ ?_ <;> split <;> omega)) | omega) (by (try dsimp only) <;> first | assumption | omega | ((try simp (disch := omega) only [w32_of, w64_of, w8_of]) <;> first | assumption | omega | (split <;> omega) | (refine And.intro ?_ ?_ <;> split <;> omega)) | omega) (by (try dsimp only) <;> first | assumption | omega | ((try simp (disch := omega) only [w32_of, w64_of, w8_of]) <;> first | assumption | omega | (split <;> omega) | (refine And.intro ?_ ?_ <;> split <;> omega)) | omega) (by (try dsimp only) <;> first | assumption | omega | ((try simp (disch := omega) only [w32_of, w64_of, w8_of]) <;> first | assumption | omega | (split <;> omega) | (refine And.intro ?_ ?_ <;> split <;> omega)) | omega) (by (try dsimp only) <;> first | assumption | omega | ((try simp (disch := omega) only [w32_of, w64_of, w8_of]) <;> first | assumption | omega | (split <;> omega) | (refine And.intro ?_ ?_ <;> split <;> omega)) | omega) (by (try dsimp only) <;> first | assumption | omega | ((try simp (disch := omega) only [w32_of, w64_of, w8_of]) <;> first | assumption | omega | (split <;> omega) | (refine And.intro ?_ ?_ <;> split <;> omega)) | omega) (by (try dsimp only) <;> first | assumption | omega | ((try simp (disch := omega) only [w32_of, w64_of, w8_of]) <;> first | assumption | omega | (split <;> omega) | (refine And.intro ?_ ?_ <;> split <;> omega)) | omega) rgσ_34_9 rgσ_34_8 (by decide)) ?_
  rintro σ_36 - ⟨hσ_36, flσ_36, g44, g45⟩
  have frσ_36 : FR [kR_limbs, kR_sign, kR_w] σ σ_36 := FR_tr frσ_34 flσ_36 (by decide) (by decide)
  have rgσ_36_1 : RG σ_36 1 (((x_23) * (x_27)) * (2)) 6 := g44
  have kpσ_36 := g45
  have rgσ_36_8 : RG σ_36 8 (2) 2 := g45 8 _ _ (by omega) (by omega) (by omega) rgσ_34_8
  have rgσ_36_9 : RG σ_36 9 ((x_23) * (x_27)) 4 := g45 9 _ _ (by omega) (by omega) (by omega) rgσ_34_9
  have rgσ_36_7 : RG σ_36 7 (x_23) 2 := g45 7 _ _ (by omega) (by omega) (by omega) rgσ_34_7
  have rgσ_36_0 : RG σ_36 0 (((x_1) * (x_5)) + ((x_11) * (x_15))) 5 := g45 0 _ _ (by omega) (by omega) (by omega) rgσ_34_0
  have rgσ_36_10 : RG σ_36 10 ((x_11) * (x_15)) 4 := g45 10 _ _ (by omega) (by omega) (by omega) rgσ_34_10
  exact wp_some ⟨hσ_36, frσ_36, (by (try dsimp only) <;> (exact ⟨⟨_, RG_le rgσ_36_0 (by decide)⟩, ⟨_, RG_le rgσ_36_1 (by decide)⟩⟩))⟩
theorem s_R_relateAlong {σ : SG} {i_0 : Int} (hσ : II σ) (qi_0 : 0 ≤ i_0 ∧ i_0 ≤ 4199) (w0 : ND σ) (w1 : i_0 < σ kR_segments 0) (w2 : σ kR_segments 0 ≤ 256) : wp_ (fR_relateAlong σ i_0) (fun zz_ => II zz_ ∧ FR [kR_baseX, kR_baseY, kR_cutsMany, kR_hasInside, kR_isInner, kR_limbs, kR_matrix, kR_meetX, kR_meetY, kR_offX, kR_offY, kR_partDen, kR_partNum, kR_sign, kR_w, kR_wayX, kR_wayY] σ zz_) := by
  unfold fR_relateAlong
  have c1 := ii_kR_segments hσ 0
  refine wp_bd (s_R_cutAll (σ := σ) (i_0 := i_0) hσ (by (try dsimp only) <;> first | assumption | omega | ((try simp (disch := omega) only [w32_of, w64_of, w8_of]) <;> first | assumption | omega | (split <;> omega) | (refine And.intro ?_ ?_ <;> split <;> omega)) | omega) w0 (by (try dsimp only) <;> first | assumption | omega | ((try simp (disch := omega) only [w32_of, w64_of, w8_of]) <;> first | assumption | omega | (split <;> omega) | (refine And.intro ?_ ?_ <;> split <;> omega)) | omega) (by (try dsimp only) <;> first | assumption | omega | ((try simp (disch := omega) only [w32_of, w64_of, w8_of]) <;> first | assumption | omega | (split <;> omega) | (refine And.intro ?_ ?_ <;> split <;> omega)) | omega)) ?_
  rintro σ_2 - ⟨hσ_2, flσ_2, g2⟩
  have frσ_2 : FR [kR_baseX, kR_baseY, kR_cutsMany, kR_hasInside, kR_isInner, kR_limbs, kR_matrix, kR_meetX, kR_meetY, kR_offX, kR_offY, kR_partDen, kR_partNum, kR_sign, kR_w, kR_wayX, kR_wayY] σ σ_2 := FR_le flσ_2 (by decide)
  try simp (disch := omega) only [w32_of, w64_of, w8_of] at g2
  have c3 := w32_rng i_0
  refine wp_rdI (by (try dsimp only) <;> first | assumption | omega | ((try simp (disch := omega) only [w32_of, w64_of, w8_of]) <;> first | assumption | omega | (split <;> omega) | (refine And.intro ?_ ?_ <;> split <;> omega)) | omega) (by (try dsimp only) <;> first | assumption | omega | ((try simp (disch := omega) only [w32_of, w64_of, w8_of]) <;> first | assumption | omega | (split <;> omega) | (refine And.intro ?_ ?_ <;> split <;> omega)) | omega) (fun x_3 e_x_3 => ?_)
  have b_x_3 : (-1000000000) ≤ x_3 ∧ x_3 ≤ 1000000000 := by rw [e_x_3]; exact ii_kR_sx hσ_2 _
  rw [FR_at frσ_2 (c := kR_sx) (by decide)] at e_x_3
  try simp (disch := omega) only [w32_of, w64_of, w8_of] at e_x_3
  have c4 := ii_kR_sx hσ_2 i_0
  have c5 := FR_at flσ_2 (c := kR_sx) (by decide) i_0
  have c6 := ii_kR_sx hσ i_0
  refine wp_wfI hσ_2 b_kR_baseX (by (try dsimp only) <;> first | assumption | omega | ((try simp (disch := omega) only [w32_of, w64_of, w8_of]) <;> first | assumption | omega | (split <;> omega) | (refine And.intro ?_ ?_ <;> split <;> omega)) | omega) (fun σ_5 hσ_5 eσ_5 => ?_)
  try simp (disch := omega) only [w32_of, w64_of, w8_of] at eσ_5
  have flσ_5 := FR_sg eσ_5
  have frσ_5 : FR [kR_baseX, kR_baseY, kR_cutsMany, kR_hasInside, kR_isInner, kR_limbs, kR_matrix, kR_meetX, kR_meetY, kR_offX, kR_offY, kR_partDen, kR_partNum, kR_sign, kR_w, kR_wayX, kR_wayY] σ σ_5 := FR_tr frσ_2 flσ_5 (by decide) (by decide)
  refine wp_rdI (by (try dsimp only) <;> first | assumption | omega | ((try simp (disch := omega) only [w32_of, w64_of, w8_of]) <;> first | assumption | omega | (split <;> omega) | (refine And.intro ?_ ?_ <;> split <;> omega)) | omega) (by (try dsimp only) <;> first | assumption | omega | ((try simp (disch := omega) only [w32_of, w64_of, w8_of]) <;> first | assumption | omega | (split <;> omega) | (refine And.intro ?_ ?_ <;> split <;> omega)) | omega) (fun x_6 e_x_6 => ?_)
  have b_x_6 : (-1000000000) ≤ x_6 ∧ x_6 ≤ 1000000000 := by rw [e_x_6]; exact ii_kR_sy hσ_5 _
  rw [FR_at frσ_5 (c := kR_sy) (by decide)] at e_x_6
  try simp (disch := omega) only [w32_of, w64_of, w8_of] at e_x_6
  have c7 := ii_kR_sy hσ_5 i_0
  have c8 := FR_at flσ_5 (c := kR_sy) (by decide) i_0
  have c9 := ii_kR_sy hσ_2 i_0
  have c10 := FR_at flσ_2 (c := kR_sy) (by decide) i_0
  have c11 := ii_kR_sy hσ i_0
  refine wp_wfI hσ_5 b_kR_baseY (by (try dsimp only) <;> first | assumption | omega | ((try simp (disch := omega) only [w32_of, w64_of, w8_of]) <;> first | assumption | omega | (split <;> omega) | (refine And.intro ?_ ?_ <;> split <;> omega)) | omega) (fun σ_8 hσ_8 eσ_8 => ?_)
  try simp (disch := omega) only [w32_of, w64_of, w8_of] at eσ_8
  have flσ_8 := FR_sg eσ_8
  have frσ_8 : FR [kR_baseX, kR_baseY, kR_cutsMany, kR_hasInside, kR_isInner, kR_limbs, kR_matrix, kR_meetX, kR_meetY, kR_offX, kR_offY, kR_partDen, kR_partNum, kR_sign, kR_w, kR_wayX, kR_wayY] σ σ_8 := FR_tr frσ_5 flσ_8 (by decide) (by decide)
  refine wp_rdI (by (try dsimp only) <;> first | assumption | omega | ((try simp (disch := omega) only [w32_of, w64_of, w8_of]) <;> first | assumption | omega | (split <;> omega) | (refine And.intro ?_ ?_ <;> split <;> omega)) | omega) (by (try dsimp only) <;> first | assumption | omega | ((try simp (disch := omega) only [w32_of, w64_of, w8_of]) <;> first | assumption | omega | (split <;> omega) | (refine And.intro ?_ ?_ <;> split <;> omega)) | omega) (fun x_9 e_x_9 => ?_)
  have b_x_9 : (-1000000000) ≤ x_9 ∧ x_9 ≤ 1000000000 := by rw [e_x_9]; exact ii_kR_ex hσ_8 _
  rw [FR_at frσ_8 (c := kR_ex) (by decide)] at e_x_9
  try simp (disch := omega) only [w32_of, w64_of, w8_of] at e_x_9
  have c12 := ii_kR_ex hσ_8 i_0
  have c13 := FR_at flσ_8 (c := kR_ex) (by decide) i_0
  have c14 := ii_kR_ex hσ_5 i_0
  have c15 := FR_at flσ_5 (c := kR_ex) (by decide) i_0
  have c16 := ii_kR_ex hσ_2 i_0
  have c17 := FR_at flσ_2 (c := kR_ex) (by decide) i_0
  have c18 := ii_kR_ex hσ i_0
  refine wp_rdI (by (try dsimp only) <;> first | assumption | omega | ((try simp (disch := omega) only [w32_of, w64_of, w8_of]) <;> first | assumption | omega | (split <;> omega) | (refine And.intro ?_ ?_ <;> split <;> omega)) | omega) (by (try dsimp only) <;> first | assumption | omega | ((try simp (disch := omega) only [w32_of, w64_of, w8_of]) <;> first | assumption | omega | (split <;> omega) | (refine And.intro ?_ ?_ <;> split <;> omega)) | omega) (fun x_11 e_x_11 => ?_)
  have b_x_11 : (-1000000000) ≤ x_11 ∧ x_11 ≤ 1000000000 := by rw [e_x_11]; exact ii_kR_sx hσ_8 _
  rw [FR_at frσ_8 (c := kR_sx) (by decide)] at e_x_11
  try simp (disch := omega) only [w32_of, w64_of, w8_of] at e_x_11
  have c19 := ii_kR_sx hσ_8 i_0
  have c20 := FR_at flσ_8 (c := kR_sx) (by decide) i_0
  have c21 := ii_kR_sx hσ_5 i_0
  have c22 := FR_at flσ_5 (c := kR_sx) (by decide) i_0
  refine wp_wfI hσ_8 b_kR_wayX (by (try dsimp only) <;> first | assumption | omega | ((try simp (disch := omega) only [w32_of, w64_of, w8_of]) <;> first | assumption | omega | (split <;> omega) | (refine And.intro ?_ ?_ <;> split <;> omega)) | omega) (fun σ_13 hσ_13 eσ_13 => ?_)
  try simp (disch := omega) only [w32_of, w64_of, w8_of] at eσ_13
  have flσ_13 := FR_sg eσ_13
  have frσ_13 : FR [kR_baseX, kR_baseY, kR_cutsMany, kR_hasInside, kR_isInner, kR_limbs, kR_matrix, kR_meetX, kR_meetY, kR_offX, kR_offY, kR_partDen, kR_partNum, kR_sign, kR_w, kR_wayX, kR_wayY] σ σ_13 := FR_tr frσ_8 flσ_13 (by decide) (by decide)
  refine wp_rdI (by (try dsimp only) <;> first | assumption | omega | ((try simp (disch := omega) only [w32_of, w64_of, w8_of]) <;> first | assumption | omega | (split <;> omega) | (refine And.intro ?_ ?_ <;> split <;> omega)) | omega) (by (try dsimp only) <;> first | assumption | omega | ((try simp (disch := omega) only [w32_of, w64_of, w8_of]) <;> first | assumption | omega | (split <;> omega) | (refine And.intro ?_ ?_ <;> split <;> omega)) | omega) (fun x_14 e_x_14 => ?_)
  have b_x_14 : (-1000000000) ≤ x_14 ∧ x_14 ≤ 1000000000 := by rw [e_x_14]; exact ii_kR_ey hσ_13 _
  rw [FR_at frσ_13 (c := kR_ey) (by decide)] at e_x_14
  try simp (disch := omega) only [w32_of, w64_of, w8_of] at e_x_14
  have c23 := ii_kR_ey hσ_13 i_0
  have c24 := FR_at flσ_13 (c := kR_ey) (by decide) i_0
  have c25 := ii_kR_ey hσ_8 i_0
  have c26 := FR_at flσ_8 (c := kR_ey) (by decide) i_0
  have c27 := ii_kR_ey hσ_5 i_0
  have c28 := FR_at flσ_5 (c := kR_ey) (by decide) i_0
  have c29 := ii_kR_ey hσ_2 i_0
  have c30 := FR_at flσ_2 (c := kR_ey) (by decide) i_0
  have c31 := ii_kR_ey hσ i_0
  refine wp_rdI (by (try dsimp only) <;> first | assumption | omega | ((try simp (disch := omega) only [w32_of, w64_of, w8_of]) <;> first | assumption | omega | (split <;> omega) | (refine And.intro ?_ ?_ <;> split <;> omega)) | omega) (by (try dsimp only) <;> first | assumption | omega | ((try simp (disch := omega) only [w32_of, w64_of, w8_of]) <;> first | assumption | omega | (split <;> omega) | (refine And.intro ?_ ?_ <;> split <;> omega)) | omega) (fun x_16 e_x_16 => ?_)
  have b_x_16 : (-1000000000) ≤ x_16 ∧ x_16 ≤ 1000000000 := by rw [e_x_16]; exact ii_kR_sy hσ_13 _
  rw [FR_at frσ_13 (c := kR_sy) (by decide)] at e_x_16
  try simp (disch := omega) only [w32_of, w64_of, w8_of] at e_x_16
  have c32 := ii_kR_sy hσ_13 i_0
  have c33 := FR_at flσ_13 (c := kR_sy) (by decide) i_0
  have c34 := ii_kR_sy hσ_8 i_0
  have c35 := FR_at flσ_8 (c := kR_sy) (by decide) i_0
  refine wp_wfI hσ_13 b_kR_wayY (by (try dsimp only) <;> first | assumption | omega | ((try simp (disch := omega) only [w32_of, w64_of, w8_of]) <;> first | assumption | omega | (split <;> omega) | (refine And.intro ?_ ?_ <;> split <;> omega)) | omega) (fun σ_18 hσ_18 eσ_18 => ?_)
  try simp (disch := omega) only [w32_of, w64_of, w8_of] at eσ_18
  have flσ_18 := FR_sg eσ_18
  have frσ_18 : FR [kR_baseX, kR_baseY, kR_cutsMany, kR_hasInside, kR_isInner, kR_limbs, kR_matrix, kR_meetX, kR_meetY, kR_offX, kR_offY, kR_partDen, kR_partNum, kR_sign, kR_w, kR_wayX, kR_wayY] σ σ_18 := FR_tr frσ_13 flσ_18 (by decide) (by decide)
  refine wp_bd (P := fun rr_ => II rr_.2 ∧ FR [kR_baseX, kR_baseY, kR_cutsMany, kR_hasInside, kR_isInner, kR_limbs, kR_matrix, kR_meetX, kR_meetY, kR_offX, kR_offY, kR_partDen, kR_partNum, kR_sign, kR_w, kR_wayX, kR_wayY] σ rr_.2 ∧ (True)) ?_ ?_
  · refine wp_whl (fun ss_ => II ss_.2 ∧ FR [kR_baseX, kR_baseY, kR_cutsMany, kR_hasInside, kR_isInner, kR_limbs, kR_matrix, kR_meetX, kR_meetY, kR_offX, kR_offY, kR_partDen, kR_partNum, kR_sign, kR_w, kR_wayX, kR_wayY] σ ss_.2 ∧ (0 ≤ ss_.1 ∧ ss_.1 ≤ 5000) ∧ (CUTs ss_.2)) (fun ss_ => (5001 - ss_.1).toNat) ⟨hσ_18, frσ_18, (by (try dsimp only) <;> first | assumption | omega | ((try simp (disch := omega) only [w32_of, w64_of, w8_of]) <;> first | assumption | omega | (split <;> omega) | (refine And.intro ?_ ?_ <;> split <;> omega)) | omega), (CUTs_f flσ_18 (by decide) (CUTs_f flσ_13 (by decide) (CUTs_f flσ_8 (by decide) (CUTs_f flσ_5 (by decide) g2))))⟩ ?_
    rintro ⟨k_19, σ_20⟩ y37
    try dsimp only at y37 ⊢
    obtain ⟨hσ_20, frσ_20, g36, cu⟩ := y37
    have c39 := w32_rng k_19
    have c40 := ii_kR_cutsMany hσ_20 0
    have c41 := w32_rng (σ_20 kR_cutsMany 0)
    refine wp_if (fun c38 => ?_) (fun c38 => ?_)
    · try simp (disch := omega) only [w32_of, w64_of, w8_of, decide_eq_true_eq, decide_eq_false_iff_not, Bool.not_eq_true] at c38
      have c1 := cu k_19 (by omega) (by omega)
      refine wp_rdI (by (try dsimp only) <;> first | assumption | omega | ((try simp (disch := omega) only [w32_of, w64_of, w8_of]) <;> first | assumption | omega | (split <;> omega) | (refine And.intro ?_ ?_ <;> split <;> omega)) | omega) (by (try dsimp only) <;> first | assumption | omega | ((try simp (disch := omega) only [w32_of, w64_of, w8_of]) <;> first | assumption | omega | (split <;> omega) | (refine And.intro ?_ ?_ <;> split <;> omega)) | omega) (fun x_29 e_x_29 => ?_)
      try simp (disch := omega) only [w32_of, w64_of, w8_of] at e_x_29
      refine wp_bd (g_set (σ := σ_20) (t := 0) (v := x_29) hσ_20 (by (try dsimp only) <;> first | assumption | omega | ((try simp (disch := omega) only [w32_of, w64_of, w8_of]) <;> first | assumption | omega | (split <;> omega) | (refine And.intro ?_ ?_ <;> split <;> omega)) | omega) (by (try dsimp only) <;> first | assumption | omega | ((try simp (disch := omega) only [w32_of, w64_of, w8_of]) <;> first | assumption | omega | (split <;> omega) | (refine And.intro ?_ ?_ <;> split <;> omega)) | omega) (by (try dsimp only) <;> first | assumption | omega | ((try simp (disch := omega) only [w32_of, w64_of, w8_of]) <;> first | assumption | omega | (split <;> omega) | (refine And.intro ?_ ?_ <;> split <;> omega)) | omega) (by (try dsimp only) <;> first | assumption | omega | ((try simp (disch := omega) only [w32_of, w64_of, w8_of]) <;> first | assumption | omega | (split <;> omega) | (refine And.intro ?_ ?_ <;> split <;> omega)) | omega)) ?_
      rintro σ_32 - ⟨hσ_32, flσ_32, g42, g43⟩
      have frσ_32 : FR [kR_baseX, kR_baseY, kR_cutsMany, kR_hasInside, kR_isInner, kR_limbs, kR_matrix, kR_meetX, kR_meetY, kR_offX, kR_offY, kR_partDen, kR_partNum, kR_sign, kR_w, kR_wayX, kR_wayY] σ σ_32 := FR_tr frσ_20 flσ_32 (by decide) (by decide)
      have rgσ_32_0 : RG σ_32 0 (x_29) 2 := g42
      have kpσ_32 := g43
      refine wp_rdI (by (try dsimp only) <;> first | assumption | omega | ((try simp (disch := omega) only [w32_of, w64_of, w8_of]) <;> first | assumption | omega | (split <;> omega) | (refine And.intro ?_ ?_ <;> split <;> omega)) | omega) (by (try dsimp only) <;> first | assumption | omega | ((try simp (disch := omega) only [w32_of, w64_of, w8_of]) <;> first | assumption | omega | (split <;> omega) | (refine And.intro ?_ ?_ <;> split <;> omega)) | omega) (fun x_33 e_x_33 => ?_)
      try simp (disch := omega) only [w32_of, w64_of, w8_of] at e_x_33
      have c44 := FR_at flσ_32 (c := kR_partDen) (by decide) k_19
      refine wp_bd (g_set (σ := σ_32) (t := 1) (v := x_33) hσ_32 (by (try dsimp only) <;> first | assumption | omega | ((try simp (disch := omega) only [w32_of, w64_of, w8_of]) <;> first | assumption | omega | (split <;> omega) | (refine And.intro ?_ ?_ <;> split <;> omega)) | omega) (by (try dsimp only) <;> first | assumption | omega | ((try simp (disch := omega) only [w32_of, w64_of, w8_of]) <;> first | assumption | omega | (split <;> omega) | (refine And.intro ?_ ?_ <;> split <;> omega)) | omega) (by (try dsimp only) <;> first | assumption | omega | ((try simp (disch := omega) only [w32_of, w64_of, w8_of]) <;> first | assumption | omega | (split <;> omega) | (refine And.intro ?_ ?_ <;> split <;> omega)) | omega) (by (try dsimp only) <;> first | assumption | omega | ((try simp (disch := omega) only [w32_of, w64_of, w8_of]) <;> first | assumption | omega | (split <;> omega) | (refine And.intro ?_ ?_ <;> split <;> omega)) | omega)) ?_
      rintro σ_36 - ⟨hσ_36, flσ_36, g45, g46⟩
      have frσ_36 : FR [kR_baseX, kR_baseY, kR_cutsMany, kR_hasInside, kR_isInner, kR_limbs, kR_matrix, kR_meetX, kR_meetY, kR_offX, kR_offY, kR_partDen, kR_partNum, kR_sign, kR_w, kR_wayX, kR_wayY] σ σ_36 := FR_tr frσ_32 flσ_36 (by decide) (by decide)
      have rgσ_36_1 : RG σ_36 1 (x_33) 2 := g45
      have kpσ_36 := g46
      have rgσ_36_0 : RG σ_36 0 (x_29) 2 := g46 0 _ _ (by omega) (by omega) (by omega) rgσ_32_0
      refine wp_bd (s_R_where (σ := σ_36) (shape_0 := 0) (onEdge_0 := false) hσ_36 (by (try dsimp only) <;> first | assumption | omega | ((try simp (disch := omega) only [w32_of, w64_of, w8_of]) <;> first | assumption | omega | (split <;> omega) | (refine And.intro ?_ ?_ <;> split <;> omega)) | omega) (by first | assumption | exact ⟨⟨_, RG_le rgσ_36_0 (by decide)⟩, ⟨_, RG_le rgσ_36_1 (by decide)⟩⟩)) ?_
      rintro ⟨x_39, σ_38⟩ - y49
      try dsimp only at y49 ⊢
      obtain ⟨hσ_38, flσ_38, g47, g48⟩ := y49
      have frσ_38 : FR [kR_baseX, kR_baseY, kR_cutsMany, kR_hasInside, kR_isInner, kR_limbs, kR_matrix, kR_meetX, kR_meetY, kR_offX, kR_offY, kR_partDen, kR_partNum, kR_sign, kR_w, kR_wayX, kR_wayY] σ σ_38 := FR_tr frσ_36 flσ_38 (by decide) (by decide)
      try simp (disch := omega) only [w32_of, w64_of, w8_of] at g47
      try simp (disch := omega) only [w32_of, w64_of, w8_of] at g48
      refine wp_bd (s_R_where (σ := σ_38) (shape_0 := 1) (onEdge_0 := false) hσ_38 (by (try dsimp only) <;> first | assumption | omega | ((try simp (disch := omega) only [w32_of, w64_of, w8_of]) <;> first | assumption | omega | (split <;> omega) | (refine And.intro ?_ ?_ <;> split <;> omega)) | omega) (by first | assumption | exact ⟨⟨_, RG_le rgσ_36_0 (by decide)⟩, ⟨_, RG_le rgσ_36_1 (by decide)⟩⟩)) ?_
      rintro ⟨x_42, σ_41⟩ - y52
      try dsimp only at y52 ⊢
      obtain ⟨hσ_41, flσ_41, g50, g51⟩ := y52
      have frσ_41 : FR [kR_baseX, kR_baseY, kR_cutsMany, kR_hasInside, kR_isInner, kR_limbs, kR_matrix, kR_meetX, kR_meetY, kR_offX, kR_offY, kR_partDen, kR_partNum, kR_sign, kR_w, kR_wayX, kR_wayY] σ σ_41 := FR_tr frσ_38 flσ_41 (by decide) (by decide)
      try simp (disch := omega) only [w32_of, w64_of, w8_of] at g50
      try simp (disch := omega) only [w32_of, w64_of, w8_of] at g51
      refine wp_bd (s_R_mark (σ := σ_41) (a_0 := x_39) (b_0 := x_42) (dimension_0 := 0) hσ_41 (by (try dsimp only) <;> first | assumption | omega | ((try simp (disch := omega) only [w32_of, w64_of, w8_of]) <;> first | assumption | omega | (split <;> omega) | (refine And.intro ?_ ?_ <;> split <;> omega)) | omega) (by (try dsimp only) <;> first | assumption | omega | ((try simp (disch := omega) only [w32_of, w64_of, w8_of]) <;> first | assumption | omega | (split <;> omega) | (refine And.intro ?_ ?_ <;> split <;> omega)) | omega) (by (try dsimp only) <;> first | assumption | omega | ((try simp (disch := omega) only [w32_of, w64_of, w8_of]) <;> first | assumption | omega | (split <;> omega) | (refine And.intro ?_ ?_ <;> split <;> omega)) | omega)) ?_
      rintro σ_44 - ⟨hσ_44, flσ_44⟩
      have frσ_44 : FR [kR_baseX, kR_baseY, kR_cutsMany, kR_hasInside, kR_isInner, kR_limbs, kR_matrix, kR_meetX, kR_meetY, kR_offX, kR_offY, kR_partDen, kR_partNum, kR_sign, kR_w, kR_wayX, kR_wayY] σ σ_44 := FR_tr frσ_41 flσ_44 (by decide) (by decide)
      have cu44 : CUTs σ_44 := CUTs_f flσ_44 (by decide) (CUTs_f flσ_41 (by decide) (CUTs_f flσ_38 (by decide) (CUTs_f flσ_36 (by decide) (CUTs_f flσ_32 (by decide) cu))))
      have m44 : σ_44 kR_cutsMany 0 = σ_20 kR_cutsMany 0 := (FR_at flσ_44 (c := kR_cutsMany) (by decide) 0).trans ((FR_at flσ_41 (c := kR_cutsMany) (by decide) 0).trans ((FR_at flσ_38 (c := kR_cutsMany) (by decide) 0).trans ((FR_at flσ_36 (c := kR_cutsMany) (by decide) 0).trans (FR_at flσ_32 (c := kR_cutsMany) (by decide) 0))))
      have c54 := w32_rng (k_19 + 1)
      have c55 := ii_kR_cutsMany hσ_44 0
      have c56 := FR_at flσ_44 (c := kR_cutsMany) (by decide) 0
      have c57 := ii_kR_cutsMany hσ_41 0
      have c58 := FR_at flσ_41 (c := kR_cutsMany) (by decide) 0
      have c59 := ii_kR_cutsMany hσ_38 0
      have c60 := FR_at flσ_38 (c := kR_cutsMany) (by decide) 0
      have c61 := ii_kR_cutsMany hσ_36 0
      have c62 := FR_at flσ_36 (c := kR_cutsMany) (by decide) 0
      have c63 := ii_kR_cutsMany hσ_32 0
      have c64 := FR_at flσ_32 (c := kR_cutsMany) (by decide) 0
      have c65 := w32_rng (σ_44 kR_cutsMany 0)
      refine wp_if (fun c53 => ?_) (fun c53 => ?_)
      · try simp (disch := omega) only [w32_of, w64_of, w8_of, decide_eq_true_eq, decide_eq_false_iff_not, Bool.not_eq_true] at c53
        exact wp_some (x_inl ⟨⟨hσ_44, frσ_44, (by (try dsimp only) <;> first | assumption | omega | ((try simp (disch := omega) only [w32_of, w64_of, w8_of]) <;> first | assumption | omega | (split <;> omega) | (refine And.intro ?_ ?_ <;> split <;> omega)) | omega), (CUTs_f flσ_44 (by decide) (CUTs_f flσ_41 (by decide) (CUTs_f flσ_38 (by decide) (CUTs_f flσ_36 (by decide) (CUTs_f flσ_32 (by decide) cu)))))⟩, (by (try dsimp only) <;> first | assumption | omega | ((try simp (disch := omega) only [w32_of, w64_of, w8_of]) <;> first | assumption | omega | (split <;> omega) | (refine And.intro ?_ ?_ <;> split <;> omega)) | omega)⟩)
      · try simp (disch := omega) only [w32_of, w64_of, w8_of, decide_eq_true_eq, decide_eq_false_iff_not, Bool.not_eq_true] at c53
        have d1 := cu44 k_19 (by omega) (by omega)
        have d2 := cu44 (k_19 + 1) (by omega) (by omega)
        refine wp_rdI (by (try dsimp only) <;> first | assumption | omega | ((try simp (disch := omega) only [w32_of, w64_of, w8_of]) <;> first | assumption | omega | (split <;> omega) | (refine And.intro ?_ ?_ <;> split <;> omega)) | omega) (by (try dsimp only) <;> first | assumption | omega | ((try simp (disch := omega) only [w32_of, w64_of, w8_of]) <;> first | assumption | omega | (split <;> omega) | (refine And.intro ?_ ?_ <;> split <;> omega)) | omega) (fun x_63 e_x_63 => ?_)
        try simp (disch := omega) only [w32_of, w64_of, w8_of] at e_x_63
        have c66 := FR_at flσ_44 (c := kR_partNum) (by decide) k_19
        have c67 := FR_at flσ_41 (c := kR_partNum) (by decide) k_19
        have c68 := FR_at flσ_38 (c := kR_partNum) (by decide) k_19
        have c69 := FR_at flσ_36 (c := kR_partNum) (by decide) k_19
        have c70 := FR_at flσ_32 (c := kR_partNum) (by decide) k_19
        refine wp_rdI (by (try dsimp only) <;> first | assumption | omega | ((try simp (disch := omega) only [w32_of, w64_of, w8_of]) <;> first | assumption | omega | (split <;> omega) | (refine And.intro ?_ ?_ <;> split <;> omega)) | omega) (by (try dsimp only) <;> first | assumption | omega | ((try simp (disch := omega) only [w32_of, w64_of, w8_of]) <;> first | assumption | omega | (split <;> omega) | (refine And.intro ?_ ?_ <;> split <;> omega)) | omega) (fun x_65 e_x_65 => ?_)
        try simp (disch := omega) only [w32_of, w64_of, w8_of] at e_x_65
        have c71 := FR_at flσ_44 (c := kR_partDen) (by decide) k_19
        have c72 := FR_at flσ_41 (c := kR_partDen) (by decide) k_19
        have c73 := FR_at flσ_38 (c := kR_partDen) (by decide) k_19
        have c74 := FR_at flσ_36 (c := kR_partDen) (by decide) k_19
        refine wp_rdI (by (try dsimp only) <;> first | assumption | omega | ((try simp (disch := omega) only [w32_of, w64_of, w8_of]) <;> first | assumption | omega | (split <;> omega) | (refine And.intro ?_ ?_ <;> split <;> omega)) | omega) (by (try dsimp only) <;> first | assumption | omega | ((try simp (disch := omega) only [w32_of, w64_of, w8_of]) <;> first | assumption | omega | (split <;> omega) | (refine And.intro ?_ ?_ <;> split <;> omega)) | omega) (fun x_67 e_x_67 => ?_)
        try simp (disch := omega) only [w32_of, w64_of, w8_of] at e_x_67
        have c75 := FR_at flσ_44 (c := kR_partNum) (by decide) (k_19 + 1)
        have c76 := FR_at flσ_41 (c := kR_partNum) (by decide) (k_19 + 1)
        have c77 := FR_at flσ_38 (c := kR_partNum) (by decide) (k_19 + 1)
        have c78 := FR_at flσ_36 (c := kR_partNum) (by decide) (k_19 + 1)
        have c79 := FR_at flσ_32 (c := kR_partNum) (by decide) (k_19 + 1)
        refine wp_rdI (by (try dsimp only) <;> first | assumption | omega | ((try simp (disch := omega) only [w32_of, w64_of, w8_of]) <;> first | assumption | omega | (split <;> omega) | (refine And.intro ?_ ?_ <;> split <;> omega)) | omega) (by (try dsimp only) <;> first | assumption | omega | ((try simp (disch := omega) only [w32_of, w64_of, w8_of]) <;> first | assumption | omega | (split <;> omega) | (refine And.intro ?_ ?_ <;> split <;> omega)) | omega) (fun x_69 e_x_69 => ?_)
        try simp (disch := omega) only [w32_of, w64_of, w8_of] at e_x_69
        have c80 := FR_at flσ_44 (c := kR_partDen) (by decide) (k_19 + 1)
        have c81 := FR_at flσ_41 (c := kR_partDen) (by decide) (k_19 + 1)
        have c82 := FR_at flσ_38 (c := kR_partDen) (by decide) (k_19 + 1)
        have c83 := FR_at flσ_36 (c := kR_partDen) (by decide) (k_19 + 1)
        have c84 := FR_at flσ_32 (c := kR_partDen) (by decide) (k_19 + 1)
        refine wp_bd (s_R_order (a_0 := x_63) (b_0 := x_65) (c_0 := x_67) (d_0 := x_69) (by rw [w64_of (by omega) (by omega)]; omega) (by rw [w64_of (by omega) (by omega)]; omega)) ?_
        rintro x_72 - -
        have c87 := w32_rng x_72
        refine wp_if (fun c86 => ?_) (fun c86 => ?_)
        · try simp (disch := omega) only [w32_of, w64_of, w8_of, decide_eq_true_eq, decide_eq_false_iff_not, Bool.not_eq_true] at c86
          exact wp_some (x_inl ⟨⟨hσ_44, frσ_44, (by (try dsimp only) <;> first | assumption | omega | ((try simp (disch := omega) only [w32_of, w64_of, w8_of]) <;> first | assumption | omega | (split <;> omega) | (refine And.intro ?_ ?_ <;> split <;> omega)) | omega), (CUTs_f flσ_44 (by decide) (CUTs_f flσ_41 (by decide) (CUTs_f flσ_38 (by decide) (CUTs_f flσ_36 (by decide) (CUTs_f flσ_32 (by decide) cu)))))⟩, (by (try dsimp only) <;> first | assumption | omega | ((try simp (disch := omega) only [w32_of, w64_of, w8_of]) <;> first | assumption | omega | (split <;> omega) | (refine And.intro ?_ ?_ <;> split <;> omega)) | omega)⟩)
        · try simp (disch := omega) only [w32_of, w64_of, w8_of, decide_eq_true_eq, decide_eq_false_iff_not, Bool.not_eq_true] at c86
          refine wp_bd (s_R_middle (σ := σ_44) (k_0 := k_19) hσ_44 (by (try dsimp only) <;> first | assumption | omega | ((try simp (disch := omega) only [w32_of, w64_of, w8_of]) <;> first | assumption | omega | (split <;> omega) | (refine And.intro ?_ ?_ <;> split <;> omega)) | omega) (CUTs_f flσ_44 (by decide) (CUTs_f flσ_41 (by decide) (CUTs_f flσ_38 (by decide) (CUTs_f flσ_36 (by decide) (CUTs_f flσ_32 (by decide) cu))))) (by (try dsimp only) <;> first | assumption | omega | ((try simp (disch := omega) only [w32_of, w64_of, w8_of]) <;> first | assumption | omega | (split <;> omega) | (refine And.intro ?_ ?_ <;> split <;> omega)) | omega)) ?_
          rintro σ_76 - ⟨hσ_76, flσ_76, g88⟩
          have frσ_76 : FR [kR_baseX, kR_baseY, kR_cutsMany, kR_hasInside, kR_isInner, kR_limbs, kR_matrix, kR_meetX, kR_meetY, kR_offX, kR_offY, kR_partDen, kR_partNum, kR_sign, kR_w, kR_wayX, kR_wayY] σ σ_76 := FR_tr frσ_44 flσ_76 (by decide) (by decide)
          try simp (disch := omega) only [w32_of, w64_of, w8_of] at g88
          refine wp_bd (s_R_where (σ := σ_76) (shape_0 := 0) (onEdge_0 := true) hσ_76 (by (try dsimp only) <;> first | assumption | omega | ((try simp (disch := omega) only [w32_of, w64_of, w8_of]) <;> first | assumption | omega | (split <;> omega) | (refine And.intro ?_ ?_ <;> split <;> omega)) | omega) (by first | assumption | exact ⟨⟨_, RG_le rgσ_36_0 (by decide)⟩, ⟨_, RG_le rgσ_36_1 (by decide)⟩⟩)) ?_
          rintro ⟨x_79, σ_78⟩ - y91
          try dsimp only at y91 ⊢
          obtain ⟨hσ_78, flσ_78, g89, g90⟩ := y91
          have frσ_78 : FR [kR_baseX, kR_baseY, kR_cutsMany, kR_hasInside, kR_isInner, kR_limbs, kR_matrix, kR_meetX, kR_meetY, kR_offX, kR_offY, kR_partDen, kR_partNum, kR_sign, kR_w, kR_wayX, kR_wayY] σ σ_78 := FR_tr frσ_76 flσ_78 (by decide) (by decide)
          try simp (disch := omega) only [w32_of, w64_of, w8_of] at g89
          try simp (disch := omega) only [w32_of, w64_of, w8_of] at g90
          refine wp_bd (s_R_where (σ := σ_78) (shape_0 := 1) (onEdge_0 := true) hσ_78 (by (try dsimp only) <;> first | assumption | omega | ((try simp (disch := omega) only [w32_of, w64_of, w8_of]) <;> first | assumption | omega | (split <;> omega) | (refine And.intro ?_ ?_ <;> split <;> omega)) | omega) (by first | assumption | exact ⟨⟨_, RG_le rgσ_36_0 (by decide)⟩, ⟨_, RG_le rgσ_36_1 (by decide)⟩⟩)) ?_
          rintro ⟨x_82, σ_81⟩ - y94
          try dsimp only at y94 ⊢
          obtain ⟨hσ_81, flσ_81, g92, g93⟩ := y94
          have frσ_81 : FR [kR_baseX, kR_baseY, kR_cutsMany, kR_hasInside, kR_isInner, kR_limbs, kR_matrix, kR_meetX, kR_meetY, kR_offX, kR_offY, kR_partDen, kR_partNum, kR_sign, kR_w, kR_wayX, kR_wayY] σ σ_81 := FR_tr frσ_78 flσ_81 (by decide) (by decide)
          try simp (disch := omega) only [w32_of, w64_of, w8_of] at g92
          try simp (disch := omega) only [w32_of, w64_of, w8_of] at g93
          refine wp_bd (s_R_mark (σ := σ_81) (a_0 := x_79) (b_0 := x_82) (dimension_0 := 1) hσ_81 (by (try dsimp only) <;> first | assumption | omega | ((try simp (disch := omega) only [w32_of, w64_of, w8_of]) <;> first | assumption | omega | (split <;> omega) | (refine And.intro ?_ ?_ <;> split <;> omega)) | omega) (by (try dsimp only) <;> first | assumption | omega | ((try simp (disch := omega) only [w32_of, w64_of, w8_of]) <;> first | assumption | omega | (split <;> omega) | (refine And.intro ?_ ?_ <;> split <;> omega)) | omega) (by (try dsimp only) <;> first | assumption | omega | ((try simp (disch := omega) only [w32_of, w64_of, w8_of]) <;> first | assumption | omega | (split <;> omega) | (refine And.intro ?_ ?_ <;> split <;> omega)) | omega)) ?_
          rintro σ_84 - ⟨hσ_84, flσ_84⟩
          have frσ_84 : FR [kR_baseX, kR_baseY, kR_cutsMany, kR_hasInside, kR_isInner, kR_limbs, kR_matrix, kR_meetX, kR_meetY, kR_offX, kR_offY, kR_partDen, kR_partNum, kR_sign, kR_w, kR_wayX, kR_wayY] σ σ_84 := FR_tr frσ_81 flσ_84 (by decide) (by decide)
          have c95 := ii_kR_wayY hσ_84 0
          have c96 := FR_at flσ_84 (c := kR_wayY) (by decide) 0
          have c97 := ii_kR_wayY hσ_81 0
          have c98 := FR_at flσ_81 (c := kR_wayY) (by decide) 0
          have c99 := ii_kR_wayY hσ_78 0
          have c100 := FR_at flσ_78 (c := kR_wayY) (by decide) 0
          have c101 := ii_kR_wayY hσ_76 0
          have c102 := FR_at flσ_76 (c := kR_wayY) (by decide) 0
          have c103 := ii_kR_wayY hσ_44 0
          have c104 := FR_at flσ_44 (c := kR_wayY) (by decide) 0
          have c105 := ii_kR_wayY hσ_41 0
          have c106 := FR_at flσ_41 (c := kR_wayY) (by decide) 0
          have c107 := ii_kR_wayY hσ_38 0
          have c108 := FR_at flσ_38 (c := kR_wayY) (by decide) 0
          have c109 := ii_kR_wayY hσ_36 0
          have c110 := FR_at flσ_36 (c := kR_wayY) (by decide) 0
          have c111 := ii_kR_wayY hσ_32 0
          have c112 := FR_at flσ_32 (c := kR_wayY) (by decide) 0
          have c113 := ii_kR_wayY hσ_20 0
          refine wp_wfI hσ_84 b_kR_offX (by (try dsimp only) <;> first | assumption | omega | ((try simp (disch := omega) only [w32_of, w64_of, w8_of]) <;> first | assumption | omega | (split <;> omega) | (refine And.intro ?_ ?_ <;> split <;> omega)) | omega) (fun σ_85 hσ_85 eσ_85 => ?_)
          try simp (disch := omega) only [w32_of, w64_of, w8_of] at eσ_85
          have flσ_85 := FR_sg eσ_85
          have frσ_85 : FR [kR_baseX, kR_baseY, kR_cutsMany, kR_hasInside, kR_isInner, kR_limbs, kR_matrix, kR_meetX, kR_meetY, kR_offX, kR_offY, kR_partDen, kR_partNum, kR_sign, kR_w, kR_wayX, kR_wayY] σ σ_85 := FR_tr frσ_84 flσ_85 (by decide) (by decide)
          have c114 := ii_kR_wayX hσ_85 0
          have c115 := FR_at flσ_85 (c := kR_wayX) (by decide) 0
          have c116 := ii_kR_wayX hσ_84 0
          have c117 := FR_at flσ_84 (c := kR_wayX) (by decide) 0
          have c118 := ii_kR_wayX hσ_81 0
          have c119 := FR_at flσ_81 (c := kR_wayX) (by decide) 0
          have c120 := ii_kR_wayX hσ_78 0
          have c121 := FR_at flσ_78 (c := kR_wayX) (by decide) 0
          have c122 := ii_kR_wayX hσ_76 0
          have c123 := FR_at flσ_76 (c := kR_wayX) (by decide) 0
          have c124 := ii_kR_wayX hσ_44 0
          have c125 := FR_at flσ_44 (c := kR_wayX) (by decide) 0
          have c126 := ii_kR_wayX hσ_41 0
          have c127 := FR_at flσ_41 (c := kR_wayX) (by decide) 0
          have c128 := ii_kR_wayX hσ_38 0
          have c129 := FR_at flσ_38 (c := kR_wayX) (by decide) 0
          have c130 := ii_kR_wayX hσ_36 0
          have c131 := FR_at flσ_36 (c := kR_wayX) (by decide) 0
          have c132 := ii_kR_wayX hσ_32 0
          have c133 := FR_at flσ_32 (c := kR_wayX) (by decide) 0
          have c134 := ii_kR_wayX hσ_20 0
          refine wp_wfI hσ_85 b_kR_offY (by (try dsimp only) <;> first | assumption | omega | ((try simp (disch := omega) only [w32_of, w64_of, w8_of]) <;> first | assumption | omega | (split <;> omega) | (refine And.intro ?_ ?_ <;> split <;> omega)) | omega) (fun σ_86 hσ_86 eσ_86 => ?_)
          try simp (disch := omega) only [w32_of, w64_of, w8_of] at eσ_86
          have flσ_86 := FR_sg eσ_86
          have frσ_86 : FR [kR_baseX, kR_baseY, kR_cutsMany, kR_hasInside, kR_isInner, kR_limbs, kR_matrix, kR_meetX, kR_meetY, kR_offX, kR_offY, kR_partDen, kR_partNum, kR_sign, kR_w, kR_wayX, kR_wayY] σ σ_86 := FR_tr frσ_85 flσ_86 (by decide) (by decide)
          refine wp_bd (s_R_beside (σ := σ_86) (shape_0 := 0) (itself_0 := x_79) hσ_86 (by (try dsimp only) <;> first | assumption | omega | ((try simp (disch := omega) only [w32_of, w64_of, w8_of]) <;> first | assumption | omega | (split <;> omega) | (refine And.intro ?_ ?_ <;> split <;> omega)) | omega) (by (try dsimp only) <;> first | assumption | omega | ((try simp (disch := omega) only [w32_of, w64_of, w8_of]) <;> first | assumption | omega | (split <;> omega) | (refine And.intro ?_ ?_ <;> split <;> omega)) | omega) (R01_f flσ_86 (by decide) (R01_f flσ_85 (by decide) (R01_f flσ_84 (by decide) g92))) (by (try dsimp only) <;> first | assumption | omega | ((try simp (disch := omega) only [w32_of, w64_of, w8_of]) <;> first | assumption | omega | (split <;> omega) | (refine And.intro ?_ ?_ <;> split <;> omega)) | omega)) ?_
          rintro ⟨x_89, σ_88⟩ - y137
          try dsimp only at y137 ⊢
          obtain ⟨hσ_88, flσ_88, g135, g136⟩ := y137
          have frσ_88 : FR [kR_baseX, kR_baseY, kR_cutsMany, kR_hasInside, kR_isInner, kR_limbs, kR_matrix, kR_meetX, kR_meetY, kR_offX, kR_offY, kR_partDen, kR_partNum, kR_sign, kR_w, kR_wayX, kR_wayY] σ σ_88 := FR_tr frσ_86 flσ_88 (by decide) (by decide)
          try simp (disch := omega) only [w32_of, w64_of, w8_of] at g135
          try simp (disch := omega) only [w32_of, w64_of, w8_of] at g136
          refine wp_bd (s_R_beside (σ := σ_88) (shape_0 := 1) (itself_0 := x_82) hσ_88 (by (try dsimp only) <;> first | assumption | omega | ((try simp (disch := omega) only [w32_of, w64_of, w8_of]) <;> first | assumption | omega | (split <;> omega) | (refine And.intro ?_ ?_ <;> split <;> omega)) | omega) (by (try dsimp only) <;> first | assumption | omega | ((try simp (disch := omega) only [w32_of, w64_of, w8_of]) <;> first | assumption | omega | (split <;> omega) | (refine And.intro ?_ ?_ <;> split <;> omega)) | omega) g135 (by (try dsimp only) <;> first | assumption | omega | ((try simp (disch := omega) only [w32_of, w64_of, w8_of]) <;> first | assumption | omega | (split <;> omega) | (refine And.intro ?_ ?_ <;> split <;> omega)) | omega)) ?_
          rintro ⟨x_92, σ_91⟩ - y140
          try dsimp only at y140 ⊢
          obtain ⟨hσ_91, flσ_91, g138, g139⟩ := y140
          have frσ_91 : FR [kR_baseX, kR_baseY, kR_cutsMany, kR_hasInside, kR_isInner, kR_limbs, kR_matrix, kR_meetX, kR_meetY, kR_offX, kR_offY, kR_partDen, kR_partNum, kR_sign, kR_w, kR_wayX, kR_wayY] σ σ_91 := FR_tr frσ_88 flσ_91 (by decide) (by decide)
          try simp (disch := omega) only [w32_of, w64_of, w8_of] at g138
          try simp (disch := omega) only [w32_of, w64_of, w8_of] at g139
          refine wp_bd (s_R_mark (σ := σ_91) (a_0 := x_89) (b_0 := x_92) (dimension_0 := 2) hσ_91 (by (try dsimp only) <;> first | assumption | omega | ((try simp (disch := omega) only [w32_of, w64_of, w8_of]) <;> first | assumption | omega | (split <;> omega) | (refine And.intro ?_ ?_ <;> split <;> omega)) | omega) (by (try dsimp only) <;> first | assumption | omega | ((try simp (disch := omega) only [w32_of, w64_of, w8_of]) <;> first | assumption | omega | (split <;> omega) | (refine And.intro ?_ ?_ <;> split <;> omega)) | omega) (by (try dsimp only) <;> first | assumption | omega | ((try simp (disch := omega) only [w32_of, w64_of, w8_of]) <;> first | assumption | omega | (split <;> omega) | (refine And.intro ?_ ?_ <;> split <;> omega)) | omega)) ?_
          rintro σ_94 - ⟨hσ_94, flσ_94⟩
          have frσ_94 : FR [kR_baseX, kR_baseY, kR_cutsMany, kR_hasInside, kR_isInner, kR_limbs, kR_matrix, kR_meetX, kR_meetY, kR_offX, kR_offY, kR_partDen, kR_partNum, kR_sign, kR_w, kR_wayX, kR_wayY] σ σ_94 := FR_tr frσ_91 flσ_94 (by decide) (by decide)
          have c141 := ii_kR_wayY hσ_94 0
          have c142 := FR_at flσ_94 (c := kR_wayY) (by decide) 0
          have c143 := ii_kR_wayY hσ_91 0
          have c144 := FR_at flσ_91 (c := kR_wayY) (by decide) 0
          have c145 := ii_kR_wayY hσ_88 0
          have c146 := FR_at flσ_88 (c := kR_wayY) (by decide) 0
          have c147 := ii_kR_wayY hσ_86 0
          have c148 := FR_at flσ_86 (c := kR_wayY) (by decide) 0
          have c149 := ii_kR_wayY hσ_85 0
          have c150 := FR_at flσ_85 (c := kR_wayY) (by decide) 0
          refine wp_wfI hσ_94 b_kR_offX (by (try dsimp only) <;> first | assumption | omega | ((try simp (disch := omega) only [w32_of, w64_of, w8_of]) <;> first | assumption | omega | (split <;> omega) | (refine And.intro ?_ ?_ <;> split <;> omega)) | omega) (fun σ_95 hσ_95 eσ_95 => ?_)
          try simp (disch := omega) only [w32_of, w64_of, w8_of] at eσ_95
          have flσ_95 := FR_sg eσ_95
          have frσ_95 : FR [kR_baseX, kR_baseY, kR_cutsMany, kR_hasInside, kR_isInner, kR_limbs, kR_matrix, kR_meetX, kR_meetY, kR_offX, kR_offY, kR_partDen, kR_partNum, kR_sign, kR_w, kR_wayX, kR_wayY] σ σ_95 := FR_tr frσ_94 flσ_95 (by decide) (by decide)
          have c151 := ii_kR_wayX hσ_95 0
          have c152 := FR_at flσ_95 (c := kR_wayX) (by decide) 0
          have c153 := ii_kR_wayX hσ_94 0
          have c154 := FR_at flσ_94 (c := kR_wayX) (by decide) 0
          have c155 := ii_kR_wayX hσ_91 0
          have c156 := FR_at flσ_91 (c := kR_wayX) (by decide) 0
          have c157 := ii_kR_wayX hσ_88 0
          have c158 := FR_at flσ_88 (c := kR_wayX) (by decide) 0
          have c159 := ii_kR_wayX hσ_86 0
          have c160 := FR_at flσ_86 (c := kR_wayX) (by decide) 0
          refine wp_wfI hσ_95 b_kR_offY (by (try dsimp only) <;> first | assumption | omega | ((try simp (disch := omega) only [w32_of, w64_of, w8_of]) <;> first | assumption | omega | (split <;> omega) | (refine And.intro ?_ ?_ <;> split <;> omega)) | omega) (fun σ_96 hσ_96 eσ_96 => ?_)
          try simp (disch := omega) only [w32_of, w64_of, w8_of] at eσ_96
          have flσ_96 := FR_sg eσ_96
          have frσ_96 : FR [kR_baseX, kR_baseY, kR_cutsMany, kR_hasInside, kR_isInner, kR_limbs, kR_matrix, kR_meetX, kR_meetY, kR_offX, kR_offY, kR_partDen, kR_partNum, kR_sign, kR_w, kR_wayX, kR_wayY] σ σ_96 := FR_tr frσ_95 flσ_96 (by decide) (by decide)
          refine wp_bd (s_R_beside (σ := σ_96) (shape_0 := 0) (itself_0 := x_79) hσ_96 (by (try dsimp only) <;> first | assumption | omega | ((try simp (disch := omega) only [w32_of, w64_of, w8_of]) <;> first | assumption | omega | (split <;> omega) | (refine And.intro ?_ ?_ <;> split <;> omega)) | omega) (by (try dsimp only) <;> first | assumption | omega | ((try simp (disch := omega) only [w32_of, w64_of, w8_of]) <;> first | assumption | omega | (split <;> omega) | (refine And.intro ?_ ?_ <;> split <;> omega)) | omega) (R01_f flσ_96 (by decide) (R01_f flσ_95 (by decide) (R01_f flσ_94 (by decide) g138))) (by (try dsimp only) <;> first | assumption | omega | ((try simp (disch := omega) only [w32_of, w64_of, w8_of]) <;> first | assumption | omega | (split <;> omega) | (refine And.intro ?_ ?_ <;> split <;> omega)) | omega)) ?_
          rintro ⟨x_99, σ_98⟩ - y163
          try dsimp only at y163 ⊢
          obtain ⟨hσ_98, flσ_98, g161, g162⟩ := y163
          have frσ_98 : FR [kR_baseX, kR_baseY, kR_cutsMany, kR_hasInside, kR_isInner, kR_limbs, kR_matrix, kR_meetX, kR_meetY, kR_offX, kR_offY, kR_partDen, kR_partNum, kR_sign, kR_w, kR_wayX, kR_wayY] σ σ_98 := FR_tr frσ_96 flσ_98 (by decide) (by decide)
          try simp (disch := omega) only [w32_of, w64_of, w8_of] at g161
          try simp (disch := omega) only [w32_of, w64_of, w8_of] at g162
          refine wp_bd (s_R_beside (σ := σ_98) (shape_0 := 1) (itself_0 := x_82) hσ_98 (by (try dsimp only) <;> first | assumption | omega | ((try simp (disch := omega) only [w32_of, w64_of, w8_of]) <;> first | assumption | omega | (split <;> omega) | (refine And.intro ?_ ?_ <;> split <;> omega)) | omega) (by (try dsimp only) <;> first | assumption | omega | ((try simp (disch := omega) only [w32_of, w64_of, w8_of]) <;> first | assumption | omega | (split <;> omega) | (refine And.intro ?_ ?_ <;> split <;> omega)) | omega) g161 (by (try dsimp only) <;> first | assumption | omega | ((try simp (disch := omega) only [w32_of, w64_of, w8_of]) <;> first | assumption | omega | (split <;> omega) | (refine And.intro ?_ ?_ <;> split <;> omega)) | omega)) ?_
          rintro ⟨x_102, σ_101⟩ - y166
          try dsimp only at y166 ⊢
          obtain ⟨hσ_101, flσ_101, g164, g165⟩ := y166
          have frσ_101 : FR [kR_baseX, kR_baseY, kR_cutsMany, kR_hasInside, kR_isInner, kR_limbs, kR_matrix, kR_meetX, kR_meetY, kR_offX, kR_offY, kR_partDen, kR_partNum, kR_sign, kR_w, kR_wayX, kR_wayY] σ σ_101 := FR_tr frσ_98 flσ_101 (by decide) (by decide)
          try simp (disch := omega) only [w32_of, w64_of, w8_of] at g164
          try simp (disch := omega) only [w32_of, w64_of, w8_of] at g165
          refine wp_bd (s_R_mark (σ := σ_101) (a_0 := x_99) (b_0 := x_102) (dimension_0 := 2) hσ_101 (by (try dsimp only) <;> first | assumption | omega | ((try simp (disch := omega) only [w32_of, w64_of, w8_of]) <;> first | assumption | omega | (split <;> omega) | (refine And.intro ?_ ?_ <;> split <;> omega)) | omega) (by (try dsimp only) <;> first | assumption | omega | ((try simp (disch := omega) only [w32_of, w64_of, w8_of]) <;> first | assumption | omega | (split <;> omega) | (refine And.intro ?_ ?_ <;> split <;> omega)) | omega) (by (try dsimp only) <;> first | assumption | omega | ((try simp (disch := omega) only [w32_of, w64_of, w8_of]) <;> first | assumption | omega | (split <;> omega) | (refine And.intro ?_ ?_ <;> split <;> omega)) | omega)) ?_
          rintro σ_104 - ⟨hσ_104, flσ_104⟩
          have frσ_104 : FR [kR_baseX, kR_baseY, kR_cutsMany, kR_hasInside, kR_isInner, kR_limbs, kR_matrix, kR_meetX, kR_meetY, kR_offX, kR_offY, kR_partDen, kR_partNum, kR_sign, kR_w, kR_wayX, kR_wayY] σ σ_104 := FR_tr frσ_101 flσ_104 (by decide) (by decide)
          exact wp_some (x_inl ⟨⟨hσ_104, frσ_104, (by (try dsimp only) <;> first | assumption | omega | ((try simp (disch := omega) only [w32_of, w64_of, w8_of]) <;> first | assumption | omega | (split <;> omega) | (refine And.intro ?_ ?_ <;> split <;> omega)) | omega), (CUTs_f flσ_104 (by decide) (CUTs_f flσ_101 (by decide) (CUTs_f flσ_98 (by decide) (CUTs_f flσ_96 (by decide) (CUTs_f flσ_95 (by decide) (CUTs_f flσ_94 (by decide) (CUTs_f flσ_91 (by decide) (CUTs_f flσ_88 (by decide) (CUTs_f flσ_86 (by decide) (CUTs_f flσ_85 (by decide) (CUTs_f flσ_84 (by decide) (CUTs_f flσ_81 (by decide) (CUTs_f flσ_78 (by decide) (CUTs_f flσ_76 (by decide) (CUTs_f flσ_44 (by decide) (CUTs_f flσ_41 (by decide) (CUTs_f flσ_38 (by decide) (CUTs_f flσ_36 (by decide) (CUTs_f flσ_32 (by decide) cu)))))))))))))))))))⟩, (by (try dsimp only) <;> first | assumption | omega | ((try simp (disch := omega) only [w32_of, w64_of, w8_of]) <;> first | assumption | omega | (split <;> omega) | (refine And.intro ?_ ?_ <;> split <;> omega)) | omega)⟩)
    · try simp (disch := omega) only [w32_of, w64_of, w8_of, decide_eq_true_eq, decide_eq_false_iff_not, Bool.not_eq_true] at c38
      exact wp_some (x_inr ⟨hσ_20, frσ_20, (by (try dsimp only) <;> first | assumption | omega | ((try simp (disch := omega) only [w32_of, w64_of, w8_of]) <;> first | assumption | omega | (split <;> omega) | (refine And.intro ?_ ?_ <;> split <;> omega)) | omega)⟩)
  rintro ⟨k_107, σ_108⟩ _ y168
  try dsimp only at y168 ⊢
  obtain ⟨hσ_108, frσ_108, g167⟩ := y168
  exact wp_some ⟨hσ_108, frσ_108⟩
theorem v_isTooMuch {σ : SG} (hσ : II σ) : wp_ (fR_isTooMuch σ) (fun zz_ => II zz_.2 ∧ FR [kR_isInner, kR_meetX, kR_meetY] σ zz_.2 ∧ ((zz_.1 = false) → (σ kR_segments 0 ≤ 256))) := by
  unfold fR_isTooMuch
  refine wp_bx (P := fun rr_ => (2 ≤ rr_ ∧ rr_ ≤ 2)) ?_ ?_
  · refine wp_whl (fun ss_ => (0 ≤ ss_ ∧ ss_ ≤ 2)) (fun ss_ => (3 - ss_).toNat) (by (try dsimp only) <;> first | assumption | omega | ((try simp (disch := omega) only [w32_of, w64_of, w8_of]) <;> first | assumption | omega | (split <;> omega) | (refine And.intro ?_ ?_ <;> split <;> omega)) | omega) ?_
    rintro s_1 g1
    have c3 := w32_rng s_1
    refine wp_if (fun c2 => ?_) (fun c2 => ?_)
    · try simp (disch := omega) only [w32_of, w64_of, w8_of, decide_eq_true_eq, decide_eq_false_iff_not, Bool.not_eq_true] at c2
      refine wp_rdI (by (try dsimp only) <;> first | assumption | omega | ((try simp (disch := omega) only [w32_of, w64_of, w8_of]) <;> first | assumption | omega | (split <;> omega) | (refine And.intro ?_ ?_ <;> split <;> omega)) | omega) (by (try dsimp only) <;> first | assumption | omega | ((try simp (disch := omega) only [w32_of, w64_of, w8_of]) <;> first | assumption | omega | (split <;> omega) | (refine And.intro ?_ ?_ <;> split <;> omega)) | omega) (fun x_20 e_x_20 => ?_)
      have b_x_20 : (-1) ≤ x_20 ∧ x_20 ≤ 2 := by rw [e_x_20]; exact ii_kR_typeOf hσ _
      try simp (disch := omega) only [w32_of, w64_of, w8_of] at e_x_20
      have c4 := ii_kR_typeOf hσ s_1
      have c6 := w32_rng x_20
      refine wp_if (fun c5 => ?_) (fun c5 => ?_)
      · try simp (disch := omega) only [w32_of, w64_of, w8_of, decide_eq_true_eq, decide_eq_false_iff_not, Bool.not_eq_true] at c5
        refine wp_rdI (by (try dsimp only) <;> first | assumption | omega | ((try simp (disch := omega) only [w32_of, w64_of, w8_of]) <;> first | assumption | omega | (split <;> omega) | (refine And.intro ?_ ?_ <;> split <;> omega)) | omega) (by (try dsimp only) <;> first | assumption | omega | ((try simp (disch := omega) only [w32_of, w64_of, w8_of]) <;> first | assumption | omega | (split <;> omega) | (refine And.intro ?_ ?_ <;> split <;> omega)) | omega) (fun x_23 e_x_23 => ?_)
        have b_x_23 : 0 ≤ x_23 ∧ x_23 ≤ 2048 := by rw [e_x_23]; exact ii_kR_partsOf hσ _
        try simp (disch := omega) only [w32_of, w64_of, w8_of] at e_x_23
        have c7 := ii_kR_partsOf hσ s_1
        have c9 := w32_rng x_23
        refine wp_if (fun c8 => ?_) (fun c8 => ?_)
        · try simp (disch := omega) only [w32_of, w64_of, w8_of, decide_eq_true_eq, decide_eq_false_iff_not, Bool.not_eq_true] at c8
          have c10 := ii_kR_segments hσ 0
          exact wp_some (x_inr (x_inr ⟨hσ, (FR_refl _ _), (fun q => (by cases q))⟩))
        · try simp (disch := omega) only [w32_of, w64_of, w8_of, decide_eq_true_eq, decide_eq_false_iff_not, Bool.not_eq_true] at c8
          exact wp_some (x_inl ⟨(by (try dsimp only) <;> first | assumption | omega | ((try simp (disch := omega) only [w32_of, w64_of, w8_of]) <;> first | assumption | omega | (split <;> omega) | (refine And.intro ?_ ?_ <;> split <;> omega)) | omega), (by (try dsimp only) <;> first | assumption | omega | ((try simp (disch := omega) only [w32_of, w64_of, w8_of]) <;> first | assumption | omega | (split <;> omega) | (refine And.intro ?_ ?_ <;> split <;> omega)) | omega)⟩)
      · try simp (disch := omega) only [w32_of, w64_of, w8_of, decide_eq_true_eq, decide_eq_false_iff_not, Bool.not_eq_true] at c5
        exact wp_some (x_inl ⟨(by (try dsimp only) <;> first | assumption | omega | ((try simp (disch := omega) only [w32_of, w64_of, w8_of]) <;> first | assumption | omega | (split <;> omega) | (refine And.intro ?_ ?_ <;> split <;> omega)) | omega), (by (try dsimp only) <;> first | assumption | omega | ((try simp (disch := omega) only [w32_of, w64_of, w8_of]) <;> first | assumption | omega | (split <;> omega) | (refine And.intro ?_ ?_ <;> split <;> omega)) | omega)⟩)
    · try simp (disch := omega) only [w32_of, w64_of, w8_of, decide_eq_true_eq, decide_eq_false_iff_not, Bool.not_eq_true] at c2
      exact wp_some (x_inr (x_inl (by (try dsimp only) <;> first | assumption | omega | ((try simp (disch := omega) only [w32_of, w64_of, w8_of]) <;> first | assumption | omega | (split <;> omega) | (refine And.intro ?_ ?_ <;> split <;> omega)) | omega)))
  rintro s_29 g11
  have c13 := ii_kR_segments hσ 0
  have c14 := w32_rng (σ kR_segments 0)
  refine wp_if (fun c12 => ?_) (fun c12 => ?_)
  · try simp (disch := omega) only [w32_of, w64_of, w8_of, decide_eq_true_eq, decide_eq_false_iff_not, Bool.not_eq_true] at c12
    exact wp_some ⟨hσ, (FR_refl _ _), (fun q => (by cases q))⟩
  · try simp (disch := omega) only [w32_of, w64_of, w8_of, decide_eq_true_eq, decide_eq_false_iff_not, Bool.not_eq_true] at c12
    refine wp_bd (P := fun rr_ => (0 ≤ rr_.2.1 ∧ rr_.2.1 ≤ 256) ∧ II rr_.2.2 ∧ FR [kR_isInner, kR_meetX, kR_meetY] σ rr_.2.2) ?_ ?_
    · refine wp_whl (fun ss_ => (0 ≤ ss_.2.1 ∧ ss_.2.1 ≤ 256) ∧ II ss_.2.2 ∧ FR [kR_isInner, kR_meetX, kR_meetY] σ ss_.2.2) (fun ss_ => (257 - ss_.2.1).toNat) ⟨(by (try dsimp only) <;> first | assumption | omega | ((try simp (disch := omega) only [w32_of, w64_of, w8_of]) <;> first | assumption | omega | (split <;> omega) | (refine And.intro ?_ ?_ <;> split <;> omega)) | omega), hσ, (FR_refl _ _)⟩ ?_
      rintro ⟨n_31, i_32, σ_33⟩ y16
      try dsimp only at y16 ⊢
      obtain ⟨g15, hσ_33, frσ_33⟩ := y16
      have c18 := w32_rng i_32
      have c19 := ii_kR_segments hσ_33 0
      have c20 := FR_at frσ_33 (c := kR_segments) (by decide) 0
      have c21 := w32_rng (σ_33 kR_segments 0)
      refine wp_if (fun c17 => ?_) (fun c17 => ?_)
      · try simp (disch := omega) only [w32_of, w64_of, w8_of, decide_eq_true_eq, decide_eq_false_iff_not, Bool.not_eq_true] at c17
        refine wp_bd (P := fun rr_ => (1 ≤ rr_.2.1 ∧ rr_.2.1 ≤ 256) ∧ II rr_.2.2 ∧ FR [kR_isInner, kR_meetX, kR_meetY] σ rr_.2.2) ?_ ?_
        · refine wp_whl (fun ss_ => (1 ≤ ss_.2.1 ∧ ss_.2.1 ≤ 256) ∧ II ss_.2.2 ∧ FR [kR_isInner, kR_meetX, kR_meetY] σ ss_.2.2) (fun ss_ => (257 - ss_.2.1).toNat) ⟨(by (try dsimp only) <;> first | assumption | omega | ((try simp (disch := omega) only [w32_of, w64_of, w8_of]) <;> first | assumption | omega | (split <;> omega) | (refine And.intro ?_ ?_ <;> split <;> omega)) | omega), hσ_33, frσ_33⟩ ?_
          rintro ⟨n_42, j_43, σ_44⟩ y23
          try dsimp only at y23 ⊢
          obtain ⟨g22, hσ_44, frσ_44⟩ := y23
          have c25 := w32_rng j_43
          have c26 := ii_kR_segments hσ_44 0
          have c27 := FR_at frσ_44 (c := kR_segments) (by decide) 0
          have c28 := w32_rng (σ_44 kR_segments 0)
          refine wp_if (fun c24 => ?_) (fun c24 => ?_)
          · try simp (disch := omega) only [w32_of, w64_of, w8_of, decide_eq_true_eq, decide_eq_false_iff_not, Bool.not_eq_true] at c24
            refine wp_bd (P := fun rr_ => II rr_.2 ∧ FR [kR_isInner, kR_meetX, kR_meetY] σ rr_.2) ?_ ?_
            · refine wp_bd (v_meetC (σ := σ_44) (i_0 := i_32) (j_0 := j_43) hσ_44 (by (try dsimp only) <;> first | assumption | omega | ((try simp (disch := omega) only [w32_of, w64_of, w8_of]) <;> first | assumption | omega | (split <;> omega) | (refine And.intro ?_ ?_ <;> split <;> omega)) | omega) (by (try dsimp only) <;> first | assumption | omega | ((try simp (disch := omega) only [w32_of, w64_of, w8_of]) <;> first | assumption | omega | (split <;> omega) | (refine And.intro ?_ ?_ <;> split <;> omega)) | omega)) ?_
              rintro ⟨x_55, σ_54⟩ - y31
              try dsimp only at y31 ⊢
              obtain ⟨g29, hσ_54, flσ_54, g30⟩ := y31
              have frσ_54 : FR [kR_isInner, kR_meetX, kR_meetY] σ σ_54 := FR_tr frσ_44 flσ_54 (by decide) (by decide)
              try simp (disch := omega) only [w32_of, w64_of, w8_of] at g29
              have c32 := ii_kR_isInner hσ_54 0
              have c33 := ii_kR_ex hσ_44 i_32
              have c34 := FR_at frσ_44 (c := kR_ex) (by decide) i_32
              have c35 := ii_kR_ex hσ i_32
              have c36 := ii_kR_sx hσ_44 i_32
              have c37 := FR_at frσ_44 (c := kR_sx) (by decide) i_32
              have c38 := ii_kR_sx hσ i_32
              have c39 := ii_kR_ey hσ_44 i_32
              have c40 := FR_at frσ_44 (c := kR_ey) (by decide) i_32
              have c41 := ii_kR_ey hσ i_32
              have c42 := ii_kR_sy hσ_44 i_32
              have c43 := FR_at frσ_44 (c := kR_sy) (by decide) i_32
              have c44 := ii_kR_sy hσ i_32
              have c45 := ii_kR_ex hσ_44 j_43
              have c46 := FR_at frσ_44 (c := kR_ex) (by decide) j_43
              have c47 := ii_kR_ex hσ j_43
              have c48 := ii_kR_sx hσ_44 j_43
              have c49 := FR_at frσ_44 (c := kR_sx) (by decide) j_43
              have c50 := ii_kR_sx hσ j_43
              have c51 := ii_kR_ey hσ_44 j_43
              have c52 := FR_at frσ_44 (c := kR_ey) (by decide) j_43
              have c53 := ii_kR_ey hσ j_43
              have c54 := ii_kR_sy hσ_44 j_43
              have c55 := FR_at frσ_44 (c := kR_sy) (by decide) j_43
              have c56 := ii_kR_sy hσ j_43
              try simp (disch := omega) only [w32_of, w64_of, w8_of] at g30
              have c58 := w32_rng x_55
              refine wp_if (fun c57 => ?_) (fun c57 => ?_)
              · try simp (disch := omega) only [w32_of, w64_of, w8_of, decide_eq_true_eq, decide_eq_false_iff_not, Bool.not_eq_true] at c57
                exact wp_some ⟨hσ_54, frσ_54⟩
              · try simp (disch := omega) only [w32_of, w64_of, w8_of, decide_eq_true_eq, decide_eq_false_iff_not, Bool.not_eq_true] at c57
                exact wp_some ⟨hσ_54, frσ_54⟩
            rintro ⟨x_59, σ_60⟩ _ y59
            try dsimp only at y59 ⊢
            obtain ⟨hσ_60, frσ_60⟩ := y59
            exact wp_some (x_inl ⟨⟨(by (try dsimp only) <;> first | assumption | omega | ((try simp (disch := omega) only [w32_of, w64_of, w8_of]) <;> first | assumption | omega | (split <;> omega) | (refine And.intro ?_ ?_ <;> split <;> omega)) | omega), hσ_60, frσ_60⟩, (by (try dsimp only) <;> first | assumption | omega | ((try simp (disch := omega) only [w32_of, w64_of, w8_of]) <;> first | assumption | omega | (split <;> omega) | (refine And.intro ?_ ?_ <;> split <;> omega)) | omega)⟩)
          · try simp (disch := omega) only [w32_of, w64_of, w8_of, decide_eq_true_eq, decide_eq_false_iff_not, Bool.not_eq_true] at c24
            exact wp_some (x_inr ⟨(by (try dsimp only) <;> first | assumption | omega | ((try simp (disch := omega) only [w32_of, w64_of, w8_of]) <;> first | assumption | omega | (split <;> omega) | (refine And.intro ?_ ?_ <;> split <;> omega)) | omega), hσ_44, frσ_44⟩)
        rintro ⟨n_67, j_68, σ_69⟩ _ y61
        try dsimp only at y61 ⊢
        obtain ⟨g60, hσ_69, frσ_69⟩ := y61
        exact wp_some (x_inl ⟨⟨(by (try dsimp only) <;> first | assumption | omega | ((try simp (disch := omega) only [w32_of, w64_of, w8_of]) <;> first | assumption | omega | (split <;> omega) | (refine And.intro ?_ ?_ <;> split <;> omega)) | omega), hσ_69, frσ_69⟩, (by (try dsimp only) <;> first | assumption | omega | ((try simp (disch := omega) only [w32_of, w64_of, w8_of]) <;> first | assumption | omega | (split <;> omega) | (refine And.intro ?_ ?_ <;> split <;> omega)) | omega)⟩)
      · try simp (disch := omega) only [w32_of, w64_of, w8_of, decide_eq_true_eq, decide_eq_false_iff_not, Bool.not_eq_true] at c17
        exact wp_some (x_inr ⟨(by (try dsimp only) <;> first | assumption | omega | ((try simp (disch := omega) only [w32_of, w64_of, w8_of]) <;> first | assumption | omega | (split <;> omega) | (refine And.intro ?_ ?_ <;> split <;> omega)) | omega), hσ_33, frσ_33⟩)
    rintro ⟨n_73, i_74, σ_75⟩ _ y63
    try dsimp only at y63 ⊢
    obtain ⟨g62, hσ_75, frσ_75⟩ := y63
    exact wp_some ⟨hσ_75, frσ_75, (by intro q9; (try dsimp only) <;> first | assumption | omega | ((try simp (disch := omega) only [w32_of, w64_of, w8_of]) <;> first | assumption | omega | (split <;> omega) | (refine And.intro ?_ ?_ <;> split <;> omega)) | omega)⟩
theorem s_R_gatherShape {σ : SG} {slot_0 : Int} {shape_0 : Int} (hσ : II σ) (qslot_0 : 0 ≤ slot_0 ∧ slot_0 ≤ 31) (qshape_0 : 0 ≤ shape_0 ∧ shape_0 ≤ 1) (w0 : SHs σ) (w1 : ND σ) (w2 : σ kR_segments 0 + σ kR_pointMany slot_0 ≤ 4200) (w3 : 0 < σ kR_planMany slot_0) : wp_ (fR_gatherShape σ slot_0 shape_0) (fun zz_ => II zz_ ∧ FR [kR_ex, kR_ey, kR_hasInside, kR_lineEnd, kR_lineEnds, kR_numberOf, kR_partsOf, kR_ringOf, kR_segments, kR_segmentsOf, kR_shapeOf, kR_slotOf, kR_sx, kR_sy, kR_typeOf] σ zz_ ∧ (ND zz_) ∧ (σ kR_segments 0 ≤ zz_ kR_segments 0 ∧ zz_ kR_segments 0 ≤ σ kR_segments 0 + σ kR_pointMany slot_0)) := by
  unfold fR_gatherShape
  have c1 := ii_kR_segments hσ 0
  have c2 := ii_kR_pointMany hσ slot_0
  have c3 := ii_kR_planMany hσ slot_0
  have c4 := w32_rng shape_0
  refine wp_waI hσ b_kR_slotOf (by (try dsimp only) <;> first | assumption | omega | ((try simp (disch := omega) only [w32_of, w64_of, w8_of]) <;> first | assumption | omega | (split <;> omega) | (refine And.intro ?_ ?_ <;> split <;> omega)) | omega) (by (try dsimp only) <;> first | assumption | omega | ((try simp (disch := omega) only [w32_of, w64_of, w8_of]) <;> first | assumption | omega | (split <;> omega) | (refine And.intro ?_ ?_ <;> split <;> omega)) | omega) (by (try dsimp only) <;> first | assumption | omega | ((try simp (disch := omega) only [w32_of, w64_of, w8_of]) <;> first | assumption | omega | (split <;> omega) | (refine And.intro ?_ ?_ <;> split <;> omega)) | omega) (fun σ_1 hσ_1 eσ_1 => ?_)
  try simp (disch := omega) only [w32_of, w64_of, w8_of] at eσ_1
  have flσ_1 := FR_sg eσ_1
  have frσ_1 : FR [kR_ex, kR_ey, kR_hasInside, kR_lineEnd, kR_lineEnds, kR_numberOf, kR_partsOf, kR_ringOf, kR_segments, kR_segmentsOf, kR_shapeOf, kR_slotOf, kR_sx, kR_sy, kR_typeOf] σ σ_1 := FR_le flσ_1 (by decide)
  have c5 := w32_rng (2048 * slot_0)
  refine wp_rdI (by (try dsimp only) <;> first | assumption | omega | ((try simp (disch := omega) only [w32_of, w64_of, w8_of]) <;> first | assumption | omega | (split <;> omega) | (refine And.intro ?_ ?_ <;> split <;> omega)) | omega) (by (try dsimp only) <;> first | assumption | omega | ((try simp (disch := omega) only [w32_of, w64_of, w8_of]) <;> first | assumption | omega | (split <;> omega) | (refine And.intro ?_ ?_ <;> split <;> omega)) | omega) (fun x_3 e_x_3 => ?_)
  rw [FR_at frσ_1 (c := kR_plan) (by decide)] at e_x_3
  try simp (disch := omega) only [w32_of, w64_of, w8_of] at e_x_3
  have c6 := FR_at flσ_1 (c := kR_plan) (by decide) (2048 * slot_0)
  have ho0 := (FLw_hd (FLw_0 (w0 slot_0 (by omega) (by omega))) (by omega)).1
  have ho1 := ho0.1
  have ho2 := ho0.2.1
  rw [← e_x_3] at ho1 ho2
  have htk : -1 ≤ fR_typeOfKind x_3 ∧ fR_typeOfKind x_3 ≤ 2 := by unfold fR_typeOfKind; have hr3 := q_irm_bd (x_3 - 1) 3 (by rw [w32_of (by omega) (by omega)]; omega); rw [w32_of (x := 3) (by omega) (by omega), w32_of (x := x_3 - 1) (by omega) (by omega)] at hr3; split <;> omega
  refine wp_waI hσ_1 b_kR_typeOf (by (try dsimp only) <;> first | assumption | omega | ((try simp (disch := omega) only [w32_of, w64_of, w8_of]) <;> first | assumption | omega | (split <;> omega) | (refine And.intro ?_ ?_ <;> split <;> omega)) | omega) (by (try dsimp only) <;> first | assumption | omega | ((try simp (disch := omega) only [w32_of, w64_of, w8_of]) <;> first | assumption | omega | (split <;> omega) | (refine And.intro ?_ ?_ <;> split <;> omega)) | omega) (by (try dsimp only) <;> first | assumption | omega | ((try simp (disch := omega) only [w32_of, w64_of, w8_of]) <;> first | assumption | omega | (split <;> omega) | (refine And.intro ?_ ?_ <;> split <;> omega)) | omega) (fun σ_5 hσ_5 eσ_5 => ?_)
  try simp (disch := omega) only [w32_of, w64_of, w8_of] at eσ_5
  have flσ_5 := FR_sg eσ_5
  have frσ_5 : FR [kR_ex, kR_ey, kR_hasInside, kR_lineEnd, kR_lineEnds, kR_numberOf, kR_partsOf, kR_ringOf, kR_segments, kR_segmentsOf, kR_shapeOf, kR_slotOf, kR_sx, kR_sy, kR_typeOf] σ σ_5 := FR_tr frσ_1 flσ_5 (by decide) (by decide)
  refine wp_waI hσ_5 b_kR_partsOf (by (try dsimp only) <;> first | assumption | omega | ((try simp (disch := omega) only [w32_of, w64_of, w8_of]) <;> first | assumption | omega | (split <;> omega) | (refine And.intro ?_ ?_ <;> split <;> omega)) | omega) (by (try dsimp only) <;> first | assumption | omega | ((try simp (disch := omega) only [w32_of, w64_of, w8_of]) <;> first | assumption | omega | (split <;> omega) | (refine And.intro ?_ ?_ <;> split <;> omega)) | omega) (by (try dsimp only) <;> first | assumption | omega | ((try simp (disch := omega) only [w32_of, w64_of, w8_of]) <;> first | assumption | omega | (split <;> omega) | (refine And.intro ?_ ?_ <;> split <;> omega)) | omega) (fun σ_7 hσ_7 eσ_7 => ?_)
  try simp (disch := omega) only [w32_of, w64_of, w8_of] at eσ_7
  have flσ_7 := FR_sg eσ_7
  have frσ_7 : FR [kR_ex, kR_ey, kR_hasInside, kR_lineEnd, kR_lineEnds, kR_numberOf, kR_partsOf, kR_ringOf, kR_segments, kR_segmentsOf, kR_shapeOf, kR_slotOf, kR_sx, kR_sy, kR_typeOf] σ σ_7 := FR_tr frσ_5 flσ_7 (by decide) (by decide)
  refine wp_waI hσ_7 b_kR_lineEnds (by (try dsimp only) <;> first | assumption | omega | ((try simp (disch := omega) only [w32_of, w64_of, w8_of]) <;> first | assumption | omega | (split <;> omega) | (refine And.intro ?_ ?_ <;> split <;> omega)) | omega) (by (try dsimp only) <;> first | assumption | omega | ((try simp (disch := omega) only [w32_of, w64_of, w8_of]) <;> first | assumption | omega | (split <;> omega) | (refine And.intro ?_ ?_ <;> split <;> omega)) | omega) (by (try dsimp only) <;> first | assumption | omega | ((try simp (disch := omega) only [w32_of, w64_of, w8_of]) <;> first | assumption | omega | (split <;> omega) | (refine And.intro ?_ ?_ <;> split <;> omega)) | omega) (fun σ_9 hσ_9 eσ_9 => ?_)
  try simp (disch := omega) only [w32_of, w64_of, w8_of] at eσ_9
  have flσ_9 := FR_sg eσ_9
  have frσ_9 : FR [kR_ex, kR_ey, kR_hasInside, kR_lineEnd, kR_lineEnds, kR_numberOf, kR_partsOf, kR_ringOf, kR_segments, kR_segmentsOf, kR_shapeOf, kR_slotOf, kR_sx, kR_sy, kR_typeOf] σ σ_9 := FR_tr frσ_7 flσ_9 (by decide) (by decide)
  have c7 := bz_bd false
  try simp (disch := omega) only [w32_of, w64_of, w8_of] at c7
  refine wp_waI hσ_9 b_kR_hasInside (by (try dsimp only) <;> first | assumption | omega | ((try simp (disch := omega) only [w32_of, w64_of, w8_of]) <;> first | assumption | omega | (split <;> omega) | (refine And.intro ?_ ?_ <;> split <;> omega)) | omega) (by (try dsimp only) <;> first | assumption | omega | ((try simp (disch := omega) only [w32_of, w64_of, w8_of]) <;> first | assumption | omega | (split <;> omega) | (refine And.intro ?_ ?_ <;> split <;> omega)) | omega) (by (try dsimp only) <;> first | assumption | omega | ((try simp (disch := omega) only [w32_of, w64_of, w8_of]) <;> first | assumption | omega | (split <;> omega) | (refine And.intro ?_ ?_ <;> split <;> omega)) | omega) (fun σ_11 hσ_11 eσ_11 => ?_)
  try simp (disch := omega) only [w32_of, w64_of, w8_of] at eσ_11
  have flσ_11 := FR_sg eσ_11
  have frσ_11 : FR [kR_ex, kR_ey, kR_hasInside, kR_lineEnd, kR_lineEnds, kR_numberOf, kR_partsOf, kR_ringOf, kR_segments, kR_segmentsOf, kR_shapeOf, kR_slotOf, kR_sx, kR_sy, kR_typeOf] σ σ_11 := FR_tr frσ_9 flσ_11 (by decide) (by decide)
  have c8 := w32_rng slot_0
  refine wp_rdI (by (try dsimp only) <;> first | assumption | omega | ((try simp (disch := omega) only [w32_of, w64_of, w8_of]) <;> first | assumption | omega | (split <;> omega) | (refine And.intro ?_ ?_ <;> split <;> omega)) | omega) (by (try dsimp only) <;> first | assumption | omega | ((try simp (disch := omega) only [w32_of, w64_of, w8_of]) <;> first | assumption | omega | (split <;> omega) | (refine And.intro ?_ ?_ <;> split <;> omega)) | omega) (fun x_13 e_x_13 => ?_)
  have b_x_13 : 0 ≤ x_13 ∧ x_13 ≤ 2048 := by rw [e_x_13]; exact ii_kR_planMany hσ_11 _
  rw [FR_at frσ_11 (c := kR_planMany) (by decide)] at e_x_13
  try simp (disch := omega) only [w32_of, w64_of, w8_of] at e_x_13
  have c9 := ii_kR_planMany hσ_11 slot_0
  have c10 := FR_at flσ_11 (c := kR_planMany) (by decide) slot_0
  have c11 := ii_kR_planMany hσ_9 slot_0
  have c12 := FR_at flσ_9 (c := kR_planMany) (by decide) slot_0
  have c13 := ii_kR_planMany hσ_7 slot_0
  have c14 := FR_at flσ_7 (c := kR_planMany) (by decide) slot_0
  have c15 := ii_kR_planMany hσ_5 slot_0
  have c16 := FR_at flσ_5 (c := kR_planMany) (by decide) slot_0
  have c17 := ii_kR_planMany hσ_1 slot_0
  have c18 := FR_at flσ_1 (c := kR_planMany) (by decide) slot_0
  refine wp_bd (P := fun rr_ => (0 ≤ rr_.1 ∧ rr_.1 ≤ 2147483647) ∧ II rr_.2.2 ∧ FR [kR_ex, kR_ey, kR_hasInside, kR_lineEnd, kR_lineEnds, kR_numberOf, kR_partsOf, kR_ringOf, kR_segments, kR_segmentsOf, kR_shapeOf, kR_slotOf, kR_sx, kR_sy, kR_typeOf] σ rr_.2.2 ∧ (ND rr_.2.2) ∧ (σ kR_segments 0 ≤ rr_.2.2 kR_segments 0) ∧ (rr_.2.2 kR_segments 0 ≤ σ kR_segments 0 + σ kR_pointMany slot_0)) ?_ ?_
  · have hpm := ii_kR_planMany hσ slot_0
    have hqm := ii_kR_pointMany hσ slot_0
    have c19 := ii_kR_segments hσ_11 0
    have c20 := FR_at flσ_11 (c := kR_segments) (by decide) 0
    have c21 := ii_kR_segments hσ_9 0
    have c22 := FR_at flσ_9 (c := kR_segments) (by decide) 0
    have c23 := ii_kR_segments hσ_7 0
    have c24 := FR_at flσ_7 (c := kR_segments) (by decide) 0
    have c25 := ii_kR_segments hσ_5 0
    have c26 := FR_at flσ_5 (c := kR_segments) (by decide) 0
    have c27 := ii_kR_segments hσ_1 0
    have c28 := FR_at flσ_1 (c := kR_segments) (by decide) 0
    have c29 := ii_kR_partsOf hσ_11 shape_0
    have c30 := FR_at flσ_11 (c := kR_partsOf) (by decide) shape_0
    have c31 := ii_kR_partsOf hσ_9 shape_0
    have c32 := FR_at flσ_9 (c := kR_partsOf) (by decide) shape_0
    have c33 := ii_kR_partsOf hσ_7 shape_0
    have c34 := sg_val eσ_7
    refine wp_whl (fun ss_ => II ss_.2.2 ∧ FR [kR_ex, kR_ey, kR_hasInside, kR_lineEnd, kR_lineEnds, kR_numberOf, kR_partsOf, kR_ringOf, kR_segments, kR_segmentsOf, kR_shapeOf, kR_slotOf, kR_sx, kR_sy, kR_typeOf] σ ss_.2.2 ∧ (FLw σ slot_0 ss_.1 ss_.2.1) ∧ (ND ss_.2.2) ∧ (σ kR_segments 0 ≤ ss_.2.2 kR_segments 0) ∧ (ss_.2.2 kR_segments 0 ≤ σ kR_segments 0 + (ss_.2.1 - 2048 * slot_0)) ∧ (ss_.2.2 kR_partsOf shape_0 ≤ ss_.1 - 2048 * slot_0)) (fun ss_ => (2048 * slot_0 + 2050 - ss_.1).toNat) ⟨hσ_11, frσ_11, (by (try dsimp only) <;> (first | assumption | exact FLw_0 (w0 _ (by omega) (by omega)))), (ND_f flσ_11 (by decide) (ND_f flσ_9 (by decide) (ND_f flσ_7 (by decide) (ND_f flσ_5 (by decide) (ND_f flσ_1 (by decide) w1))))), (by (try dsimp only) <;> first | assumption | omega | ((try simp (disch := omega) only [w32_of, w64_of, w8_of]) <;> first | assumption | omega | (split <;> omega) | (refine And.intro ?_ ?_ <;> split <;> omega)) | omega), (by (try dsimp only) <;> first | assumption | omega | ((try simp (disch := omega) only [w32_of, w64_of, w8_of]) <;> first | assumption | omega | (split <;> omega) | (refine And.intro ?_ ?_ <;> split <;> omega)) | omega), (by (try dsimp only) <;> first | assumption | omega | ((try simp (disch := omega) only [w32_of, w64_of, w8_of]) <;> first | assumption | omega | (split <;> omega) | (refine And.intro ?_ ?_ <;> split <;> omega)) | omega)⟩ ?_
    rintro ⟨p_15, point_16, σ_17⟩ y39
    try dsimp only at y39 ⊢
    obtain ⟨hσ_17, frσ_17, gw, g35, g36, g37, g38⟩ := y39
    have hle := FLw_le gw
    have c41 := w32_rng p_15
    have c42 := w32_rng ((2048 * slot_0) + x_13)
    refine wp_if (fun c40 => ?_) (fun c40 => ?_)
    · try simp (disch := omega) only [w32_of, w64_of, w8_of, decide_eq_true_eq, decide_eq_false_iff_not, Bool.not_eq_true] at c40
      refine wp_rdI (by (try dsimp only) <;> first | assumption | omega | ((try simp (disch := omega) only [w32_of, w64_of, w8_of]) <;> first | assumption | omega | (split <;> omega) | (refine And.intro ?_ ?_ <;> split <;> omega)) | omega) (by (try dsimp only) <;> first | assumption | omega | ((try simp (disch := omega) only [w32_of, w64_of, w8_of]) <;> first | assumption | omega | (split <;> omega) | (refine And.intro ?_ ?_ <;> split <;> omega)) | omega) (fun x_26 e_x_26 => ?_)
      rw [FR_at frσ_17 (c := kR_plan) (by decide)] at e_x_26
      try simp (disch := omega) only [w32_of, w64_of, w8_of] at e_x_26
      have c43 := FR_at frσ_17 (c := kR_plan) (by decide) p_15
      have c44 := w32_rng (p_15 + 1)
      refine wp_rdI (by (try dsimp only) <;> first | assumption | omega | ((try simp (disch := omega) only [w32_of, w64_of, w8_of]) <;> first | assumption | omega | (split <;> omega) | (refine And.intro ?_ ?_ <;> split <;> omega)) | omega) (by (try dsimp only) <;> first | assumption | omega | ((try simp (disch := omega) only [w32_of, w64_of, w8_of]) <;> first | assumption | omega | (split <;> omega) | (refine And.intro ?_ ?_ <;> split <;> omega)) | omega) (fun x_28 e_x_28 => ?_)
      rw [FR_at frσ_17 (c := kR_plan) (by decide)] at e_x_28
      try simp (disch := omega) only [w32_of, w64_of, w8_of] at e_x_28
      have c45 := FR_at frσ_17 (c := kR_plan) (by decide) (p_15 + 1)
      obtain ⟨ho, hn, h2, h3, h4, h5, -⟩ := FLw_hd gw (by omega)
      have ho1 := ho.1
      have ho2 := ho.2.1
      have ho3 := ho.2.2.1
      refine wp_bd (P := fun rr_ => II rr_ ∧ FR [kR_ex, kR_ey, kR_hasInside, kR_lineEnd, kR_lineEnds, kR_numberOf, kR_partsOf, kR_ringOf, kR_segments, kR_segmentsOf, kR_shapeOf, kR_slotOf, kR_sx, kR_sy, kR_typeOf] σ rr_ ∧ (ND rr_) ∧ (σ_17 kR_segments 0 ≤ rr_ kR_segments 0) ∧ (rr_ kR_partsOf shape_0 ≤ σ_17 kR_partsOf shape_0 + 1) ∧ ((x_26 = 2 ∧ rr_ kR_segments 0 ≤ σ_17 kR_segments 0 + x_28) ∨ (¬ x_26 = 2 ∧ rr_ kR_segments 0 ≤ σ_17 kR_segments 0))) ?_ ?_
      · have c47 := w32_rng x_26
        refine wp_if (fun c46 => ?_) (fun c46 => ?_)
        · try simp (disch := omega) only [w32_of, w64_of, w8_of, decide_eq_true_eq, decide_eq_false_iff_not, Bool.not_eq_true] at c46
          have epl := ep_l (show σ kR_plan p_15 < 3 by omega)
          refine wp_rdI (by (try dsimp only) <;> first | assumption | omega | ((try simp (disch := omega) only [w32_of, w64_of, w8_of]) <;> first | assumption | omega | (split <;> omega) | (refine And.intro ?_ ?_ <;> split <;> omega)) | omega) (by (try dsimp only) <;> first | assumption | omega | ((try simp (disch := omega) only [w32_of, w64_of, w8_of]) <;> first | assumption | omega | (split <;> omega) | (refine And.intro ?_ ?_ <;> split <;> omega)) | omega) (fun x_35 e_x_35 => ?_)
          have b_x_35 : 0 ≤ x_35 ∧ x_35 ≤ 2048 := by rw [e_x_35]; exact ii_kR_partsOf hσ_17 _
          try simp (disch := omega) only [w32_of, w64_of, w8_of] at e_x_35
          have c48 := ii_kR_partsOf hσ_17 shape_0
          refine wp_waI hσ_17 b_kR_partsOf (by (try dsimp only) <;> first | assumption | omega | ((try simp (disch := omega) only [w32_of, w64_of, w8_of]) <;> first | assumption | omega | (split <;> omega) | (refine And.intro ?_ ?_ <;> split <;> omega)) | omega) (by (try dsimp only) <;> first | assumption | omega | ((try simp (disch := omega) only [w32_of, w64_of, w8_of]) <;> first | assumption | omega | (split <;> omega) | (refine And.intro ?_ ?_ <;> split <;> omega)) | omega) (by (try dsimp only) <;> first | assumption | omega | ((try simp (disch := omega) only [w32_of, w64_of, w8_of]) <;> first | assumption | omega | (split <;> omega) | (refine And.intro ?_ ?_ <;> split <;> omega)) | omega) (fun σ_37 hσ_37 eσ_37 => ?_)
          try simp (disch := omega) only [w32_of, w64_of, w8_of] at eσ_37
          have flσ_37 := FR_sg eσ_37
          have frσ_37 : FR [kR_ex, kR_ey, kR_hasInside, kR_lineEnd, kR_lineEnds, kR_numberOf, kR_partsOf, kR_ringOf, kR_segments, kR_segmentsOf, kR_shapeOf, kR_slotOf, kR_sx, kR_sy, kR_typeOf] σ σ_37 := FR_tr frσ_17 flσ_37 (by decide) (by decide)
          refine wp_bd (s_R_lineEnds (σ := σ_37) (shape_0 := shape_0) (from_0 := point_16) (n_0 := x_28) hσ_37 (by (try dsimp only) <;> first | assumption | omega | ((try simp (disch := omega) only [w32_of, w64_of, w8_of]) <;> first | assumption | omega | (split <;> omega) | (refine And.intro ?_ ?_ <;> split <;> omega)) | omega) (by (try dsimp only) <;> first | assumption | omega | ((try simp (disch := omega) only [w32_of, w64_of, w8_of]) <;> first | assumption | omega | (split <;> omega) | (refine And.intro ?_ ?_ <;> split <;> omega)) | omega) (by (try dsimp only) <;> first | assumption | omega | ((try simp (disch := omega) only [w32_of, w64_of, w8_of]) <;> first | assumption | omega | (split <;> omega) | (refine And.intro ?_ ?_ <;> split <;> omega)) | omega) (by (try dsimp only) <;> first | assumption | omega | ((try simp (disch := omega) only [w32_of, w64_of, w8_of]) <;> first | assumption | omega | (split <;> omega) | (refine And.intro ?_ ?_ <;> split <;> omega)) | omega)) ?_
          rintro σ_40 - ⟨hσ_40, flσ_40⟩
          have frσ_40 : FR [kR_ex, kR_ey, kR_hasInside, kR_lineEnd, kR_lineEnds, kR_numberOf, kR_partsOf, kR_ringOf, kR_segments, kR_segmentsOf, kR_shapeOf, kR_slotOf, kR_sx, kR_sy, kR_typeOf] σ σ_40 := FR_tr frσ_37 flσ_40 (by decide) (by decide)
          have c49 := ii_kR_segments hσ_40 0
          have c50 := FR_at flσ_40 (c := kR_segments) (by decide) 0
          have c51 := ii_kR_segments hσ_37 0
          have c52 := FR_at flσ_37 (c := kR_segments) (by decide) 0
          have c53 := ii_kR_segments hσ_17 0
          refine wp_bd (s_R_rowOfSegments (σ := σ_40) (shape_0 := shape_0) (from_0 := point_16) (n_0 := x_28) (closes_0 := false) hσ_40 (by (try dsimp only) <;> first | assumption | omega | ((try simp (disch := omega) only [w32_of, w64_of, w8_of]) <;> first | assumption | omega | (split <;> omega) | (refine And.intro ?_ ?_ <;> split <;> omega)) | omega) (ND_f flσ_40 (by decide) (ND_f flσ_37 (by decide) g35)) (by (try dsimp only) <;> first | assumption | omega | ((try simp (disch := omega) only [w32_of, w64_of, w8_of]) <;> first | assumption | omega | (split <;> omega) | (refine And.intro ?_ ?_ <;> split <;> omega)) | omega) (by (try dsimp only) <;> first | assumption | omega | ((try simp (disch := omega) only [w32_of, w64_of, w8_of]) <;> first | assumption | omega | (split <;> omega) | (refine And.intro ?_ ?_ <;> split <;> omega)) | omega) (by (try dsimp only) <;> first | assumption | omega | ((try simp (disch := omega) only [w32_of, w64_of, w8_of]) <;> first | assumption | omega | (split <;> omega) | (refine And.intro ?_ ?_ <;> split <;> omega)) | omega) (by (try dsimp only) <;> first | assumption | omega | ((try simp (disch := omega) only [w32_of, w64_of, w8_of]) <;> first | assumption | omega | (split <;> omega) | (refine And.intro ?_ ?_ <;> split <;> omega)) | omega)) ?_
          rintro σ_42 - ⟨hσ_42, flσ_42, g54, g55, g56⟩
          have frσ_42 : FR [kR_ex, kR_ey, kR_hasInside, kR_lineEnd, kR_lineEnds, kR_numberOf, kR_partsOf, kR_ringOf, kR_segments, kR_segmentsOf, kR_shapeOf, kR_slotOf, kR_sx, kR_sy, kR_typeOf] σ σ_42 := FR_tr frσ_40 flσ_42 (by decide) (by decide)
          try simp (disch := omega) only [w32_of, w64_of, w8_of] at g54
          have c57 := ii_kR_segments hσ_42 0
          try simp (disch := omega) only [w32_of, w64_of, w8_of] at g55
          try simp (disch := omega) only [w32_of, w64_of, w8_of] at g56
          have c58 := ii_kR_partsOf hσ_42 shape_0
          have c59 := FR_at flσ_42 (c := kR_partsOf) (by decide) shape_0
          have c60 := ii_kR_partsOf hσ_40 shape_0
          have c61 := FR_at flσ_40 (c := kR_partsOf) (by decide) shape_0
          have c62 := ii_kR_partsOf hσ_37 shape_0
          have c63 := sg_val eσ_37
          exact wp_some ⟨hσ_42, frσ_42, g54, (by (try dsimp only) <;> first | assumption | omega | ((try simp (disch := omega) only [w32_of, w64_of, w8_of]) <;> first | assumption | omega | (split <;> omega) | (refine And.intro ?_ ?_ <;> split <;> omega)) | omega), (by (try dsimp only) <;> first | assumption | omega | ((try simp (disch := omega) only [w32_of, w64_of, w8_of]) <;> first | assumption | omega | (split <;> omega) | (refine And.intro ?_ ?_ <;> split <;> omega)) | omega), (by (try dsimp only) <;> first | assumption | omega | ((try simp (disch := omega) only [w32_of, w64_of, w8_of]) <;> first | assumption | omega | (split <;> omega) | (refine And.intro ?_ ?_ <;> split <;> omega)) | omega)⟩
        · try simp (disch := omega) only [w32_of, w64_of, w8_of, decide_eq_true_eq, decide_eq_false_iff_not, Bool.not_eq_true] at c46
          have c64 := ii_kR_segments hσ_17 0
          have c65 := ii_kR_partsOf hσ_17 shape_0
          exact wp_some ⟨hσ_17, frσ_17, g35, (by (try dsimp only) <;> first | assumption | omega | ((try simp (disch := omega) only [w32_of, w64_of, w8_of]) <;> first | assumption | omega | (split <;> omega) | (refine And.intro ?_ ?_ <;> split <;> omega)) | omega), (by (try dsimp only) <;> first | assumption | omega | ((try simp (disch := omega) only [w32_of, w64_of, w8_of]) <;> first | assumption | omega | (split <;> omega) | (refine And.intro ?_ ?_ <;> split <;> omega)) | omega), (by (try dsimp only) <;> first | assumption | omega | ((try simp (disch := omega) only [w32_of, w64_of, w8_of]) <;> first | assumption | omega | (split <;> omega) | (refine And.intro ?_ ?_ <;> split <;> omega)) | omega)⟩
      rintro σ_45 _ ⟨hσ_45, frσ_45, g66, g67, g68, g69⟩
      refine wp_bd (P := fun rr_ => (0 ≤ rr_.2.2.1 ∧ rr_.2.2.1 ≤ 2147483647) ∧ II rr_.2.2.2 ∧ FR [kR_ex, kR_ey, kR_hasInside, kR_lineEnd, kR_lineEnds, kR_numberOf, kR_partsOf, kR_ringOf, kR_segments, kR_segmentsOf, kR_shapeOf, kR_slotOf, kR_sx, kR_sy, kR_typeOf] σ rr_.2.2.2 ∧ (FLw σ slot_0 rr_.1 rr_.2.1) ∧ (p_15 + 2 ≤ rr_.1) ∧ (ND rr_.2.2.2) ∧ (σ kR_segments 0 ≤ rr_.2.2.2 kR_segments 0) ∧ (rr_.2.2.2 kR_segments 0 ≤ σ kR_segments 0 + (rr_.2.1 - 2048 * slot_0)) ∧ (rr_.2.2.2 kR_partsOf shape_0 ≤ rr_.1 - 2048 * slot_0)) ?_ ?_
      · have epn : 3 ≤ σ kR_plan p_15 ∨ eP (σ kR_plan) p_15 = σ kR_plan (p_15 + 1) := by by_cases z : σ kR_plan p_15 < 3 <;> first | exact Or.inr (ep_l z) | exact Or.inl (by omega)
        have c70 := ii_kR_segments hσ_45 0
        have c71 := ii_kR_partsOf hσ_45 shape_0
        refine wp_whl (fun ss_ => II ss_.2.2.2 ∧ FR [kR_ex, kR_ey, kR_hasInside, kR_lineEnd, kR_lineEnds, kR_numberOf, kR_partsOf, kR_ringOf, kR_segments, kR_segmentsOf, kR_shapeOf, kR_slotOf, kR_sx, kR_sy, kR_typeOf] σ ss_.2.2.2 ∧ (RWp (σ kR_plan) p_15 ss_.2.2.1 ss_.1 point_16 ss_.2.1) ∧ (ND ss_.2.2.2) ∧ (σ kR_segments 0 ≤ ss_.2.2.2 kR_segments 0) ∧ (ss_.2.2.2 kR_segments 0 ≤ σ kR_segments 0 + (ss_.2.1 - 2048 * slot_0)) ∧ (ss_.2.2.2 kR_partsOf shape_0 ≤ ss_.1 - 2048 * slot_0)) (fun ss_ => (4096 - ss_.2.2.1).toNat) ⟨hσ_45, frσ_45, (by (try dsimp only) <;> (first | exact RW_0 ho e_x_26 e_x_28 | (rw [e_x_66]; exact r1))), g66, (by (try dsimp only) <;> first | assumption | omega | ((try simp (disch := omega) only [w32_of, w64_of, w8_of]) <;> first | assumption | omega | (split <;> omega) | (refine And.intro ?_ ?_ <;> split <;> omega)) | omega), (by (try dsimp only) <;> first | assumption | omega | ((try simp (disch := omega) only [w32_of, w64_of, w8_of]) <;> first | assumption | omega | (split <;> omega) | (refine And.intro ?_ ?_ <;> split <;> omega)) | omega), (by (try dsimp only) <;> first | assumption | omega | ((try simp (disch := omega) only [w32_of, w64_of, w8_of]) <;> first | assumption | omega | (split <;> omega) | (refine And.intro ?_ ?_ <;> split <;> omega)) | omega)⟩ ?_
        rintro ⟨p_47, point_48, k_49, σ_50⟩ y76
        try dsimp only at y76 ⊢
        obtain ⟨hσ_50, frσ_50, gr, g72, g73, g74, g75⟩ := y76
        have hrl := RW_le ho gr
        have c78 := w32_rng x_26
        have c79 := w32_rng k_49
        have c80 := w32_rng x_28
        refine wp_if (fun c77 => ?_) (fun c77 => ?_)
        · try simp (disch := omega) only [w32_of, w64_of, w8_of, decide_eq_true_eq, decide_eq_false_iff_not, Bool.not_eq_true] at c77
          obtain ⟨r1, r2, r3, r4, r5, r6⟩ := RW_go ho gr (by omega) (by omega)
          refine wp_rdI (by (try dsimp only) <;> first | assumption | omega | ((try simp (disch := omega) only [w32_of, w64_of, w8_of]) <;> first | assumption | omega | (split <;> omega) | (refine And.intro ?_ ?_ <;> split <;> omega)) | omega) (by (try dsimp only) <;> first | assumption | omega | ((try simp (disch := omega) only [w32_of, w64_of, w8_of]) <;> first | assumption | omega | (split <;> omega) | (refine And.intro ?_ ?_ <;> split <;> omega)) | omega) (fun x_58 e_x_58 => ?_)
          have b_x_58 : 0 ≤ x_58 ∧ x_58 ≤ 2048 := by rw [e_x_58]; exact ii_kR_partsOf hσ_50 _
          try simp (disch := omega) only [w32_of, w64_of, w8_of] at e_x_58
          have c81 := ii_kR_partsOf hσ_50 shape_0
          refine wp_waI hσ_50 b_kR_partsOf (by (try dsimp only) <;> first | assumption | omega | ((try simp (disch := omega) only [w32_of, w64_of, w8_of]) <;> first | assumption | omega | (split <;> omega) | (refine And.intro ?_ ?_ <;> split <;> omega)) | omega) (by (try dsimp only) <;> first | assumption | omega | ((try simp (disch := omega) only [w32_of, w64_of, w8_of]) <;> first | assumption | omega | (split <;> omega) | (refine And.intro ?_ ?_ <;> split <;> omega)) | omega) (by (try dsimp only) <;> first | assumption | omega | ((try simp (disch := omega) only [w32_of, w64_of, w8_of]) <;> first | assumption | omega | (split <;> omega) | (refine And.intro ?_ ?_ <;> split <;> omega)) | omega) (fun σ_60 hσ_60 eσ_60 => ?_)
          try simp (disch := omega) only [w32_of, w64_of, w8_of] at eσ_60
          have flσ_60 := FR_sg eσ_60
          have frσ_60 : FR [kR_ex, kR_ey, kR_hasInside, kR_lineEnd, kR_lineEnds, kR_numberOf, kR_partsOf, kR_ringOf, kR_segments, kR_segmentsOf, kR_shapeOf, kR_slotOf, kR_sx, kR_sy, kR_typeOf] σ σ_60 := FR_tr frσ_50 flσ_60 (by decide) (by decide)
          have c82 := w32_rng p_47
          refine wp_rdI (by (try dsimp only) <;> first | assumption | omega | ((try simp (disch := omega) only [w32_of, w64_of, w8_of]) <;> first | assumption | omega | (split <;> omega) | (refine And.intro ?_ ?_ <;> split <;> omega)) | omega) (by (try dsimp only) <;> first | assumption | omega | ((try simp (disch := omega) only [w32_of, w64_of, w8_of]) <;> first | assumption | omega | (split <;> omega) | (refine And.intro ?_ ?_ <;> split <;> omega)) | omega) (fun x_62 e_x_62 => ?_)
          rw [FR_at frσ_60 (c := kR_plan) (by decide)] at e_x_62
          try simp (disch := omega) only [w32_of, w64_of, w8_of] at e_x_62
          have c83 := FR_at flσ_60 (c := kR_plan) (by decide) p_47
          have c84 := FR_at frσ_50 (c := kR_plan) (by decide) p_47
          have c85 := ii_kR_segments hσ_60 0
          have c86 := FR_at flσ_60 (c := kR_segments) (by decide) 0
          have c87 := ii_kR_segments hσ_50 0
          refine wp_bd (s_R_rowOfSegments (σ := σ_60) (shape_0 := shape_0) (from_0 := point_48) (n_0 := x_62) (closes_0 := true) hσ_60 (by (try dsimp only) <;> first | assumption | omega | ((try simp (disch := omega) only [w32_of, w64_of, w8_of]) <;> first | assumption | omega | (split <;> omega) | (refine And.intro ?_ ?_ <;> split <;> omega)) | omega) (ND_f flσ_60 (by decide) g72) (by (try dsimp only) <;> first | assumption | omega | ((try simp (disch := omega) only [w32_of, w64_of, w8_of]) <;> first | assumption | omega | (split <;> omega) | (refine And.intro ?_ ?_ <;> split <;> omega)) | omega) (by (try dsimp only) <;> first | assumption | omega | ((try simp (disch := omega) only [w32_of, w64_of, w8_of]) <;> first | assumption | omega | (split <;> omega) | (refine And.intro ?_ ?_ <;> split <;> omega)) | omega) (by (try dsimp only) <;> first | assumption | omega | ((try simp (disch := omega) only [w32_of, w64_of, w8_of]) <;> first | assumption | omega | (split <;> omega) | (refine And.intro ?_ ?_ <;> split <;> omega)) | omega) (by (try dsimp only) <;> first | assumption | omega | ((try simp (disch := omega) only [w32_of, w64_of, w8_of]) <;> first | assumption | omega | (split <;> omega) | (refine And.intro ?_ ?_ <;> split <;> omega)) | omega)) ?_
          rintro σ_65 - ⟨hσ_65, flσ_65, g88, g89, g90⟩
          have frσ_65 : FR [kR_ex, kR_ey, kR_hasInside, kR_lineEnd, kR_lineEnds, kR_numberOf, kR_partsOf, kR_ringOf, kR_segments, kR_segmentsOf, kR_shapeOf, kR_slotOf, kR_sx, kR_sy, kR_typeOf] σ σ_65 := FR_tr frσ_60 flσ_65 (by decide) (by decide)
          try simp (disch := omega) only [w32_of, w64_of, w8_of] at g88
          have c91 := ii_kR_segments hσ_65 0
          try simp (disch := omega) only [w32_of, w64_of, w8_of] at g89
          try simp (disch := omega) only [w32_of, w64_of, w8_of] at g90
          refine wp_rdI (by (try dsimp only) <;> first | assumption | omega | ((try simp (disch := omega) only [w32_of, w64_of, w8_of]) <;> first | assumption | omega | (split <;> omega) | (refine And.intro ?_ ?_ <;> split <;> omega)) | omega) (by (try dsimp only) <;> first | assumption | omega | ((try simp (disch := omega) only [w32_of, w64_of, w8_of]) <;> first | assumption | omega | (split <;> omega) | (refine And.intro ?_ ?_ <;> split <;> omega)) | omega) (fun x_66 e_x_66 => ?_)
          rw [FR_at frσ_65 (c := kR_plan) (by decide)] at e_x_66
          try simp (disch := omega) only [w32_of, w64_of, w8_of] at e_x_66
          have c92 := FR_at flσ_65 (c := kR_plan) (by decide) p_47
          have c93 := ii_kR_partsOf hσ_65 shape_0
          have c94 := FR_at flσ_65 (c := kR_partsOf) (by decide) shape_0
          have c95 := ii_kR_partsOf hσ_60 shape_0
          have c96 := sg_val eσ_60
          exact wp_some (x_inl ⟨⟨hσ_65, frσ_65, (by (try dsimp only) <;> (first | exact RW_0 ho e_x_26 e_x_28 | (rw [e_x_66]; exact r1))), g88, (by (try dsimp only) <;> first | assumption | omega | ((try simp (disch := omega) only [w32_of, w64_of, w8_of]) <;> first | assumption | omega | (split <;> omega) | (refine And.intro ?_ ?_ <;> split <;> omega)) | omega), (by (try dsimp only) <;> first | assumption | omega | ((try simp (disch := omega) only [w32_of, w64_of, w8_of]) <;> first | assumption | omega | (split <;> omega) | (refine And.intro ?_ ?_ <;> split <;> omega)) | omega), (by (try dsimp only) <;> first | assumption | omega | ((try simp (disch := omega) only [w32_of, w64_of, w8_of]) <;> first | assumption | omega | (split <;> omega) | (refine And.intro ?_ ?_ <;> split <;> omega)) | omega)⟩, (by (try dsimp only) <;> first | assumption | omega | ((try simp (disch := omega) only [w32_of, w64_of, w8_of]) <;> first | assumption | omega | (split <;> omega) | (refine And.intro ?_ ?_ <;> split <;> omega)) | omega)⟩)
        · try simp (disch := omega) only [w32_of, w64_of, w8_of, decide_eq_true_eq, decide_eq_false_iff_not, Bool.not_eq_true] at c77
          obtain ⟨r1, r2⟩ := RW_end ho gr (by omega)
          have c97 := ii_kR_segments hσ_50 0
          have c98 := ii_kR_partsOf hσ_50 shape_0
          exact wp_some (x_inr ⟨(by (try dsimp only) <;> first | assumption | omega | ((try simp (disch := omega) only [w32_of, w64_of, w8_of]) <;> first | assumption | omega | (split <;> omega) | (refine And.intro ?_ ?_ <;> split <;> omega)) | omega), hσ_50, frσ_50, (by (try dsimp only) <;> (rw [r1, r2]; exact hn)), (by (try dsimp only) <;> first | assumption | omega | ((try simp (disch := omega) only [w32_of, w64_of, w8_of]) <;> first | assumption | omega | (split <;> omega) | (refine And.intro ?_ ?_ <;> split <;> omega)) | omega), g72, (by (try dsimp only) <;> first | assumption | omega | ((try simp (disch := omega) only [w32_of, w64_of, w8_of]) <;> first | assumption | omega | (split <;> omega) | (refine And.intro ?_ ?_ <;> split <;> omega)) | omega), (by (try dsimp only) <;> first | assumption | omega | ((try simp (disch := omega) only [w32_of, w64_of, w8_of]) <;> first | assumption | omega | (split <;> omega) | (refine And.intro ?_ ?_ <;> split <;> omega)) | omega), (by (try dsimp only) <;> first | assumption | omega | ((try simp (disch := omega) only [w32_of, w64_of, w8_of]) <;> first | assumption | omega | (split <;> omega) | (refine And.intro ?_ ?_ <;> split <;> omega)) | omega)⟩)
      rintro ⟨p_77, point_78, k_79, σ_80⟩ _ y106
      try dsimp only at y106 ⊢
      obtain ⟨g99, hσ_80, frσ_80, g100, g101, g102, g103, g104, g105⟩ := y106
      have c107 := ii_kR_segments hσ_80 0
      have c108 := ii_kR_partsOf hσ_80 shape_0
      exact wp_some (x_inl ⟨⟨hσ_80, frσ_80, (by (try dsimp only) <;> (first | assumption | exact FLw_0 (w0 _ (by omega) (by omega)))), g102, (by (try dsimp only) <;> first | assumption | omega | ((try simp (disch := omega) only [w32_of, w64_of, w8_of]) <;> first | assumption | omega | (split <;> omega) | (refine And.intro ?_ ?_ <;> split <;> omega)) | omega), (by (try dsimp only) <;> first | assumption | omega | ((try simp (disch := omega) only [w32_of, w64_of, w8_of]) <;> first | assumption | omega | (split <;> omega) | (refine And.intro ?_ ?_ <;> split <;> omega)) | omega), (by (try dsimp only) <;> first | assumption | omega | ((try simp (disch := omega) only [w32_of, w64_of, w8_of]) <;> first | assumption | omega | (split <;> omega) | (refine And.intro ?_ ?_ <;> split <;> omega)) | omega)⟩, (by (try dsimp only) <;> first | assumption | omega | ((try simp (disch := omega) only [w32_of, w64_of, w8_of]) <;> first | assumption | omega | (split <;> omega) | (refine And.intro ?_ ?_ <;> split <;> omega)) | omega)⟩)
    · try simp (disch := omega) only [w32_of, w64_of, w8_of, decide_eq_true_eq, decide_eq_false_iff_not, Bool.not_eq_true] at c40
      have c109 := ii_kR_segments hσ_17 0
      exact wp_some (x_inr ⟨(by (try dsimp only) <;> first | assumption | omega | ((try simp (disch := omega) only [w32_of, w64_of, w8_of]) <;> first | assumption | omega | (split <;> omega) | (refine And.intro ?_ ?_ <;> split <;> omega)) | omega), hσ_17, frσ_17, g35, (by (try dsimp only) <;> first | assumption | omega | ((try simp (disch := omega) only [w32_of, w64_of, w8_of]) <;> first | assumption | omega | (split <;> omega) | (refine And.intro ?_ ?_ <;> split <;> omega)) | omega), (by (try dsimp only) <;> first | assumption | omega | ((try simp (disch := omega) only [w32_of, w64_of, w8_of]) <;> first | assumption | omega | (split <;> omega) | (refine And.intro ?_ ?_ <;> split <;> omega)) | omega)⟩)
  rintro ⟨p_86, point_87, σ_88⟩ _ y114
  try dsimp only at y114 ⊢
  obtain ⟨g110, hσ_88, frσ_88, g111, g112, g113⟩ := y114
  have c115 := ii_kR_segments hσ_88 0
  refine wp_waI hσ_88 b_kR_segmentsOf (by (try dsimp only) <;> first | assumption | omega | ((try simp (disch := omega) only [w32_of, w64_of, w8_of]) <;> first | assumption | omega | (split <;> omega) | (refine And.intro ?_ ?_ <;> split <;> omega)) | omega) (by (try dsimp only) <;> first | assumption | omega | ((try simp (disch := omega) only [w32_of, w64_of, w8_of]) <;> first | assumption | omega | (split <;> omega) | (refine And.intro ?_ ?_ <;> split <;> omega)) | omega) (by (try dsimp only) <;> first | assumption | omega | ((try simp (disch := omega) only [w32_of, w64_of, w8_of]) <;> first | assumption | omega | (split <;> omega) | (refine And.intro ?_ ?_ <;> split <;> omega)) | omega) (fun σ_89 hσ_89 eσ_89 => ?_)
  try simp (disch := omega) only [w32_of, w64_of, w8_of] at eσ_89
  have flσ_89 := FR_sg eσ_89
  have frσ_89 : FR [kR_ex, kR_ey, kR_hasInside, kR_lineEnd, kR_lineEnds, kR_numberOf, kR_partsOf, kR_ringOf, kR_segments, kR_segmentsOf, kR_shapeOf, kR_slotOf, kR_sx, kR_sy, kR_typeOf] σ σ_89 := FR_tr frσ_88 flσ_89 (by decide) (by decide)
  have c116 := ii_kR_segments hσ_89 0
  have c117 := FR_at flσ_89 (c := kR_segments) (by decide) 0
  exact wp_some ⟨hσ_89, frσ_89, (ND_f flσ_89 (by decide) g111), (by (try dsimp only) <;> first | assumption | omega | ((try simp (disch := omega) only [w32_of, w64_of, w8_of]) <;> first | assumption | omega | (split <;> omega) | (refine And.intro ?_ ?_ <;> split <;> omega)) | omega)⟩
theorem s_R_relates {σ : SG} {slot_0 : Int} {other_0 : Int} (hσ : II σ) (qslot_0 : 0 ≤ slot_0 ∧ slot_0 ≤ 31) (qother_0 : 0 ≤ other_0 ∧ other_0 ≤ 31) (w0 : SHs σ) (w1 : 0 < σ kR_planMany slot_0) (w2 : 0 < σ kR_planMany other_0) : wp_ (fR_relates σ slot_0 other_0) (fun zz_ => II zz_.2 ∧ FR [kR_baseX, kR_baseY, kR_cutsMany, kR_ex, kR_ey, kR_hasInside, kR_isInner, kR_limbs, kR_lineEnd, kR_lineEnds, kR_matrix, kR_meetX, kR_meetY, kR_numberOf, kR_offX, kR_offY, kR_partDen, kR_partNum, kR_partsOf, kR_ringOf, kR_segments, kR_segmentsOf, kR_shapeOf, kR_sign, kR_slotOf, kR_sx, kR_sy, kR_typeOf, kR_w, kR_wayX, kR_wayY] σ zz_.2) := by
  unfold fR_relates
  have c1 := ii_kR_planMany hσ slot_0
  have c2 := ii_kR_planMany hσ other_0
  refine wp_wfI hσ b_kR_segments (by (try dsimp only) <;> first | assumption | omega | ((try simp (disch := omega) only [w32_of, w64_of, w8_of]) <;> first | assumption | omega | (split <;> omega) | (refine And.intro ?_ ?_ <;> split <;> omega)) | omega) (fun σ_1 hσ_1 eσ_1 => ?_)
  try simp (disch := omega) only [w32_of, w64_of, w8_of] at eσ_1
  have flσ_1 := FR_sg eσ_1
  have frσ_1 : FR [kR_baseX, kR_baseY, kR_cutsMany, kR_ex, kR_ey, kR_hasInside, kR_isInner, kR_limbs, kR_lineEnd, kR_lineEnds, kR_matrix, kR_meetX, kR_meetY, kR_numberOf, kR_offX, kR_offY, kR_partDen, kR_partNum, kR_partsOf, kR_ringOf, kR_segments, kR_segmentsOf, kR_shapeOf, kR_sign, kR_slotOf, kR_sx, kR_sy, kR_typeOf, kR_w, kR_wayX, kR_wayY] σ σ_1 := FR_le flσ_1 (by decide)
  have c3 := ii_kR_segments hσ_1 0
  have c4 := sg_val eσ_1
  have c5 := ii_kR_pointMany hσ_1 slot_0
  have c6 := FR_at flσ_1 (c := kR_pointMany) (by decide) slot_0
  have c7 := ii_kR_pointMany hσ slot_0
  have c8 := ii_kR_planMany hσ_1 slot_0
  have c9 := FR_at flσ_1 (c := kR_planMany) (by decide) slot_0
  refine wp_bd (s_R_gatherShape (σ := σ_1) (slot_0 := slot_0) (shape_0 := 0) hσ_1 (by (try dsimp only) <;> first | assumption | omega | ((try simp (disch := omega) only [w32_of, w64_of, w8_of]) <;> first | assumption | omega | (split <;> omega) | (refine And.intro ?_ ?_ <;> split <;> omega)) | omega) (by (try dsimp only) <;> first | assumption | omega | ((try simp (disch := omega) only [w32_of, w64_of, w8_of]) <;> first | assumption | omega | (split <;> omega) | (refine And.intro ?_ ?_ <;> split <;> omega)) | omega) (SHs_f frσ_1 (by decide) w0) (by first | assumption | (intro q9 a9 b9; rw [sg_val eσ_1] at b9; omega)) (by (try dsimp only) <;> first | assumption | omega | ((try simp (disch := omega) only [w32_of, w64_of, w8_of]) <;> first | assumption | omega | (split <;> omega) | (refine And.intro ?_ ?_ <;> split <;> omega)) | omega) (by (try dsimp only) <;> first | assumption | omega | ((try simp (disch := omega) only [w32_of, w64_of, w8_of]) <;> first | assumption | omega | (split <;> omega) | (refine And.intro ?_ ?_ <;> split <;> omega)) | omega)) ?_
  rintro σ_3 - ⟨hσ_3, flσ_3, g10, g11⟩
  have frσ_3 : FR [kR_baseX, kR_baseY, kR_cutsMany, kR_ex, kR_ey, kR_hasInside, kR_isInner, kR_limbs, kR_lineEnd, kR_lineEnds, kR_matrix, kR_meetX, kR_meetY, kR_numberOf, kR_offX, kR_offY, kR_partDen, kR_partNum, kR_partsOf, kR_ringOf, kR_segments, kR_segmentsOf, kR_shapeOf, kR_sign, kR_slotOf, kR_sx, kR_sy, kR_typeOf, kR_w, kR_wayX, kR_wayY] σ σ_3 := FR_tr frσ_1 flσ_3 (by decide) (by decide)
  try simp (disch := omega) only [w32_of, w64_of, w8_of] at g10
  have c12 := ii_kR_segments hσ_3 0
  try simp (disch := omega) only [w32_of, w64_of, w8_of] at g11
  have c13 := ii_kR_pointMany hσ_3 other_0
  have c14 := FR_at flσ_3 (c := kR_pointMany) (by decide) other_0
  have c15 := ii_kR_pointMany hσ_1 other_0
  have c16 := FR_at flσ_1 (c := kR_pointMany) (by decide) other_0
  have c17 := ii_kR_pointMany hσ other_0
  have c18 := ii_kR_planMany hσ_3 other_0
  have c19 := FR_at flσ_3 (c := kR_planMany) (by decide) other_0
  have c20 := ii_kR_planMany hσ_1 other_0
  have c21 := FR_at flσ_1 (c := kR_planMany) (by decide) other_0
  refine wp_bd (s_R_gatherShape (σ := σ_3) (slot_0 := other_0) (shape_0 := 1) hσ_3 (by (try dsimp only) <;> first | assumption | omega | ((try simp (disch := omega) only [w32_of, w64_of, w8_of]) <;> first | assumption | omega | (split <;> omega) | (refine And.intro ?_ ?_ <;> split <;> omega)) | omega) (by (try dsimp only) <;> first | assumption | omega | ((try simp (disch := omega) only [w32_of, w64_of, w8_of]) <;> first | assumption | omega | (split <;> omega) | (refine And.intro ?_ ?_ <;> split <;> omega)) | omega) (SHs_f frσ_3 (by decide) w0) (by first | assumption | (intro q9 a9 b9; rw [sg_val eσ_1] at b9; omega)) (by (try dsimp only) <;> first | assumption | omega | ((try simp (disch := omega) only [w32_of, w64_of, w8_of]) <;> first | assumption | omega | (split <;> omega) | (refine And.intro ?_ ?_ <;> split <;> omega)) | omega) (by (try dsimp only) <;> first | assumption | omega | ((try simp (disch := omega) only [w32_of, w64_of, w8_of]) <;> first | assumption | omega | (split <;> omega) | (refine And.intro ?_ ?_ <;> split <;> omega)) | omega)) ?_
  rintro σ_5 - ⟨hσ_5, flσ_5, g22, g23⟩
  have frσ_5 : FR [kR_baseX, kR_baseY, kR_cutsMany, kR_ex, kR_ey, kR_hasInside, kR_isInner, kR_limbs, kR_lineEnd, kR_lineEnds, kR_matrix, kR_meetX, kR_meetY, kR_numberOf, kR_offX, kR_offY, kR_partDen, kR_partNum, kR_partsOf, kR_ringOf, kR_segments, kR_segmentsOf, kR_shapeOf, kR_sign, kR_slotOf, kR_sx, kR_sy, kR_typeOf, kR_w, kR_wayX, kR_wayY] σ σ_5 := FR_tr frσ_3 flσ_5 (by decide) (by decide)
  try simp (disch := omega) only [w32_of, w64_of, w8_of] at g22
  have c24 := ii_kR_segments hσ_5 0
  try simp (disch := omega) only [w32_of, w64_of, w8_of] at g23
  refine wp_bd (v_isTooMuch (σ := σ_5) hσ_5) ?_
  rintro ⟨x_8, σ_7⟩ - y26
  try dsimp only at y26 ⊢
  obtain ⟨hσ_7, flσ_7, g25⟩ := y26
  have frσ_7 : FR [kR_baseX, kR_baseY, kR_cutsMany, kR_ex, kR_ey, kR_hasInside, kR_isInner, kR_limbs, kR_lineEnd, kR_lineEnds, kR_matrix, kR_meetX, kR_meetY, kR_numberOf, kR_offX, kR_offY, kR_partDen, kR_partNum, kR_partsOf, kR_ringOf, kR_segments, kR_segmentsOf, kR_shapeOf, kR_sign, kR_slotOf, kR_sx, kR_sy, kR_typeOf, kR_w, kR_wayX, kR_wayY] σ σ_7 := FR_tr frσ_5 flσ_7 (by decide) (by decide)
  try simp (disch := omega) only [w32_of, w64_of, w8_of] at g25
  refine wp_if (fun c27 => ?_) (fun c27 => ?_)
  · try simp (disch := omega) only [w32_of, w64_of, w8_of, decide_eq_true_eq, decide_eq_false_iff_not, Bool.not_eq_true] at c27
    exact wp_some ⟨hσ_7, frσ_7⟩
  · have k29 := g25 (Bool.eq_false_iff.mpr c27)
    try simp (disch := omega) only [w32_of, w64_of, w8_of] at k29
    try simp (disch := omega) only [w32_of, w64_of, w8_of, decide_eq_true_eq, decide_eq_false_iff_not, Bool.not_eq_true] at c27
    refine wp_bd (P := fun rr_ => II rr_.2 ∧ FR [kR_baseX, kR_baseY, kR_cutsMany, kR_ex, kR_ey, kR_hasInside, kR_isInner, kR_limbs, kR_lineEnd, kR_lineEnds, kR_matrix, kR_meetX, kR_meetY, kR_numberOf, kR_offX, kR_offY, kR_partDen, kR_partNum, kR_partsOf, kR_ringOf, kR_segments, kR_segmentsOf, kR_shapeOf, kR_sign, kR_slotOf, kR_sx, kR_sy, kR_typeOf, kR_w, kR_wayX, kR_wayY] σ rr_.2 ∧ (ND rr_.2) ∧ (rr_.2 kR_segments 0 ≤ 256)) ?_ ?_
    · have c30 := ii_kR_segments hσ_7 0
      have c31 := FR_at flσ_7 (c := kR_segments) (by decide) 0
      refine wp_whl (fun ss_ => II ss_.2 ∧ FR [kR_baseX, kR_baseY, kR_cutsMany, kR_ex, kR_ey, kR_hasInside, kR_isInner, kR_limbs, kR_lineEnd, kR_lineEnds, kR_matrix, kR_meetX, kR_meetY, kR_numberOf, kR_offX, kR_offY, kR_partDen, kR_partNum, kR_partsOf, kR_ringOf, kR_segments, kR_segmentsOf, kR_shapeOf, kR_sign, kR_slotOf, kR_sx, kR_sy, kR_typeOf, kR_w, kR_wayX, kR_wayY] σ ss_.2 ∧ (0 ≤ ss_.1 ∧ ss_.1 ≤ 9) ∧ (ND ss_.2) ∧ (ss_.2 kR_segments 0 ≤ 256)) (fun ss_ => (10 - ss_.1).toNat) ⟨hσ_7, frσ_7, (by (try dsimp only) <;> first | assumption | omega | ((try simp (disch := omega) only [w32_of, w64_of, w8_of]) <;> first | assumption | omega | (split <;> omega) | (refine And.intro ?_ ?_ <;> split <;> omega)) | omega), (ND_f flσ_7 (by decide) g22), (by (try dsimp only) <;> first | assumption | omega | ((try simp (disch := omega) only [w32_of, w64_of, w8_of]) <;> first | assumption | omega | (split <;> omega) | (refine And.intro ?_ ?_ <;> split <;> omega)) | omega)⟩ ?_
      rintro ⟨k_10, σ_11⟩ y35
      try dsimp only at y35 ⊢
      obtain ⟨hσ_11, frσ_11, g32, g33, g34⟩ := y35
      have c37 := w32_rng k_10
      refine wp_if (fun c36 => ?_) (fun c36 => ?_)
      · try simp (disch := omega) only [w32_of, w64_of, w8_of, decide_eq_true_eq, decide_eq_false_iff_not, Bool.not_eq_true] at c36
        refine wp_waI hσ_11 b_kR_matrix (by (try dsimp only) <;> first | assumption | omega | ((try simp (disch := omega) only [w32_of, w64_of, w8_of]) <;> first | assumption | omega | (split <;> omega) | (refine And.intro ?_ ?_ <;> split <;> omega)) | omega) (by (try dsimp only) <;> first | assumption | omega | ((try simp (disch := omega) only [w32_of, w64_of, w8_of]) <;> first | assumption | omega | (split <;> omega) | (refine And.intro ?_ ?_ <;> split <;> omega)) | omega) (by (try dsimp only) <;> first | assumption | omega | ((try simp (disch := omega) only [w32_of, w64_of, w8_of]) <;> first | assumption | omega | (split <;> omega) | (refine And.intro ?_ ?_ <;> split <;> omega)) | omega) (fun σ_20 hσ_20 eσ_20 => ?_)
        try simp (disch := omega) only [w32_of, w64_of, w8_of] at eσ_20
        have flσ_20 := FR_sg eσ_20
        have frσ_20 : FR [kR_baseX, kR_baseY, kR_cutsMany, kR_ex, kR_ey, kR_hasInside, kR_isInner, kR_limbs, kR_lineEnd, kR_lineEnds, kR_matrix, kR_meetX, kR_meetY, kR_numberOf, kR_offX, kR_offY, kR_partDen, kR_partNum, kR_partsOf, kR_ringOf, kR_segments, kR_segmentsOf, kR_shapeOf, kR_sign, kR_slotOf, kR_sx, kR_sy, kR_typeOf, kR_w, kR_wayX, kR_wayY] σ σ_20 := FR_tr frσ_11 flσ_20 (by decide) (by decide)
        have c38 := ii_kR_segments hσ_20 0
        have c39 := FR_at flσ_20 (c := kR_segments) (by decide) 0
        have c40 := ii_kR_segments hσ_11 0
        exact wp_some (x_inl ⟨⟨hσ_20, frσ_20, (by (try dsimp only) <;> first | assumption | omega | ((try simp (disch := omega) only [w32_of, w64_of, w8_of]) <;> first | assumption | omega | (split <;> omega) | (refine And.intro ?_ ?_ <;> split <;> omega)) | omega), (ND_f flσ_20 (by decide) g33), (by (try dsimp only) <;> first | assumption | omega | ((try simp (disch := omega) only [w32_of, w64_of, w8_of]) <;> first | assumption | omega | (split <;> omega) | (refine And.intro ?_ ?_ <;> split <;> omega)) | omega)⟩, (by (try dsimp only) <;> first | assumption | omega | ((try simp (disch := omega) only [w32_of, w64_of, w8_of]) <;> first | assumption | omega | (split <;> omega) | (refine And.intro ?_ ?_ <;> split <;> omega)) | omega)⟩)
      · try simp (disch := omega) only [w32_of, w64_of, w8_of, decide_eq_true_eq, decide_eq_false_iff_not, Bool.not_eq_true] at c36
        have c41 := ii_kR_segments hσ_11 0
        exact wp_some (x_inr ⟨hσ_11, frσ_11, g33, (by (try dsimp only) <;> first | assumption | omega | ((try simp (disch := omega) only [w32_of, w64_of, w8_of]) <;> first | assumption | omega | (split <;> omega) | (refine And.intro ?_ ?_ <;> split <;> omega)) | omega)⟩)
    rintro ⟨k_24, σ_25⟩ _ y44
    try dsimp only at y44 ⊢
    obtain ⟨hσ_25, frσ_25, g42, g43⟩ := y44
    refine wp_waI hσ_25 b_kR_matrix (by (try dsimp only) <;> first | assumption | omega | ((try simp (disch := omega) only [w32_of, w64_of, w8_of]) <;> first | assumption | omega | (split <;> omega) | (refine And.intro ?_ ?_ <;> split <;> omega)) | omega) (by (try dsimp only) <;> first | assumption | omega | ((try simp (disch := omega) only [w32_of, w64_of, w8_of]) <;> first | assumption | omega | (split <;> omega) | (refine And.intro ?_ ?_ <;> split <;> omega)) | omega) (by (try dsimp only) <;> first | assumption | omega | ((try simp (disch := omega) only [w32_of, w64_of, w8_of]) <;> first | assumption | omega | (split <;> omega) | (refine And.intro ?_ ?_ <;> split <;> omega)) | omega) (fun σ_26 hσ_26 eσ_26 => ?_)
    try simp (disch := omega) only [w32_of, w64_of, w8_of] at eσ_26
    have flσ_26 := FR_sg eσ_26
    have frσ_26 : FR [kR_baseX, kR_baseY, kR_cutsMany, kR_ex, kR_ey, kR_hasInside, kR_isInner, kR_limbs, kR_lineEnd, kR_lineEnds, kR_matrix, kR_meetX, kR_meetY, kR_numberOf, kR_offX, kR_offY, kR_partDen, kR_partNum, kR_partsOf, kR_ringOf, kR_segments, kR_segmentsOf, kR_shapeOf, kR_sign, kR_slotOf, kR_sx, kR_sy, kR_typeOf, kR_w, kR_wayX, kR_wayY] σ σ_26 := FR_tr frσ_25 flσ_26 (by decide) (by decide)
    refine wp_bd (P := fun rr_ => II rr_.2 ∧ FR [kR_baseX, kR_baseY, kR_cutsMany, kR_ex, kR_ey, kR_hasInside, kR_isInner, kR_limbs, kR_lineEnd, kR_lineEnds, kR_matrix, kR_meetX, kR_meetY, kR_numberOf, kR_offX, kR_offY, kR_partDen, kR_partNum, kR_partsOf, kR_ringOf, kR_segments, kR_segmentsOf, kR_shapeOf, kR_sign, kR_slotOf, kR_sx, kR_sy, kR_typeOf, kR_w, kR_wayX, kR_wayY] σ rr_.2 ∧ (True)) ?_ ?_
    · have c45 := ii_kR_segments hσ_26 0
      have c46 := FR_at flσ_26 (c := kR_segments) (by decide) 0
      have c47 := ii_kR_segments hσ_25 0
      refine wp_whl (fun ss_ => II ss_.2 ∧ FR [kR_baseX, kR_baseY, kR_cutsMany, kR_ex, kR_ey, kR_hasInside, kR_isInner, kR_limbs, kR_lineEnd, kR_lineEnds, kR_matrix, kR_meetX, kR_meetY, kR_numberOf, kR_offX, kR_offY, kR_partDen, kR_partNum, kR_partsOf, kR_ringOf, kR_segments, kR_segmentsOf, kR_shapeOf, kR_sign, kR_slotOf, kR_sx, kR_sy, kR_typeOf, kR_w, kR_wayX, kR_wayY] σ ss_.2 ∧ (0 ≤ ss_.1 ∧ ss_.1 ≤ 4200) ∧ (ND ss_.2) ∧ (ss_.2 kR_segments 0 ≤ 256)) (fun ss_ => (4300 - ss_.1).toNat) ⟨hσ_26, frσ_26, (by (try dsimp only) <;> first | assumption | omega | ((try simp (disch := omega) only [w32_of, w64_of, w8_of]) <;> first | assumption | omega | (split <;> omega) | (refine And.intro ?_ ?_ <;> split <;> omega)) | omega), (ND_f flσ_26 (by decide) g42), (by (try dsimp only) <;> first | assumption | omega | ((try simp (disch := omega) only [w32_of, w64_of, w8_of]) <;> first | assumption | omega | (split <;> omega) | (refine And.intro ?_ ?_ <;> split <;> omega)) | omega)⟩ ?_
      rintro ⟨i_28, σ_29⟩ y51
      try dsimp only at y51 ⊢
      obtain ⟨hσ_29, frσ_29, g48, g49, g50⟩ := y51
      have c53 := w32_rng i_28
      have c54 := ii_kR_segments hσ_29 0
      have c55 := w32_rng (σ_29 kR_segments 0)
      refine wp_if (fun c52 => ?_) (fun c52 => ?_)
      · try simp (disch := omega) only [w32_of, w64_of, w8_of, decide_eq_true_eq, decide_eq_false_iff_not, Bool.not_eq_true] at c52
        refine wp_bd (s_R_relateAlong (σ := σ_29) (i_0 := i_28) hσ_29 (by (try dsimp only) <;> first | assumption | omega | ((try simp (disch := omega) only [w32_of, w64_of, w8_of]) <;> first | assumption | omega | (split <;> omega) | (refine And.intro ?_ ?_ <;> split <;> omega)) | omega) g49 (by (try dsimp only) <;> first | assumption | omega | ((try simp (disch := omega) only [w32_of, w64_of, w8_of]) <;> first | assumption | omega | (split <;> omega) | (refine And.intro ?_ ?_ <;> split <;> omega)) | omega) (by (try dsimp only) <;> first | assumption | omega | ((try simp (disch := omega) only [w32_of, w64_of, w8_of]) <;> first | assumption | omega | (split <;> omega) | (refine And.intro ?_ ?_ <;> split <;> omega)) | omega)) ?_
        rintro σ_39 - ⟨hσ_39, flσ_39⟩
        have frσ_39 : FR [kR_baseX, kR_baseY, kR_cutsMany, kR_ex, kR_ey, kR_hasInside, kR_isInner, kR_limbs, kR_lineEnd, kR_lineEnds, kR_matrix, kR_meetX, kR_meetY, kR_numberOf, kR_offX, kR_offY, kR_partDen, kR_partNum, kR_partsOf, kR_ringOf, kR_segments, kR_segmentsOf, kR_shapeOf, kR_sign, kR_slotOf, kR_sx, kR_sy, kR_typeOf, kR_w, kR_wayX, kR_wayY] σ σ_39 := FR_tr frσ_29 flσ_39 (by decide) (by decide)
        have c56 := ii_kR_segments hσ_39 0
        have c57 := FR_at flσ_39 (c := kR_segments) (by decide) 0
        exact wp_some (x_inl ⟨⟨hσ_39, frσ_39, (by (try dsimp only) <;> first | assumption | omega | ((try simp (disch := omega) only [w32_of, w64_of, w8_of]) <;> first | assumption | omega | (split <;> omega) | (refine And.intro ?_ ?_ <;> split <;> omega)) | omega), (ND_f flσ_39 (by decide) g49), (by (try dsimp only) <;> first | assumption | omega | ((try simp (disch := omega) only [w32_of, w64_of, w8_of]) <;> first | assumption | omega | (split <;> omega) | (refine And.intro ?_ ?_ <;> split <;> omega)) | omega)⟩, (by (try dsimp only) <;> first | assumption | omega | ((try simp (disch := omega) only [w32_of, w64_of, w8_of]) <;> first | assumption | omega | (split <;> omega) | (refine And.intro ?_ ?_ <;> split <;> omega)) | omega)⟩)
      · try simp (disch := omega) only [w32_of, w64_of, w8_of, decide_eq_true_eq, decide_eq_false_iff_not, Bool.not_eq_true] at c52
        exact wp_some (x_inr ⟨hσ_29, frσ_29, (by (try dsimp only) <;> first | assumption | omega | ((try simp (disch := omega) only [w32_of, w64_of, w8_of]) <;> first | assumption | omega | (split <;> omega) | (refine And.intro ?_ ?_ <;> split <;> omega)) | omega)⟩)
    rintro ⟨i_42, σ_43⟩ _ y59
    try dsimp only at y59 ⊢
    obtain ⟨hσ_43, frσ_43, g58⟩ := y59
    refine wp_bd (P := fun rr_ => II rr_.2 ∧ FR [kR_baseX, kR_baseY, kR_cutsMany, kR_ex, kR_ey, kR_hasInside, kR_isInner, kR_limbs, kR_lineEnd, kR_lineEnds, kR_matrix, kR_meetX, kR_meetY, kR_numberOf, kR_offX, kR_offY, kR_partDen, kR_partNum, kR_partsOf, kR_ringOf, kR_segments, kR_segmentsOf, kR_shapeOf, kR_sign, kR_slotOf, kR_sx, kR_sy, kR_typeOf, kR_w, kR_wayX, kR_wayY] σ rr_.2 ∧ (True)) ?_ ?_
    · refine wp_whl (fun ss_ => II ss_.2 ∧ FR [kR_baseX, kR_baseY, kR_cutsMany, kR_ex, kR_ey, kR_hasInside, kR_isInner, kR_limbs, kR_lineEnd, kR_lineEnds, kR_matrix, kR_meetX, kR_meetY, kR_numberOf, kR_offX, kR_offY, kR_partDen, kR_partNum, kR_partsOf, kR_ringOf, kR_segments, kR_segmentsOf, kR_shapeOf, kR_sign, kR_slotOf, kR_sx, kR_sy, kR_typeOf, kR_w, kR_wayX, kR_wayY] σ ss_.2 ∧ (0 ≤ ss_.1 ∧ ss_.1 ≤ 2)) (fun ss_ => (3 - ss_.1).toNat) ⟨hσ_43, frσ_43, (by (try dsimp only) <;> first | assumption | omega | ((try simp (disch := omega) only [w32_of, w64_of, w8_of]) <;> first | assumption | omega | (split <;> omega) | (refine And.intro ?_ ?_ <;> split <;> omega)) | omega)⟩ ?_
      rintro ⟨s_44, σ_45⟩ y61
      try dsimp only at y61 ⊢
      obtain ⟨hσ_45, frσ_45, g60⟩ := y61
      have c63 := w32_rng s_44
      refine wp_if (fun c62 => ?_) (fun c62 => ?_)
      · try simp (disch := omega) only [w32_of, w64_of, w8_of, decide_eq_true_eq, decide_eq_false_iff_not, Bool.not_eq_true] at c62
        refine wp_rdI (by (try dsimp only) <;> first | assumption | omega | ((try simp (disch := omega) only [w32_of, w64_of, w8_of]) <;> first | assumption | omega | (split <;> omega) | (refine And.intro ?_ ?_ <;> split <;> omega)) | omega) (by (try dsimp only) <;> first | assumption | omega | ((try simp (disch := omega) only [w32_of, w64_of, w8_of]) <;> first | assumption | omega | (split <;> omega) | (refine And.intro ?_ ?_ <;> split <;> omega)) | omega) (fun x_54 e_x_54 => ?_)
        have b_x_54 : 0 ≤ x_54 ∧ x_54 ≤ 31 := by rw [e_x_54]; exact ii_kR_slotOf hσ_45 _
        try simp (disch := omega) only [w32_of, w64_of, w8_of] at e_x_54
        have c64 := ii_kR_slotOf hσ_45 s_44
        refine wp_bd (P := fun rr_ => II rr_.2 ∧ FR [kR_baseX, kR_baseY, kR_cutsMany, kR_ex, kR_ey, kR_hasInside, kR_isInner, kR_limbs, kR_lineEnd, kR_lineEnds, kR_matrix, kR_meetX, kR_meetY, kR_numberOf, kR_offX, kR_offY, kR_partDen, kR_partNum, kR_partsOf, kR_ringOf, kR_segments, kR_segmentsOf, kR_shapeOf, kR_sign, kR_slotOf, kR_sx, kR_sy, kR_typeOf, kR_w, kR_wayX, kR_wayY] σ rr_.2 ∧ (True)) ?_ ?_
        · refine wp_whl (fun ss_ => II ss_.2 ∧ FR [kR_baseX, kR_baseY, kR_cutsMany, kR_ex, kR_ey, kR_hasInside, kR_isInner, kR_limbs, kR_lineEnd, kR_lineEnds, kR_matrix, kR_meetX, kR_meetY, kR_numberOf, kR_offX, kR_offY, kR_partDen, kR_partNum, kR_partsOf, kR_ringOf, kR_segments, kR_segmentsOf, kR_shapeOf, kR_sign, kR_slotOf, kR_sx, kR_sy, kR_typeOf, kR_w, kR_wayX, kR_wayY] σ ss_.2 ∧ (2048 * x_54 ≤ ss_.1 ∧ ss_.1 ≤ 2048 * x_54 + 2048)) (fun ss_ => (2048 * x_54 + 2050 - ss_.1).toNat) ⟨hσ_45, frσ_45, (by (try dsimp only) <;> first | assumption | omega | ((try simp (disch := omega) only [w32_of, w64_of, w8_of]) <;> first | assumption | omega | (split <;> omega) | (refine And.intro ?_ ?_ <;> split <;> omega)) | omega)⟩ ?_
          rintro ⟨k_56, σ_57⟩ y66
          try dsimp only at y66 ⊢
          obtain ⟨hσ_57, frσ_57, g65⟩ := y66
          refine wp_rdI (by (try dsimp only) <;> first | assumption | omega | ((try simp (disch := omega) only [w32_of, w64_of, w8_of]) <;> first | assumption | omega | (split <;> omega) | (refine And.intro ?_ ?_ <;> split <;> omega)) | omega) (by (try dsimp only) <;> first | assumption | omega | ((try simp (disch := omega) only [w32_of, w64_of, w8_of]) <;> first | assumption | omega | (split <;> omega) | (refine And.intro ?_ ?_ <;> split <;> omega)) | omega) (fun x_77 e_x_77 => ?_)
          have b_x_77 : (-1) ≤ x_77 ∧ x_77 ≤ 2 := by rw [e_x_77]; exact ii_kR_typeOf hσ_57 _
          try simp (disch := omega) only [w32_of, w64_of, w8_of] at e_x_77
          have c67 := ii_kR_typeOf hσ_57 s_44
          have c69 := w32_rng x_77
          refine wp_if (fun c68 => ?_) (fun c68 => ?_)
          · try simp (disch := omega) only [w32_of, w64_of, w8_of, decide_eq_true_eq, decide_eq_false_iff_not, Bool.not_eq_true] at c68
            refine wp_rdI (by (try dsimp only) <;> first | assumption | omega | ((try simp (disch := omega) only [w32_of, w64_of, w8_of]) <;> first | assumption | omega | (split <;> omega) | (refine And.intro ?_ ?_ <;> split <;> omega)) | omega) (by (try dsimp only) <;> first | assumption | omega | ((try simp (disch := omega) only [w32_of, w64_of, w8_of]) <;> first | assumption | omega | (split <;> omega) | (refine And.intro ?_ ?_ <;> split <;> omega)) | omega) (fun x_80 e_x_80 => ?_)
            have b_x_80 : 0 ≤ x_80 ∧ x_80 ≤ 31 := by rw [e_x_80]; exact ii_kR_slotOf hσ_57 _
            try simp (disch := omega) only [w32_of, w64_of, w8_of] at e_x_80
            have c70 := ii_kR_slotOf hσ_57 s_44
            have c71 := w32_rng x_80
            refine wp_rdI (by (try dsimp only) <;> first | assumption | omega | ((try simp (disch := omega) only [w32_of, w64_of, w8_of]) <;> first | assumption | omega | (split <;> omega) | (refine And.intro ?_ ?_ <;> split <;> omega)) | omega) (by (try dsimp only) <;> first | assumption | omega | ((try simp (disch := omega) only [w32_of, w64_of, w8_of]) <;> first | assumption | omega | (split <;> omega) | (refine And.intro ?_ ?_ <;> split <;> omega)) | omega) (fun x_82 e_x_82 => ?_)
            have b_x_82 : 0 ≤ x_82 ∧ x_82 ≤ 2048 := by rw [e_x_82]; exact ii_kR_pointMany hσ_57 _
            rw [FR_at frσ_57 (c := kR_pointMany) (by decide)] at e_x_82
            try simp (disch := omega) only [w32_of, w64_of, w8_of] at e_x_82
            have c72 := ii_kR_pointMany hσ_57 x_80
            have c73 := FR_at frσ_57 (c := kR_pointMany) (by decide) x_80
            have c74 := ii_kR_pointMany hσ x_80
            have c76 := w32_rng k_56
            have c77 := w32_rng ((2048 * x_54) + x_82)
            refine wp_if (fun c75 => ?_) (fun c75 => ?_)
            · try simp (disch := omega) only [w32_of, w64_of, w8_of, decide_eq_true_eq, decide_eq_false_iff_not, Bool.not_eq_true] at c75
              refine wp_rdI (by (try dsimp only) <;> first | assumption | omega | ((try simp (disch := omega) only [w32_of, w64_of, w8_of]) <;> first | assumption | omega | (split <;> omega) | (refine And.intro ?_ ?_ <;> split <;> omega)) | omega) (by (try dsimp only) <;> first | assumption | omega | ((try simp (disch := omega) only [w32_of, w64_of, w8_of]) <;> first | assumption | omega | (split <;> omega) | (refine And.intro ?_ ?_ <;> split <;> omega)) | omega) (fun x_85 e_x_85 => ?_)
              have b_x_85 : (-1000000000) ≤ x_85 ∧ x_85 ≤ 1000000000 := by rw [e_x_85]; exact ii_kR_xs hσ_57 _
              rw [FR_at frσ_57 (c := kR_xs) (by decide)] at e_x_85
              try simp (disch := omega) only [w32_of, w64_of, w8_of] at e_x_85
              have c78 := ii_kR_xs hσ_57 k_56
              have c79 := FR_at frσ_57 (c := kR_xs) (by decide) k_56
              have c80 := ii_kR_xs hσ k_56
              refine wp_rdI (by (try dsimp only) <;> first | assumption | omega | ((try simp (disch := omega) only [w32_of, w64_of, w8_of]) <;> first | assumption | omega | (split <;> omega) | (refine And.intro ?_ ?_ <;> split <;> omega)) | omega) (by (try dsimp only) <;> first | assumption | omega | ((try simp (disch := omega) only [w32_of, w64_of, w8_of]) <;> first | assumption | omega | (split <;> omega) | (refine And.intro ?_ ?_ <;> split <;> omega)) | omega) (fun x_87 e_x_87 => ?_)
              have b_x_87 : (-1000000000) ≤ x_87 ∧ x_87 ≤ 1000000000 := by rw [e_x_87]; exact ii_kR_ys hσ_57 _
              rw [FR_at frσ_57 (c := kR_ys) (by decide)] at e_x_87
              try simp (disch := omega) only [w32_of, w64_of, w8_of] at e_x_87
              have c81 := ii_kR_ys hσ_57 k_56
              have c82 := FR_at frσ_57 (c := kR_ys) (by decide) k_56
              have c83 := ii_kR_ys hσ k_56
              have c84 := w32_rng x_85
              have c85 := w32_rng x_87
              refine wp_bd (s_R_wholePlace (σ := σ_57) (x_0 := (w32 x_85)) (y_0 := (w32 x_87)) hσ_57 (by (try dsimp only) <;> first | assumption | omega | ((try simp (disch := omega) only [w32_of, w64_of, w8_of]) <;> first | assumption | omega | (split <;> omega) | (refine And.intro ?_ ?_ <;> split <;> omega)) | omega) (by (try dsimp only) <;> first | assumption | omega | ((try simp (disch := omega) only [w32_of, w64_of, w8_of]) <;> first | assumption | omega | (split <;> omega) | (refine And.intro ?_ ?_ <;> split <;> omega)) | omega)) ?_
              rintro σ_90 - ⟨hσ_90, flσ_90, g86⟩
              have frσ_90 : FR [kR_baseX, kR_baseY, kR_cutsMany, kR_ex, kR_ey, kR_hasInside, kR_isInner, kR_limbs, kR_lineEnd, kR_lineEnds, kR_matrix, kR_meetX, kR_meetY, kR_numberOf, kR_offX, kR_offY, kR_partDen, kR_partNum, kR_partsOf, kR_ringOf, kR_segments, kR_segmentsOf, kR_shapeOf, kR_sign, kR_slotOf, kR_sx, kR_sy, kR_typeOf, kR_w, kR_wayX, kR_wayY] σ σ_90 := FR_tr frσ_57 flσ_90 (by decide) (by decide)
              try simp (disch := omega) only [w32_of, w64_of, w8_of] at g86
              refine wp_bd (s_R_where (σ := σ_90) (shape_0 := 0) (onEdge_0 := false) hσ_90 (by (try dsimp only) <;> first | assumption | omega | ((try simp (disch := omega) only [w32_of, w64_of, w8_of]) <;> first | assumption | omega | (split <;> omega) | (refine And.intro ?_ ?_ <;> split <;> omega)) | omega) g86) ?_
              rintro ⟨x_93, σ_92⟩ - y89
              try dsimp only at y89 ⊢
              obtain ⟨hσ_92, flσ_92, g87, g88⟩ := y89
              have frσ_92 : FR [kR_baseX, kR_baseY, kR_cutsMany, kR_ex, kR_ey, kR_hasInside, kR_isInner, kR_limbs, kR_lineEnd, kR_lineEnds, kR_matrix, kR_meetX, kR_meetY, kR_numberOf, kR_offX, kR_offY, kR_partDen, kR_partNum, kR_partsOf, kR_ringOf, kR_segments, kR_segmentsOf, kR_shapeOf, kR_sign, kR_slotOf, kR_sx, kR_sy, kR_typeOf, kR_w, kR_wayX, kR_wayY] σ σ_92 := FR_tr frσ_90 flσ_92 (by decide) (by decide)
              try simp (disch := omega) only [w32_of, w64_of, w8_of] at g87
              try simp (disch := omega) only [w32_of, w64_of, w8_of] at g88
              refine wp_bd (s_R_where (σ := σ_92) (shape_0 := 1) (onEdge_0 := false) hσ_92 (by (try dsimp only) <;> first | assumption | omega | ((try simp (disch := omega) only [w32_of, w64_of, w8_of]) <;> first | assumption | omega | (split <;> omega) | (refine And.intro ?_ ?_ <;> split <;> omega)) | omega) g87) ?_
              rintro ⟨x_96, σ_95⟩ - y92
              try dsimp only at y92 ⊢
              obtain ⟨hσ_95, flσ_95, g90, g91⟩ := y92
              have frσ_95 : FR [kR_baseX, kR_baseY, kR_cutsMany, kR_ex, kR_ey, kR_hasInside, kR_isInner, kR_limbs, kR_lineEnd, kR_lineEnds, kR_matrix, kR_meetX, kR_meetY, kR_numberOf, kR_offX, kR_offY, kR_partDen, kR_partNum, kR_partsOf, kR_ringOf, kR_segments, kR_segmentsOf, kR_shapeOf, kR_sign, kR_slotOf, kR_sx, kR_sy, kR_typeOf, kR_w, kR_wayX, kR_wayY] σ σ_95 := FR_tr frσ_92 flσ_95 (by decide) (by decide)
              try simp (disch := omega) only [w32_of, w64_of, w8_of] at g90
              try simp (disch := omega) only [w32_of, w64_of, w8_of] at g91
              refine wp_bd (s_R_mark (σ := σ_95) (a_0 := x_93) (b_0 := x_96) (dimension_0 := 0) hσ_95 (by (try dsimp only) <;> first | assumption | omega | ((try simp (disch := omega) only [w32_of, w64_of, w8_of]) <;> first | assumption | omega | (split <;> omega) | (refine And.intro ?_ ?_ <;> split <;> omega)) | omega) (by (try dsimp only) <;> first | assumption | omega | ((try simp (disch := omega) only [w32_of, w64_of, w8_of]) <;> first | assumption | omega | (split <;> omega) | (refine And.intro ?_ ?_ <;> split <;> omega)) | omega) (by (try dsimp only) <;> first | assumption | omega | ((try simp (disch := omega) only [w32_of, w64_of, w8_of]) <;> first | assumption | omega | (split <;> omega) | (refine And.intro ?_ ?_ <;> split <;> omega)) | omega)) ?_
              rintro σ_98 - ⟨hσ_98, flσ_98⟩
              have frσ_98 : FR [kR_baseX, kR_baseY, kR_cutsMany, kR_ex, kR_ey, kR_hasInside, kR_isInner, kR_limbs, kR_lineEnd, kR_lineEnds, kR_matrix, kR_meetX, kR_meetY, kR_numberOf, kR_offX, kR_offY, kR_partDen, kR_partNum, kR_partsOf, kR_ringOf, kR_segments, kR_segmentsOf, kR_shapeOf, kR_sign, kR_slotOf, kR_sx, kR_sy, kR_typeOf, kR_w, kR_wayX, kR_wayY] σ σ_98 := FR_tr frσ_95 flσ_98 (by decide) (by decide)
              exact wp_some (x_inl ⟨⟨hσ_98, frσ_98, (by (try dsimp only) <;> first | assumption | omega | ((try simp (disch := omega) only [w32_of, w64_of, w8_of]) <;> first | assumption | omega | (split <;> omega) | (refine And.intro ?_ ?_ <;> split <;> omega)) | omega)⟩, (by (try dsimp only) <;> first | assumption | omega | ((try simp (disch := omega) only [w32_of, w64_of, w8_of]) <;> first | assumption | omega | (split <;> omega) | (refine And.intro ?_ ?_ <;> split <;> omega)) | omega)⟩)
            · try simp (disch := omega) only [w32_of, w64_of, w8_of, decide_eq_true_eq, decide_eq_false_iff_not, Bool.not_eq_true] at c75
              exact wp_some (x_inr ⟨hσ_57, frσ_57, (by (try dsimp only) <;> first | assumption | omega | ((try simp (disch := omega) only [w32_of, w64_of, w8_of]) <;> first | assumption | omega | (split <;> omega) | (refine And.intro ?_ ?_ <;> split <;> omega)) | omega)⟩)
          · try simp (disch := omega) only [w32_of, w64_of, w8_of, decide_eq_true_eq, decide_eq_false_iff_not, Bool.not_eq_true] at c68
            exact wp_some (x_inr ⟨hσ_57, frσ_57, (by (try dsimp only) <;> first | assumption | omega | ((try simp (disch := omega) only [w32_of, w64_of, w8_of]) <;> first | assumption | omega | (split <;> omega) | (refine And.intro ?_ ?_ <;> split <;> omega)) | omega)⟩)
        rintro ⟨k_102, σ_103⟩ _ y94
        try dsimp only at y94 ⊢
        obtain ⟨hσ_103, frσ_103, g93⟩ := y94
        exact wp_some (x_inl ⟨⟨hσ_103, frσ_103, (by (try dsimp only) <;> first | assumption | omega | ((try simp (disch := omega) only [w32_of, w64_of, w8_of]) <;> first | assumption | omega | (split <;> omega) | (refine And.intro ?_ ?_ <;> split <;> omega)) | omega)⟩, (by (try dsimp only) <;> first | assumption | omega | ((try simp (disch := omega) only [w32_of, w64_of, w8_of]) <;> first | assumption | omega | (split <;> omega) | (refine And.intro ?_ ?_ <;> split <;> omega)) | omega)⟩)
      · try simp (disch := omega) only [w32_of, w64_of, w8_of, decide_eq_true_eq, decide_eq_false_iff_not, Bool.not_eq_true] at c62
        exact wp_some (x_inr ⟨hσ_45, frσ_45, (by (try dsimp only) <;> first | assumption | omega | ((try simp (disch := omega) only [w32_of, w64_of, w8_of]) <;> first | assumption | omega | (split <;> omega) | (refine And.intro ?_ ?_ <;> split <;> omega)) | omega)⟩)
    rintro ⟨s_107, σ_108⟩ _ y96
    try dsimp only at y96 ⊢
    obtain ⟨hσ_108, frσ_108, g95⟩ := y96
    exact wp_some ⟨hσ_108, frσ_108⟩
theorem s_R_relate {σ : SG} {slot_0 : Int} {other_0 : Int} (hσ : II σ) (qslot_0 : (-2147483648) ≤ slot_0 ∧ slot_0 ≤ 2147483647) (qother_0 : (-2147483648) ≤ other_0 ∧ other_0 ≤ 2147483647) (w0 : SHs σ) : wp_ (fR_relate σ slot_0 other_0) (fun zz_ => II zz_.2 ∧ FR [kR_baseX, kR_baseY, kR_cutsMany, kR_ex, kR_ey, kR_hasInside, kR_isInner, kR_limbs, kR_lineEnd, kR_lineEnds, kR_matrix, kR_meetX, kR_meetY, kR_numberOf, kR_offX, kR_offY, kR_partDen, kR_partNum, kR_partsOf, kR_ringOf, kR_segments, kR_segmentsOf, kR_shapeOf, kR_sign, kR_slotOf, kR_sx, kR_sy, kR_thrown, kR_typeOf, kR_w, kR_wayX, kR_wayY] σ zz_.2) := by
  unfold fR_relate
  refine wp_wfI hσ b_kR_thrown (by (try dsimp only) <;> first | assumption | omega | ((try simp (disch := omega) only [w32_of, w64_of, w8_of]) <;> first | assumption | omega | (split <;> omega) | (refine And.intro ?_ ?_ <;> split <;> omega)) | omega) (fun σ_1 hσ_1 eσ_1 => ?_)
  try simp (disch := omega) only [w32_of, w64_of, w8_of] at eσ_1
  have flσ_1 := FR_sg eσ_1
  have frσ_1 : FR [kR_baseX, kR_baseY, kR_cutsMany, kR_ex, kR_ey, kR_hasInside, kR_isInner, kR_limbs, kR_lineEnd, kR_lineEnds, kR_matrix, kR_meetX, kR_meetY, kR_numberOf, kR_offX, kR_offY, kR_partDen, kR_partNum, kR_partsOf, kR_ringOf, kR_segments, kR_segmentsOf, kR_shapeOf, kR_sign, kR_slotOf, kR_sx, kR_sy, kR_thrown, kR_typeOf, kR_w, kR_wayX, kR_wayY] σ σ_1 := FR_le flσ_1 (by decide)
  have c3 := ii_kR_thrown hσ_1 0
  have c4 := sg_val eσ_1
  refine wp_fails hσ_1 (by (try dsimp only) <;> first | assumption | omega | ((try simp (disch := omega) only [w32_of, w64_of, w8_of]) <;> first | assumption | omega | (split <;> omega) | (refine And.intro ?_ ?_ <;> split <;> omega)) | omega) (by decide) (fun σ_32 hσ_32 flσ_32 e1 e2 => ?_)
  try dsimp only
  have frσ_32 : FR [kR_baseX, kR_baseY, kR_cutsMany, kR_ex, kR_ey, kR_hasInside, kR_isInner, kR_limbs, kR_lineEnd, kR_lineEnds, kR_matrix, kR_meetX, kR_meetY, kR_numberOf, kR_offX, kR_offY, kR_partDen, kR_partNum, kR_partsOf, kR_ringOf, kR_segments, kR_segmentsOf, kR_shapeOf, kR_sign, kR_slotOf, kR_sx, kR_sy, kR_thrown, kR_typeOf, kR_w, kR_wayX, kR_wayY] σ σ_32 := FR_tr frσ_1 flσ_32 (by decide) (by decide)
  refine wp_if (fun c5 => ?_) (fun c5 => ?_)
  · have k6 := e1 c5
    try simp (disch := omega) only [w32_of, w64_of, w8_of, decide_eq_true_eq, decide_eq_false_iff_not, Bool.not_eq_true, fR_isSlot] at c5
    exact wp_some ⟨hσ_32, frσ_32⟩
  · have k7 := e2 c5
    try simp (disch := omega) only [w32_of, w64_of, w8_of, decide_eq_true_eq, decide_eq_false_iff_not, Bool.not_eq_true, fR_isSlot] at c5
    refine wp_bd (P := fun rr_ => ((rr_ = false) → (0 < σ_32 kR_planMany slot_0 ∧ 0 < σ_32 kR_planMany other_0))) ?_ ?_
    · refine wp_bd (v_has (σ := σ_32) (slot_0 := slot_0) hσ_32 (by (try dsimp only) <;> first | assumption | omega | ((try simp (disch := omega) only [w32_of, w64_of, w8_of]) <;> first | assumption | omega | (split <;> omega) | (refine And.intro ?_ ?_ <;> split <;> omega)) | omega)) ?_
      rintro x_36 - hh36
      have c8 := ii_kR_planMany hσ_32 slot_0
      have c9 := FR_at flσ_32 (c := kR_planMany) (by decide) slot_0
      have c10 := ii_kR_planMany hσ_1 slot_0
      have c11 := FR_at flσ_1 (c := kR_planMany) (by decide) slot_0
      have c12 := ii_kR_planMany hσ slot_0
      try simp (disch := omega) only [w32_of, w64_of, w8_of] at hh36
      refine wp_if (fun c13 => ?_) (fun c13 => ?_)
      · have k14 := hh36.mp c13
        try simp (disch := omega) only [w32_of, w64_of, w8_of] at k14
        try simp (disch := omega) only [w32_of, w64_of, w8_of, decide_eq_true_eq, decide_eq_false_iff_not, Bool.not_eq_true] at c13
        refine wp_bd (v_has (σ := σ_32) (slot_0 := other_0) hσ_32 (by (try dsimp only) <;> first | assumption | omega | ((try simp (disch := omega) only [w32_of, w64_of, w8_of]) <;> first | assumption | omega | (split <;> omega) | (refine And.intro ?_ ?_ <;> split <;> omega)) | omega)) ?_
        rintro x_39 - hh39
        have c15 := ii_kR_planMany hσ_32 other_0
        have c16 := FR_at flσ_32 (c := kR_planMany) (by decide) other_0
        have c17 := ii_kR_planMany hσ_1 other_0
        have c18 := FR_at flσ_1 (c := kR_planMany) (by decide) other_0
        have c19 := ii_kR_planMany hσ other_0
        try simp (disch := omega) only [w32_of, w64_of, w8_of] at hh39
        refine wp_if (fun c20 => ?_) (fun c20 => ?_)
        · have k21 := hh39.mp c20
          try simp (disch := omega) only [w32_of, w64_of, w8_of] at k21
          try simp (disch := omega) only [w32_of, w64_of, w8_of, decide_eq_true_eq, decide_eq_false_iff_not, Bool.not_eq_true] at c20
          exact wp_some (by (try dsimp only) <;> (intro q9; first | exact absurd q9 (by decide) | exact ⟨hh36.mp (by assumption), hh39.mp (by assumption)⟩))
        · have k22 := fun q => c20 (hh39.mpr q)
          try simp (disch := omega) only [w32_of, w64_of, w8_of] at k22
          try simp (disch := omega) only [w32_of, w64_of, w8_of, decide_eq_true_eq, decide_eq_false_iff_not, Bool.not_eq_true] at c20
          exact wp_some (fun q => (by cases q))
      · have k23 := fun q => c13 (hh36.mpr q)
        try simp (disch := omega) only [w32_of, w64_of, w8_of] at k23
        try simp (disch := omega) only [w32_of, w64_of, w8_of, decide_eq_true_eq, decide_eq_false_iff_not, Bool.not_eq_true] at c13
        have c24 := ii_kR_planMany hσ_32 other_0
        have c25 := FR_at flσ_32 (c := kR_planMany) (by decide) other_0
        have c26 := ii_kR_planMany hσ_1 other_0
        have c27 := FR_at flσ_1 (c := kR_planMany) (by decide) other_0
        have c28 := ii_kR_planMany hσ other_0
        exact wp_some (fun q => (by cases q))
    rintro x_44 _ hz44
    have c31 := ii_kR_thrown hσ_32 0
    refine wp_fails hσ_32 (by (try dsimp only) <;> first | assumption | omega | ((try simp (disch := omega) only [w32_of, w64_of, w8_of]) <;> first | assumption | omega | (split <;> omega) | (refine And.intro ?_ ?_ <;> split <;> omega)) | omega) (by decide) (fun σ_46 hσ_46 flσ_46 e29 e30 => ?_)
    try dsimp only
    have frσ_46 : FR [kR_baseX, kR_baseY, kR_cutsMany, kR_ex, kR_ey, kR_hasInside, kR_isInner, kR_limbs, kR_lineEnd, kR_lineEnds, kR_matrix, kR_meetX, kR_meetY, kR_numberOf, kR_offX, kR_offY, kR_partDen, kR_partNum, kR_partsOf, kR_ringOf, kR_segments, kR_segmentsOf, kR_shapeOf, kR_sign, kR_slotOf, kR_sx, kR_sy, kR_thrown, kR_typeOf, kR_w, kR_wayX, kR_wayY] σ σ_46 := FR_tr frσ_32 flσ_46 (by decide) (by decide)
    refine wp_if (fun c32 => ?_) (fun c32 => ?_)
    · have k34 := e29 c32
      try simp (disch := omega) only [w32_of, w64_of, w8_of, decide_eq_true_eq, decide_eq_false_iff_not, Bool.not_eq_true] at c32
      exact wp_some ⟨hσ_46, frσ_46⟩
    · have k35 := hz44 (Bool.eq_false_iff.mpr c32)
      try simp (disch := omega) only [w32_of, w64_of, w8_of] at k35
      have k36 := e30 c32
      try simp (disch := omega) only [w32_of, w64_of, w8_of, decide_eq_true_eq, decide_eq_false_iff_not, Bool.not_eq_true] at c32
      refine wp_bdk ?_
      refine wp_bd (s_R_canRelate (σ := σ_46) (slot_0 := slot_0) hσ_46 (by (try dsimp only) <;> first | assumption | omega | ((try simp (disch := omega) only [w32_of, w64_of, w8_of]) <;> first | assumption | omega | (split <;> omega) | (refine And.intro ?_ ?_ <;> split <;> omega)) | omega)) ?_
      rintro x_87 - -
      refine wp_if (fun c38 => ?_) (fun c38 => ?_)
      · try simp (disch := omega) only [w32_of, w64_of, w8_of, decide_eq_true_eq, decide_eq_false_iff_not, Bool.not_eq_true] at c38
        refine wp_bd (s_R_canRelate (σ := σ_46) (slot_0 := other_0) hσ_46 (by (try dsimp only) <;> first | assumption | omega | ((try simp (disch := omega) only [w32_of, w64_of, w8_of]) <;> first | assumption | omega | (split <;> omega) | (refine And.intro ?_ ?_ <;> split <;> omega)) | omega)) ?_
        rintro x_90 - -
        refine wp_if (fun c40 => ?_) (fun c40 => ?_)
        · try simp (disch := omega) only [w32_of, w64_of, w8_of, decide_eq_true_eq, decide_eq_false_iff_not, Bool.not_eq_true] at c40
          refine wp_somek ?_
          try dsimp only
          have c43 := ii_kR_thrown hσ_46 0
          refine wp_fails hσ_46 (by (try dsimp only) <;> first | assumption | omega | ((try simp (disch := omega) only [w32_of, w64_of, w8_of]) <;> first | assumption | omega | (split <;> omega) | (refine And.intro ?_ ?_ <;> split <;> omega)) | omega) (by decide) (fun σ_97 hσ_97 flσ_97 e41 e42 => ?_)
          try dsimp only
          have frσ_97 : FR [kR_baseX, kR_baseY, kR_cutsMany, kR_ex, kR_ey, kR_hasInside, kR_isInner, kR_limbs, kR_lineEnd, kR_lineEnds, kR_matrix, kR_meetX, kR_meetY, kR_numberOf, kR_offX, kR_offY, kR_partDen, kR_partNum, kR_partsOf, kR_ringOf, kR_segments, kR_segmentsOf, kR_shapeOf, kR_sign, kR_slotOf, kR_sx, kR_sy, kR_thrown, kR_typeOf, kR_w, kR_wayX, kR_wayY] σ σ_97 := FR_tr frσ_46 flσ_97 (by decide) (by decide)
          have k44 := e42 (by decide)
          refine wp_ft ?_
          refine wp_bdk ?_
          have c45 := ii_kR_planMany hσ_97 slot_0
          have c46 := FR_at flσ_97 (c := kR_planMany) (by decide) slot_0
          have c47 := ii_kR_planMany hσ_46 slot_0
          have c48 := FR_at flσ_46 (c := kR_planMany) (by decide) slot_0
          have c49 := ii_kR_planMany hσ_32 slot_0
          have c50 := FR_at flσ_32 (c := kR_planMany) (by decide) slot_0
          have c51 := ii_kR_planMany hσ_1 slot_0
          have c52 := FR_at flσ_1 (c := kR_planMany) (by decide) slot_0
          have c53 := ii_kR_planMany hσ slot_0
          have c54 := ii_kR_planMany hσ_97 other_0
          have c55 := FR_at flσ_97 (c := kR_planMany) (by decide) other_0
          have c56 := ii_kR_planMany hσ_46 other_0
          have c57 := FR_at flσ_46 (c := kR_planMany) (by decide) other_0
          have c58 := ii_kR_planMany hσ_32 other_0
          have c59 := FR_at flσ_32 (c := kR_planMany) (by decide) other_0
          have c60 := ii_kR_planMany hσ_1 other_0
          have c61 := FR_at flσ_1 (c := kR_planMany) (by decide) other_0
          have c62 := ii_kR_planMany hσ other_0
          refine wp_bd (s_R_relates (σ := σ_97) (slot_0 := slot_0) (other_0 := other_0) hσ_97 (by (try dsimp only) <;> first | assumption | omega | ((try simp (disch := omega) only [w32_of, w64_of, w8_of]) <;> first | assumption | omega | (split <;> omega) | (refine And.intro ?_ ?_ <;> split <;> omega)) | omega) (by (try dsimp only) <;> first | assumption | omega | ((try simp (disch := omega) only [w32_of, w64_of, w8_of]) <;> first | assumption | omega | (split <;> omega) | (refine And.intro ?_ ?_ <;> split <;> omega)) | omega) (SHs_f frσ_97 (by decide) w0) (by have h44 : 0 < σ_32 kR_planMany slot_0 ∧ 0 < σ_32 kR_planMany other_0 := (by assumption); rw [FR_at frσ_32 (c := kR_planMany) (by decide), FR_at frσ_32 (c := kR_planMany) (by decide)] at h44; rw [FR_at frσ_97 (c := kR_planMany) (by decide)]; exact h44.1) (by have h44 : 0 < σ_32 kR_planMany slot_0 ∧ 0 < σ_32 kR_planMany other_0 := (by assumption); rw [FR_at frσ_32 (c := kR_planMany) (by decide), FR_at frσ_32 (c := kR_planMany) (by decide)] at h44; rw [FR_at frσ_97 (c := kR_planMany) (by decide)]; exact h44.2)) ?_
          rintro ⟨x_102, σ_101⟩ - y63
          try dsimp only at y63 ⊢
          obtain ⟨hσ_101, flσ_101⟩ := y63
          have frσ_101 : FR [kR_baseX, kR_baseY, kR_cutsMany, kR_ex, kR_ey, kR_hasInside, kR_isInner, kR_limbs, kR_lineEnd, kR_lineEnds, kR_matrix, kR_meetX, kR_meetY, kR_numberOf, kR_offX, kR_offY, kR_partDen, kR_partNum, kR_partsOf, kR_ringOf, kR_segments, kR_segmentsOf, kR_shapeOf, kR_sign, kR_slotOf, kR_sx, kR_sy, kR_thrown, kR_typeOf, kR_w, kR_wayX, kR_wayY] σ σ_101 := FR_tr frσ_97 flσ_101 (by decide) (by decide)
          refine wp_if (fun c64 => ?_) (fun c64 => ?_)
          · try simp (disch := omega) only [w32_of, w64_of, w8_of, decide_eq_true_eq, decide_eq_false_iff_not, Bool.not_eq_true] at c64
            refine wp_somek ?_
            try dsimp only
            have c67 := ii_kR_thrown hσ_101 0
            have c68 := FR_at flσ_101 (c := kR_thrown) (by decide) 0
            have c69 := ii_kR_thrown hσ_97 0
            refine wp_fails hσ_101 (by (try dsimp only) <;> first | assumption | omega | ((try simp (disch := omega) only [w32_of, w64_of, w8_of]) <;> first | assumption | omega | (split <;> omega) | (refine And.intro ?_ ?_ <;> split <;> omega)) | omega) (by decide) (fun σ_109 hσ_109 flσ_109 e65 e66 => ?_)
            try dsimp only
            have frσ_109 : FR [kR_baseX, kR_baseY, kR_cutsMany, kR_ex, kR_ey, kR_hasInside, kR_isInner, kR_limbs, kR_lineEnd, kR_lineEnds, kR_matrix, kR_meetX, kR_meetY, kR_numberOf, kR_offX, kR_offY, kR_partDen, kR_partNum, kR_partsOf, kR_ringOf, kR_segments, kR_segmentsOf, kR_shapeOf, kR_sign, kR_slotOf, kR_sx, kR_sy, kR_thrown, kR_typeOf, kR_w, kR_wayX, kR_wayY] σ σ_109 := FR_tr frσ_101 flσ_109 (by decide) (by decide)
            have k70 := e66 (by decide)
            refine wp_ft ?_
            refine wp_bd (P := fun rr_ => (True)) ?_ ?_
            · refine wp_whl (fun ss_ => (0 ≤ ss_.2 ∧ ss_.2 ≤ 9)) (fun ss_ => (10 - ss_.2).toNat) (by (try dsimp only) <;> first | assumption | omega | ((try simp (disch := omega) only [w32_of, w64_of, w8_of]) <;> first | assumption | omega | (split <;> omega) | (refine And.intro ?_ ?_ <;> split <;> omega)) | omega) ?_
              rintro ⟨v_112, k_113⟩ y72
              try dsimp only at y72 ⊢
              have g71 := y72
              have c74 := w32_rng k_113
              refine wp_if (fun c73 => ?_) (fun c73 => ?_)
              · try simp (disch := omega) only [w32_of, w64_of, w8_of, decide_eq_true_eq, decide_eq_false_iff_not, Bool.not_eq_true] at c73
                refine wp_rdI (by (try dsimp only) <;> first | assumption | omega | ((try simp (disch := omega) only [w32_of, w64_of, w8_of]) <;> first | assumption | omega | (split <;> omega) | (refine And.intro ?_ ?_ <;> split <;> omega)) | omega) (by (try dsimp only) <;> first | assumption | omega | ((try simp (disch := omega) only [w32_of, w64_of, w8_of]) <;> first | assumption | omega | (split <;> omega) | (refine And.intro ?_ ?_ <;> split <;> omega)) | omega) (fun x_122 e_x_122 => ?_)
                have b_x_122 : (-1) ≤ x_122 ∧ x_122 ≤ 2 := by rw [e_x_122]; exact ii_kR_matrix hσ_109 _
                try simp (disch := omega) only [w32_of, w64_of, w8_of] at e_x_122
                have c75 := ii_kR_matrix hσ_109 k_113
                have c76 := FR_at flσ_109 (c := kR_matrix) (by decide) k_113
                have c77 := ii_kR_matrix hσ_101 k_113
                exact wp_some (x_inl ⟨(by (try dsimp only) <;> first | assumption | omega | ((try simp (disch := omega) only [w32_of, w64_of, w8_of]) <;> first | assumption | omega | (split <;> omega) | (refine And.intro ?_ ?_ <;> split <;> omega)) | omega), (by (try dsimp only) <;> first | assumption | omega | ((try simp (disch := omega) only [w32_of, w64_of, w8_of]) <;> first | assumption | omega | (split <;> omega) | (refine And.intro ?_ ?_ <;> split <;> omega)) | omega)⟩)
              · try simp (disch := omega) only [w32_of, w64_of, w8_of, decide_eq_true_eq, decide_eq_false_iff_not, Bool.not_eq_true] at c73
                exact wp_some (x_inr (by (try dsimp only) <;> first | assumption | omega | ((try simp (disch := omega) only [w32_of, w64_of, w8_of]) <;> first | assumption | omega | (split <;> omega) | (refine And.intro ?_ ?_ <;> split <;> omega)) | omega))
            rintro ⟨v_126, k_127⟩ _ y79
            try dsimp only at y79 ⊢
            have g78 := y79
            exact wp_some ⟨hσ_109, frσ_109⟩
          · try simp (disch := omega) only [w32_of, w64_of, w8_of, decide_eq_true_eq, decide_eq_false_iff_not, Bool.not_eq_true] at c64
            refine wp_somek ?_
            try dsimp only
            have c82 := ii_kR_thrown hσ_101 0
            have c83 := FR_at flσ_101 (c := kR_thrown) (by decide) 0
            have c84 := ii_kR_thrown hσ_97 0
            refine wp_fails hσ_101 (by (try dsimp only) <;> first | assumption | omega | ((try simp (disch := omega) only [w32_of, w64_of, w8_of]) <;> first | assumption | omega | (split <;> omega) | (refine And.intro ?_ ?_ <;> split <;> omega)) | omega) (by decide) (fun σ_109 hσ_109 flσ_109 e80 e81 => ?_)
            try dsimp only
            have frσ_109 : FR [kR_baseX, kR_baseY, kR_cutsMany, kR_ex, kR_ey, kR_hasInside, kR_isInner, kR_limbs, kR_lineEnd, kR_lineEnds, kR_matrix, kR_meetX, kR_meetY, kR_numberOf, kR_offX, kR_offY, kR_partDen, kR_partNum, kR_partsOf, kR_ringOf, kR_segments, kR_segmentsOf, kR_shapeOf, kR_sign, kR_slotOf, kR_sx, kR_sy, kR_thrown, kR_typeOf, kR_w, kR_wayX, kR_wayY] σ σ_109 := FR_tr frσ_101 flσ_109 (by decide) (by decide)
            have k85 := e80 rfl
            refine wp_tt ?_
            exact wp_some ⟨hσ_109, frσ_109⟩
        · try simp (disch := omega) only [w32_of, w64_of, w8_of, decide_eq_true_eq, decide_eq_false_iff_not, Bool.not_eq_true] at c40
          refine wp_somek ?_
          try dsimp only
          have c88 := ii_kR_thrown hσ_46 0
          refine wp_fails hσ_46 (by (try dsimp only) <;> first | assumption | omega | ((try simp (disch := omega) only [w32_of, w64_of, w8_of]) <;> first | assumption | omega | (split <;> omega) | (refine And.intro ?_ ?_ <;> split <;> omega)) | omega) (by decide) (fun σ_97 hσ_97 flσ_97 e86 e87 => ?_)
          try dsimp only
          have frσ_97 : FR [kR_baseX, kR_baseY, kR_cutsMany, kR_ex, kR_ey, kR_hasInside, kR_isInner, kR_limbs, kR_lineEnd, kR_lineEnds, kR_matrix, kR_meetX, kR_meetY, kR_numberOf, kR_offX, kR_offY, kR_partDen, kR_partNum, kR_partsOf, kR_ringOf, kR_segments, kR_segmentsOf, kR_shapeOf, kR_sign, kR_slotOf, kR_sx, kR_sy, kR_thrown, kR_typeOf, kR_w, kR_wayX, kR_wayY] σ σ_97 := FR_tr frσ_46 flσ_97 (by decide) (by decide)
          have k89 := e86 rfl
          refine wp_tt ?_
          exact wp_some ⟨hσ_97, frσ_97⟩
      · try simp (disch := omega) only [w32_of, w64_of, w8_of, decide_eq_true_eq, decide_eq_false_iff_not, Bool.not_eq_true] at c38
        refine wp_somek ?_
        try dsimp only
        have c92 := ii_kR_thrown hσ_46 0
        refine wp_fails hσ_46 (by (try dsimp only) <;> first | assumption | omega | ((try simp (disch := omega) only [w32_of, w64_of, w8_of]) <;> first | assumption | omega | (split <;> omega) | (refine And.intro ?_ ?_ <;> split <;> omega)) | omega) (by decide) (fun σ_97 hσ_97 flσ_97 e90 e91 => ?_)
        try dsimp only
        have frσ_97 : FR [kR_baseX, kR_baseY, kR_cutsMany, kR_ex, kR_ey, kR_hasInside, kR_isInner, kR_limbs, kR_lineEnd, kR_lineEnds, kR_matrix, kR_meetX, kR_meetY, kR_numberOf, kR_offX, kR_offY, kR_partDen, kR_partNum, kR_partsOf, kR_ringOf, kR_segments, kR_segmentsOf, kR_shapeOf, kR_sign, kR_slotOf, kR_sx, kR_sy, kR_thrown, kR_typeOf, kR_w, kR_wayX, kR_wayY] σ σ_97 := FR_tr frσ_46 flσ_97 (by decide) (by decide)
        have k93 := e90 rfl
        refine wp_tt ?_
        exact wp_some ⟨hσ_97, frσ_97⟩
theorem s_R_is {σ : SG} {what_0 : Int} {slot_0 : Int} {other_0 : Int} (hσ : II σ) (qwhat_0 : (-2147483648) ≤ what_0 ∧ what_0 ≤ 2147483647) (qslot_0 : (-2147483648) ≤ slot_0 ∧ slot_0 ≤ 2147483647) (qother_0 : (-2147483648) ≤ other_0 ∧ other_0 ≤ 2147483647) (w0 : SHs σ) : wp_ (fR_is σ what_0 slot_0 other_0) (fun zz_ => II zz_.2 ∧ FR [kR_baseX, kR_baseY, kR_cutsMany, kR_ex, kR_ey, kR_hasInside, kR_isInner, kR_limbs, kR_lineEnd, kR_lineEnds, kR_matrix, kR_meetX, kR_meetY, kR_numberOf, kR_offX, kR_offY, kR_partDen, kR_partNum, kR_partsOf, kR_ringOf, kR_segments, kR_segmentsOf, kR_shapeOf, kR_sign, kR_slotOf, kR_sx, kR_sy, kR_thrown, kR_typeOf, kR_w, kR_wayX, kR_wayY] σ zz_.2) := by
  unfold fR_is
  refine wp_wfI hσ b_kR_thrown (by (try dsimp only) <;> first | assumption | omega | ((try simp (disch := omega) only [w32_of, w64_of, w8_of]) <;> first | assumption | omega | (split <;> omega) | (refine And.intro ?_ ?_ <;> split <;> omega)) | omega) (fun σ_1 hσ_1 eσ_1 => ?_)
  try simp (disch := omega) only [w32_of, w64_of, w8_of] at eσ_1
  have flσ_1 := FR_sg eσ_1
  have frσ_1 : FR [kR_baseX, kR_baseY, kR_cutsMany, kR_ex, kR_ey, kR_hasInside, kR_isInner, kR_limbs, kR_lineEnd, kR_lineEnds, kR_matrix, kR_meetX, kR_meetY, kR_numberOf, kR_offX, kR_offY, kR_partDen, kR_partNum, kR_partsOf, kR_ringOf, kR_segments, kR_segmentsOf, kR_shapeOf, kR_sign, kR_slotOf, kR_sx, kR_sy, kR_thrown, kR_typeOf, kR_w, kR_wayX, kR_wayY] σ σ_1 := FR_le flσ_1 (by decide)
  have c3 := ii_kR_thrown hσ_1 0
  have c4 := sg_val eσ_1
  refine wp_fails hσ_1 (by (try dsimp only) <;> first | assumption | omega | ((try simp (disch := omega) only [w32_of, w64_of, w8_of]) <;> first | assumption | omega | (split <;> omega) | (refine And.intro ?_ ?_ <;> split <;> omega)) | omega) (by decide) (fun σ_32 hσ_32 flσ_32 e1 e2 => ?_)
  try dsimp only
  have frσ_32 : FR [kR_baseX, kR_baseY, kR_cutsMany, kR_ex, kR_ey, kR_hasInside, kR_isInner, kR_limbs, kR_lineEnd, kR_lineEnds, kR_matrix, kR_meetX, kR_meetY, kR_numberOf, kR_offX, kR_offY, kR_partDen, kR_partNum, kR_partsOf, kR_ringOf, kR_segments, kR_segmentsOf, kR_shapeOf, kR_sign, kR_slotOf, kR_sx, kR_sy, kR_thrown, kR_typeOf, kR_w, kR_wayX, kR_wayY] σ σ_32 := FR_tr frσ_1 flσ_32 (by decide) (by decide)
  refine wp_if (fun c5 => ?_) (fun c5 => ?_)
  · have k6 := e1 c5
    try simp (disch := omega) only [w32_of, w64_of, w8_of, decide_eq_true_eq, decide_eq_false_iff_not, Bool.not_eq_true, fR_isSlot] at c5
    exact wp_some ⟨hσ_32, frσ_32⟩
  · have k7 := e2 c5
    try simp (disch := omega) only [w32_of, w64_of, w8_of, decide_eq_true_eq, decide_eq_false_iff_not, Bool.not_eq_true, fR_isSlot] at c5
    refine wp_bd (P := fun rr_ => ((rr_ = false) → (0 < σ_32 kR_planMany slot_0 ∧ 0 < σ_32 kR_planMany other_0))) ?_ ?_
    · refine wp_bd (v_has (σ := σ_32) (slot_0 := slot_0) hσ_32 (by (try dsimp only) <;> first | assumption | omega | ((try simp (disch := omega) only [w32_of, w64_of, w8_of]) <;> first | assumption | omega | (split <;> omega) | (refine And.intro ?_ ?_ <;> split <;> omega)) | omega)) ?_
      rintro x_36 - hh36
      have c8 := ii_kR_planMany hσ_32 slot_0
      have c9 := FR_at flσ_32 (c := kR_planMany) (by decide) slot_0
      have c10 := ii_kR_planMany hσ_1 slot_0
      have c11 := FR_at flσ_1 (c := kR_planMany) (by decide) slot_0
      have c12 := ii_kR_planMany hσ slot_0
      try simp (disch := omega) only [w32_of, w64_of, w8_of] at hh36
      refine wp_if (fun c13 => ?_) (fun c13 => ?_)
      · have k14 := hh36.mp c13
        try simp (disch := omega) only [w32_of, w64_of, w8_of] at k14
        try simp (disch := omega) only [w32_of, w64_of, w8_of, decide_eq_true_eq, decide_eq_false_iff_not, Bool.not_eq_true] at c13
        refine wp_bd (v_has (σ := σ_32) (slot_0 := other_0) hσ_32 (by (try dsimp only) <;> first | assumption | omega | ((try simp (disch := omega) only [w32_of, w64_of, w8_of]) <;> first | assumption | omega | (split <;> omega) | (refine And.intro ?_ ?_ <;> split <;> omega)) | omega)) ?_
        rintro x_39 - hh39
        have c15 := ii_kR_planMany hσ_32 other_0
        have c16 := FR_at flσ_32 (c := kR_planMany) (by decide) other_0
        have c17 := ii_kR_planMany hσ_1 other_0
        have c18 := FR_at flσ_1 (c := kR_planMany) (by decide) other_0
        have c19 := ii_kR_planMany hσ other_0
        try simp (disch := omega) only [w32_of, w64_of, w8_of] at hh39
        refine wp_if (fun c20 => ?_) (fun c20 => ?_)
        · have k21 := hh39.mp c20
          try simp (disch := omega) only [w32_of, w64_of, w8_of] at k21
          try simp (disch := omega) only [w32_of, w64_of, w8_of, decide_eq_true_eq, decide_eq_false_iff_not, Bool.not_eq_true] at c20
          exact wp_some (by (try dsimp only) <;> (intro q9; first | exact absurd q9 (by decide) | exact ⟨hh36.mp (by assumption), hh39.mp (by assumption)⟩))
        · have k22 := fun q => c20 (hh39.mpr q)
          try simp (disch := omega) only [w32_of, w64_of, w8_of] at k22
          try simp (disch := omega) only [w32_of, w64_of, w8_of, decide_eq_true_eq, decide_eq_false_iff_not, Bool.not_eq_true] at c20
          exact wp_some (fun q => (by cases q))
      · have k23 := fun q => c13 (hh36.mpr q)
        try simp (disch := omega) only [w32_of, w64_of, w8_of] at k23
        try simp (disch := omega) only [w32_of, w64_of, w8_of, decide_eq_true_eq, decide_eq_false_iff_not, Bool.not_eq_true] at c13
        have c24 := ii_kR_planMany hσ_32 other_0
        have c25 := FR_at flσ_32 (c := kR_planMany) (by decide) other_0
        have c26 := ii_kR_planMany hσ_1 other_0
        have c27 := FR_at flσ_1 (c := kR_planMany) (by decide) other_0
        have c28 := ii_kR_planMany hσ other_0
        exact wp_some (fun q => (by cases q))
    rintro x_44 _ hz44
    have c31 := ii_kR_thrown hσ_32 0
    refine wp_fails hσ_32 (by (try dsimp only) <;> first | assumption | omega | ((try simp (disch := omega) only [w32_of, w64_of, w8_of]) <;> first | assumption | omega | (split <;> omega) | (refine And.intro ?_ ?_ <;> split <;> omega)) | omega) (by decide) (fun σ_46 hσ_46 flσ_46 e29 e30 => ?_)
    try dsimp only
    have frσ_46 : FR [kR_baseX, kR_baseY, kR_cutsMany, kR_ex, kR_ey, kR_hasInside, kR_isInner, kR_limbs, kR_lineEnd, kR_lineEnds, kR_matrix, kR_meetX, kR_meetY, kR_numberOf, kR_offX, kR_offY, kR_partDen, kR_partNum, kR_partsOf, kR_ringOf, kR_segments, kR_segmentsOf, kR_shapeOf, kR_sign, kR_slotOf, kR_sx, kR_sy, kR_thrown, kR_typeOf, kR_w, kR_wayX, kR_wayY] σ σ_46 := FR_tr frσ_32 flσ_46 (by decide) (by decide)
    refine wp_if (fun c32 => ?_) (fun c32 => ?_)
    · have k34 := e29 c32
      try simp (disch := omega) only [w32_of, w64_of, w8_of, decide_eq_true_eq, decide_eq_false_iff_not, Bool.not_eq_true] at c32
      exact wp_some ⟨hσ_46, frσ_46⟩
    · have k35 := hz44 (Bool.eq_false_iff.mpr c32)
      try simp (disch := omega) only [w32_of, w64_of, w8_of] at k35
      have k36 := e30 c32
      try simp (disch := omega) only [w32_of, w64_of, w8_of, decide_eq_true_eq, decide_eq_false_iff_not, Bool.not_eq_true] at c32
      refine wp_bdk ?_
      have c38 := w32_rng what_0
      refine wp_if (fun c37 => ?_) (fun c37 => ?_)
      · try simp (disch := omega) only [w32_of, w64_of, w8_of, decide_eq_true_eq, decide_eq_false_iff_not, Bool.not_eq_true, fR_in] at c37
        refine wp_bd (s_R_canRelate (σ := σ_46) (slot_0 := slot_0) hσ_46 (by (try dsimp only) <;> first | assumption | omega | ((try simp (disch := omega) only [w32_of, w64_of, w8_of]) <;> first | assumption | omega | (split <;> omega) | (refine And.intro ?_ ?_ <;> split <;> omega)) | omega)) ?_
        rintro x_90 - -
        refine wp_if (fun c40 => ?_) (fun c40 => ?_)
        · try simp (disch := omega) only [w32_of, w64_of, w8_of, decide_eq_true_eq, decide_eq_false_iff_not, Bool.not_eq_true] at c40
          refine wp_bd (s_R_canRelate (σ := σ_46) (slot_0 := other_0) hσ_46 (by (try dsimp only) <;> first | assumption | omega | ((try simp (disch := omega) only [w32_of, w64_of, w8_of]) <;> first | assumption | omega | (split <;> omega) | (refine And.intro ?_ ?_ <;> split <;> omega)) | omega)) ?_
          rintro x_93 - -
          refine wp_if (fun c42 => ?_) (fun c42 => ?_)
          · try simp (disch := omega) only [w32_of, w64_of, w8_of, decide_eq_true_eq, decide_eq_false_iff_not, Bool.not_eq_true] at c42
            refine wp_somek ?_
            try dsimp only
            have c45 := ii_kR_thrown hσ_46 0
            refine wp_fails hσ_46 (by (try dsimp only) <;> first | assumption | omega | ((try simp (disch := omega) only [w32_of, w64_of, w8_of]) <;> first | assumption | omega | (split <;> omega) | (refine And.intro ?_ ?_ <;> split <;> omega)) | omega) (by decide) (fun σ_101 hσ_101 flσ_101 e43 e44 => ?_)
            try dsimp only
            have frσ_101 : FR [kR_baseX, kR_baseY, kR_cutsMany, kR_ex, kR_ey, kR_hasInside, kR_isInner, kR_limbs, kR_lineEnd, kR_lineEnds, kR_matrix, kR_meetX, kR_meetY, kR_numberOf, kR_offX, kR_offY, kR_partDen, kR_partNum, kR_partsOf, kR_ringOf, kR_segments, kR_segmentsOf, kR_shapeOf, kR_sign, kR_slotOf, kR_sx, kR_sy, kR_thrown, kR_typeOf, kR_w, kR_wayX, kR_wayY] σ σ_101 := FR_tr frσ_46 flσ_101 (by decide) (by decide)
            have k46 := e44 (by decide)
            refine wp_ft ?_
            refine wp_bdk ?_
            have c47 := ii_kR_planMany hσ_101 slot_0
            have c48 := FR_at flσ_101 (c := kR_planMany) (by decide) slot_0
            have c49 := ii_kR_planMany hσ_46 slot_0
            have c50 := FR_at flσ_46 (c := kR_planMany) (by decide) slot_0
            have c51 := ii_kR_planMany hσ_32 slot_0
            have c52 := FR_at flσ_32 (c := kR_planMany) (by decide) slot_0
            have c53 := ii_kR_planMany hσ_1 slot_0
            have c54 := FR_at flσ_1 (c := kR_planMany) (by decide) slot_0
            have c55 := ii_kR_planMany hσ slot_0
            have c56 := ii_kR_planMany hσ_101 other_0
            have c57 := FR_at flσ_101 (c := kR_planMany) (by decide) other_0
            have c58 := ii_kR_planMany hσ_46 other_0
            have c59 := FR_at flσ_46 (c := kR_planMany) (by decide) other_0
            have c60 := ii_kR_planMany hσ_32 other_0
            have c61 := FR_at flσ_32 (c := kR_planMany) (by decide) other_0
            have c62 := ii_kR_planMany hσ_1 other_0
            have c63 := FR_at flσ_1 (c := kR_planMany) (by decide) other_0
            have c64 := ii_kR_planMany hσ other_0
            refine wp_bd (s_R_relates (σ := σ_101) (slot_0 := slot_0) (other_0 := other_0) hσ_101 (by (try dsimp only) <;> first | assumption | omega | ((try simp (disch := omega) only [w32_of, w64_of, w8_of]) <;> first | assumption | omega | (split <;> omega) | (refine And.intro ?_ ?_ <;> split <;> omega)) | omega) (by (try dsimp only) <;> first | assumption | omega | ((try simp (disch := omega) only [w32_of, w64_of, w8_of]) <;> first | assumption | omega | (split <;> omega) | (refine And.intro ?_ ?_ <;> split <;> omega)) | omega) (SHs_f frσ_101 (by decide) w0) (by have h44 : 0 < σ_32 kR_planMany slot_0 ∧ 0 < σ_32 kR_planMany other_0 := (by assumption); rw [FR_at frσ_32 (c := kR_planMany) (by decide), FR_at frσ_32 (c := kR_planMany) (by decide)] at h44; rw [FR_at frσ_101 (c := kR_planMany) (by decide)]; exact h44.1) (by have h44 : 0 < σ_32 kR_planMany slot_0 ∧ 0 < σ_32 kR_planMany other_0 := (by assumption); rw [FR_at frσ_32 (c := kR_planMany) (by decide), FR_at frσ_32 (c := kR_planMany) (by decide)] at h44; rw [FR_at frσ_101 (c := kR_planMany) (by decide)]; exact h44.2)) ?_
            rintro ⟨x_106, σ_105⟩ - y65
            try dsimp only at y65 ⊢
            obtain ⟨hσ_105, flσ_105⟩ := y65
            have frσ_105 : FR [kR_baseX, kR_baseY, kR_cutsMany, kR_ex, kR_ey, kR_hasInside, kR_isInner, kR_limbs, kR_lineEnd, kR_lineEnds, kR_matrix, kR_meetX, kR_meetY, kR_numberOf, kR_offX, kR_offY, kR_partDen, kR_partNum, kR_partsOf, kR_ringOf, kR_segments, kR_segmentsOf, kR_shapeOf, kR_sign, kR_slotOf, kR_sx, kR_sy, kR_thrown, kR_typeOf, kR_w, kR_wayX, kR_wayY] σ σ_105 := FR_tr frσ_101 flσ_105 (by decide) (by decide)
            refine wp_if (fun c66 => ?_) (fun c66 => ?_)
            · try simp (disch := omega) only [w32_of, w64_of, w8_of, decide_eq_true_eq, decide_eq_false_iff_not, Bool.not_eq_true] at c66
              refine wp_somek ?_
              try dsimp only
              have c69 := ii_kR_thrown hσ_105 0
              have c70 := FR_at flσ_105 (c := kR_thrown) (by decide) 0
              have c71 := ii_kR_thrown hσ_101 0
              refine wp_fails hσ_105 (by (try dsimp only) <;> first | assumption | omega | ((try simp (disch := omega) only [w32_of, w64_of, w8_of]) <;> first | assumption | omega | (split <;> omega) | (refine And.intro ?_ ?_ <;> split <;> omega)) | omega) (by decide) (fun σ_113 hσ_113 flσ_113 e67 e68 => ?_)
              try dsimp only
              have frσ_113 : FR [kR_baseX, kR_baseY, kR_cutsMany, kR_ex, kR_ey, kR_hasInside, kR_isInner, kR_limbs, kR_lineEnd, kR_lineEnds, kR_matrix, kR_meetX, kR_meetY, kR_numberOf, kR_offX, kR_offY, kR_partDen, kR_partNum, kR_partsOf, kR_ringOf, kR_segments, kR_segmentsOf, kR_shapeOf, kR_sign, kR_slotOf, kR_sx, kR_sy, kR_thrown, kR_typeOf, kR_w, kR_wayX, kR_wayY] σ σ_113 := FR_tr frσ_105 flσ_113 (by decide) (by decide)
              have k72 := e68 (by decide)
              refine wp_ft ?_
              refine wp_bd (s_R_isSo (σ := σ_113) (what_0 := what_0) hσ_113 (by (try dsimp only) <;> first | assumption | omega | ((try simp (disch := omega) only [w32_of, w64_of, w8_of]) <;> first | assumption | omega | (split <;> omega) | (refine And.intro ?_ ?_ <;> split <;> omega)) | omega)) ?_
              rintro x_117 - -
              exact wp_some ⟨hσ_113, frσ_113⟩
            · try simp (disch := omega) only [w32_of, w64_of, w8_of, decide_eq_true_eq, decide_eq_false_iff_not, Bool.not_eq_true] at c66
              refine wp_somek ?_
              try dsimp only
              have c76 := ii_kR_thrown hσ_105 0
              have c77 := FR_at flσ_105 (c := kR_thrown) (by decide) 0
              have c78 := ii_kR_thrown hσ_101 0
              refine wp_fails hσ_105 (by (try dsimp only) <;> first | assumption | omega | ((try simp (disch := omega) only [w32_of, w64_of, w8_of]) <;> first | assumption | omega | (split <;> omega) | (refine And.intro ?_ ?_ <;> split <;> omega)) | omega) (by decide) (fun σ_113 hσ_113 flσ_113 e74 e75 => ?_)
              try dsimp only
              have frσ_113 : FR [kR_baseX, kR_baseY, kR_cutsMany, kR_ex, kR_ey, kR_hasInside, kR_isInner, kR_limbs, kR_lineEnd, kR_lineEnds, kR_matrix, kR_meetX, kR_meetY, kR_numberOf, kR_offX, kR_offY, kR_partDen, kR_partNum, kR_partsOf, kR_ringOf, kR_segments, kR_segmentsOf, kR_shapeOf, kR_sign, kR_slotOf, kR_sx, kR_sy, kR_thrown, kR_typeOf, kR_w, kR_wayX, kR_wayY] σ σ_113 := FR_tr frσ_105 flσ_113 (by decide) (by decide)
              have k79 := e74 rfl
              refine wp_tt ?_
              exact wp_some ⟨hσ_113, frσ_113⟩
          · try simp (disch := omega) only [w32_of, w64_of, w8_of, decide_eq_true_eq, decide_eq_false_iff_not, Bool.not_eq_true] at c42
            refine wp_somek ?_
            try dsimp only
            have c82 := ii_kR_thrown hσ_46 0
            refine wp_fails hσ_46 (by (try dsimp only) <;> first | assumption | omega | ((try simp (disch := omega) only [w32_of, w64_of, w8_of]) <;> first | assumption | omega | (split <;> omega) | (refine And.intro ?_ ?_ <;> split <;> omega)) | omega) (by decide) (fun σ_101 hσ_101 flσ_101 e80 e81 => ?_)
            try dsimp only
            have frσ_101 : FR [kR_baseX, kR_baseY, kR_cutsMany, kR_ex, kR_ey, kR_hasInside, kR_isInner, kR_limbs, kR_lineEnd, kR_lineEnds, kR_matrix, kR_meetX, kR_meetY, kR_numberOf, kR_offX, kR_offY, kR_partDen, kR_partNum, kR_partsOf, kR_ringOf, kR_segments, kR_segmentsOf, kR_shapeOf, kR_sign, kR_slotOf, kR_sx, kR_sy, kR_thrown, kR_typeOf, kR_w, kR_wayX, kR_wayY] σ σ_101 := FR_tr frσ_46 flσ_101 (by decide) (by decide)
            have k83 := e80 rfl
            refine wp_tt ?_
            exact wp_some ⟨hσ_101, frσ_101⟩
        · try simp (disch := omega) only [w32_of, w64_of, w8_of, decide_eq_true_eq, decide_eq_false_iff_not, Bool.not_eq_true] at c40
          refine wp_somek ?_
          try dsimp only
          have c86 := ii_kR_thrown hσ_46 0
          refine wp_fails hσ_46 (by (try dsimp only) <;> first | assumption | omega | ((try simp (disch := omega) only [w32_of, w64_of, w8_of]) <;> first | assumption | omega | (split <;> omega) | (refine And.intro ?_ ?_ <;> split <;> omega)) | omega) (by decide) (fun σ_101 hσ_101 flσ_101 e84 e85 => ?_)
          try dsimp only
          have frσ_101 : FR [kR_baseX, kR_baseY, kR_cutsMany, kR_ex, kR_ey, kR_hasInside, kR_isInner, kR_limbs, kR_lineEnd, kR_lineEnds, kR_matrix, kR_meetX, kR_meetY, kR_numberOf, kR_offX, kR_offY, kR_partDen, kR_partNum, kR_partsOf, kR_ringOf, kR_segments, kR_segmentsOf, kR_shapeOf, kR_sign, kR_slotOf, kR_sx, kR_sy, kR_thrown, kR_typeOf, kR_w, kR_wayX, kR_wayY] σ σ_101 := FR_tr frσ_46 flσ_101 (by decide) (by decide)
          have k87 := e84 rfl
          refine wp_tt ?_
          exact wp_some ⟨hσ_101, frσ_101⟩
      · try simp (disch := omega) only [w32_of, w64_of, w8_of, decide_eq_true_eq, decide_eq_false_iff_not, Bool.not_eq_true, fR_in] at c37
        refine wp_somek ?_
        try dsimp only
        have c90 := ii_kR_thrown hσ_46 0
        refine wp_fails hσ_46 (by (try dsimp only) <;> first | assumption | omega | ((try simp (disch := omega) only [w32_of, w64_of, w8_of]) <;> first | assumption | omega | (split <;> omega) | (refine And.intro ?_ ?_ <;> split <;> omega)) | omega) (by decide) (fun σ_101 hσ_101 flσ_101 e88 e89 => ?_)
        try dsimp only
        have frσ_101 : FR [kR_baseX, kR_baseY, kR_cutsMany, kR_ex, kR_ey, kR_hasInside, kR_isInner, kR_limbs, kR_lineEnd, kR_lineEnds, kR_matrix, kR_meetX, kR_meetY, kR_numberOf, kR_offX, kR_offY, kR_partDen, kR_partNum, kR_partsOf, kR_ringOf, kR_segments, kR_segmentsOf, kR_shapeOf, kR_sign, kR_slotOf, kR_sx, kR_sy, kR_thrown, kR_typeOf, kR_w, kR_wayX, kR_wayY] σ σ_101 := FR_tr frσ_46 flσ_101 (by decide) (by decide)
        have k91 := e88 rfl
        refine wp_tt ?_
        exact wp_some ⟨hσ_101, frσ_101⟩
theorem s_R_locate {σ : SG} {slot_0 : Int} {x_0 : Int} {y_0 : Int} (hσ : II σ) (qslot_0 : (-2147483648) ≤ slot_0 ∧ slot_0 ≤ 2147483647) (qx_0 : (-2147483648) ≤ x_0 ∧ x_0 ≤ 2147483647) (qy_0 : (-2147483648) ≤ y_0 ∧ y_0 ≤ 2147483647) (w0 : SHs σ) : wp_ (fR_locate σ slot_0 x_0 y_0) (fun zz_ => II zz_.2 ∧ FR [kR_baseX, kR_baseY, kR_ex, kR_ey, kR_hasInside, kR_limbs, kR_lineEnd, kR_lineEnds, kR_numberOf, kR_offX, kR_offY, kR_partsOf, kR_ringOf, kR_segments, kR_segmentsOf, kR_shapeOf, kR_sign, kR_slotOf, kR_sx, kR_sy, kR_thrown, kR_typeOf, kR_w, kR_wayX, kR_wayY] σ zz_.2) := by
  unfold fR_locate
  refine wp_wfI hσ b_kR_thrown (by (try dsimp only) <;> first | assumption | omega | ((try simp (disch := omega) only [w32_of, w64_of, w8_of]) <;> first | assumption | omega | (split <;> omega) | (refine And.intro ?_ ?_ <;> split <;> omega)) | omega) (fun σ_1 hσ_1 eσ_1 => ?_)
  try simp (disch := omega) only [w32_of, w64_of, w8_of] at eσ_1
  have flσ_1 := FR_sg eσ_1
  have frσ_1 : FR [kR_baseX, kR_baseY, kR_ex, kR_ey, kR_hasInside, kR_limbs, kR_lineEnd, kR_lineEnds, kR_numberOf, kR_offX, kR_offY, kR_partsOf, kR_ringOf, kR_segments, kR_segmentsOf, kR_shapeOf, kR_sign, kR_slotOf, kR_sx, kR_sy, kR_thrown, kR_typeOf, kR_w, kR_wayX, kR_wayY] σ σ_1 := FR_le flσ_1 (by decide)
  have c3 := ii_kR_thrown hσ_1 0
  have c4 := sg_val eσ_1
  refine wp_fails hσ_1 (by (try dsimp only) <;> first | assumption | omega | ((try simp (disch := omega) only [w32_of, w64_of, w8_of]) <;> first | assumption | omega | (split <;> omega) | (refine And.intro ?_ ?_ <;> split <;> omega)) | omega) (by decide) (fun σ_27 hσ_27 flσ_27 e1 e2 => ?_)
  try dsimp only
  have frσ_27 : FR [kR_baseX, kR_baseY, kR_ex, kR_ey, kR_hasInside, kR_limbs, kR_lineEnd, kR_lineEnds, kR_numberOf, kR_offX, kR_offY, kR_partsOf, kR_ringOf, kR_segments, kR_segmentsOf, kR_shapeOf, kR_sign, kR_slotOf, kR_sx, kR_sy, kR_thrown, kR_typeOf, kR_w, kR_wayX, kR_wayY] σ σ_27 := FR_tr frσ_1 flσ_27 (by decide) (by decide)
  refine wp_if (fun c5 => ?_) (fun c5 => ?_)
  · have k6 := e1 c5
    try simp (disch := omega) only [w32_of, w64_of, w8_of, decide_eq_true_eq, decide_eq_false_iff_not, Bool.not_eq_true, fR_isSlot] at c5
    exact wp_some ⟨hσ_27, frσ_27⟩
  · have k7 := e2 c5
    try simp (disch := omega) only [w32_of, w64_of, w8_of, decide_eq_true_eq, decide_eq_false_iff_not, Bool.not_eq_true, fR_isSlot] at c5
    refine wp_bd (P := fun rr_ => ((rr_ = false) → (0 < σ_27 kR_planMany slot_0))) ?_ ?_
    · refine wp_bd (v_has (σ := σ_27) (slot_0 := slot_0) hσ_27 (by (try dsimp only) <;> first | assumption | omega | ((try simp (disch := omega) only [w32_of, w64_of, w8_of]) <;> first | assumption | omega | (split <;> omega) | (refine And.intro ?_ ?_ <;> split <;> omega)) | omega)) ?_
      rintro x_31 - hh36
      have c8 := ii_kR_planMany hσ_27 slot_0
      have c9 := FR_at flσ_27 (c := kR_planMany) (by decide) slot_0
      have c10 := ii_kR_planMany hσ_1 slot_0
      have c11 := FR_at flσ_1 (c := kR_planMany) (by decide) slot_0
      have c12 := ii_kR_planMany hσ slot_0
      try simp (disch := omega) only [w32_of, w64_of, w8_of] at hh36
      refine wp_if (fun c13 => ?_) (fun c13 => ?_)
      · have k14 := hh36.mp c13
        try simp (disch := omega) only [w32_of, w64_of, w8_of] at k14
        try simp (disch := omega) only [w32_of, w64_of, w8_of, decide_eq_true_eq, decide_eq_false_iff_not, Bool.not_eq_true] at c13
        exact wp_some (by (try dsimp only) <;> (intro q9; first | exact absurd q9 (by decide) | exact hh36.mp (by assumption)))
      · have k15 := fun q => c13 (hh36.mpr q)
        try simp (disch := omega) only [w32_of, w64_of, w8_of] at k15
        try simp (disch := omega) only [w32_of, w64_of, w8_of, decide_eq_true_eq, decide_eq_false_iff_not, Bool.not_eq_true] at c13
        exact wp_some (fun q => (by cases q))
    rintro x_35 _ hz44
    have c18 := ii_kR_thrown hσ_27 0
    refine wp_fails hσ_27 (by (try dsimp only) <;> first | assumption | omega | ((try simp (disch := omega) only [w32_of, w64_of, w8_of]) <;> first | assumption | omega | (split <;> omega) | (refine And.intro ?_ ?_ <;> split <;> omega)) | omega) (by decide) (fun σ_37 hσ_37 flσ_37 e16 e17 => ?_)
    try dsimp only
    have frσ_37 : FR [kR_baseX, kR_baseY, kR_ex, kR_ey, kR_hasInside, kR_limbs, kR_lineEnd, kR_lineEnds, kR_numberOf, kR_offX, kR_offY, kR_partsOf, kR_ringOf, kR_segments, kR_segmentsOf, kR_shapeOf, kR_sign, kR_slotOf, kR_sx, kR_sy, kR_thrown, kR_typeOf, kR_w, kR_wayX, kR_wayY] σ σ_37 := FR_tr frσ_27 flσ_37 (by decide) (by decide)
    refine wp_if (fun c19 => ?_) (fun c19 => ?_)
    · have k21 := e16 c19
      try simp (disch := omega) only [w32_of, w64_of, w8_of, decide_eq_true_eq, decide_eq_false_iff_not, Bool.not_eq_true] at c19
      exact wp_some ⟨hσ_37, frσ_37⟩
    · have k22 := hz44 (Bool.eq_false_iff.mpr c19)
      try simp (disch := omega) only [w32_of, w64_of, w8_of] at k22
      have k23 := e17 c19
      try simp (disch := omega) only [w32_of, w64_of, w8_of, decide_eq_true_eq, decide_eq_false_iff_not, Bool.not_eq_true] at c19
      refine wp_bdk ?_
      have c25 := w32_rng x_0
      refine wp_if (fun c24 => ?_) (fun c24 => ?_)
      · try simp (disch := omega) only [w32_of, w64_of, w8_of, decide_eq_true_eq, decide_eq_false_iff_not, Bool.not_eq_true, fR_in] at c24
        have c27 := w32_rng y_0
        refine wp_if (fun c26 => ?_) (fun c26 => ?_)
        · try simp (disch := omega) only [w32_of, w64_of, w8_of, decide_eq_true_eq, decide_eq_false_iff_not, Bool.not_eq_true, fR_in] at c26
          refine wp_bd (s_R_canRelate (σ := σ_37) (slot_0 := slot_0) hσ_37 (by (try dsimp only) <;> first | assumption | omega | ((try simp (disch := omega) only [w32_of, w64_of, w8_of]) <;> first | assumption | omega | (split <;> omega) | (refine And.intro ?_ ?_ <;> split <;> omega)) | omega)) ?_
          rintro x_43 - -
          refine wp_if (fun c29 => ?_) (fun c29 => ?_)
          · try simp (disch := omega) only [w32_of, w64_of, w8_of, decide_eq_true_eq, decide_eq_false_iff_not, Bool.not_eq_true] at c29
            refine wp_somek ?_
            try dsimp only
            have c32 := ii_kR_thrown hσ_37 0
            refine wp_fails hσ_37 (by (try dsimp only) <;> first | assumption | omega | ((try simp (disch := omega) only [w32_of, w64_of, w8_of]) <;> first | assumption | omega | (split <;> omega) | (refine And.intro ?_ ?_ <;> split <;> omega)) | omega) (by decide) (fun σ_51 hσ_51 flσ_51 e30 e31 => ?_)
            try dsimp only
            have frσ_51 : FR [kR_baseX, kR_baseY, kR_ex, kR_ey, kR_hasInside, kR_limbs, kR_lineEnd, kR_lineEnds, kR_numberOf, kR_offX, kR_offY, kR_partsOf, kR_ringOf, kR_segments, kR_segmentsOf, kR_shapeOf, kR_sign, kR_slotOf, kR_sx, kR_sy, kR_thrown, kR_typeOf, kR_w, kR_wayX, kR_wayY] σ σ_51 := FR_tr frσ_37 flσ_51 (by decide) (by decide)
            have k33 := e31 (by decide)
            refine wp_ft ?_
            refine wp_wfI hσ_51 b_kR_segments (by (try dsimp only) <;> first | assumption | omega | ((try simp (disch := omega) only [w32_of, w64_of, w8_of]) <;> first | assumption | omega | (split <;> omega) | (refine And.intro ?_ ?_ <;> split <;> omega)) | omega) (fun σ_54 hσ_54 eσ_54 => ?_)
            try simp (disch := omega) only [w32_of, w64_of, w8_of] at eσ_54
            have flσ_54 := FR_sg eσ_54
            have frσ_54 : FR [kR_baseX, kR_baseY, kR_ex, kR_ey, kR_hasInside, kR_limbs, kR_lineEnd, kR_lineEnds, kR_numberOf, kR_offX, kR_offY, kR_partsOf, kR_ringOf, kR_segments, kR_segmentsOf, kR_shapeOf, kR_sign, kR_slotOf, kR_sx, kR_sy, kR_thrown, kR_typeOf, kR_w, kR_wayX, kR_wayY] σ σ_54 := FR_tr frσ_51 flσ_54 (by decide) (by decide)
            have c34 := ii_kR_segments hσ_54 0
            have c35 := sg_val eσ_54
            have c36 := ii_kR_pointMany hσ_54 slot_0
            have c37 := FR_at flσ_54 (c := kR_pointMany) (by decide) slot_0
            have c38 := ii_kR_pointMany hσ_51 slot_0
            have c39 := FR_at flσ_51 (c := kR_pointMany) (by decide) slot_0
            have c40 := ii_kR_pointMany hσ_37 slot_0
            have c41 := FR_at flσ_37 (c := kR_pointMany) (by decide) slot_0
            have c42 := ii_kR_pointMany hσ_27 slot_0
            have c43 := FR_at flσ_27 (c := kR_pointMany) (by decide) slot_0
            have c44 := ii_kR_pointMany hσ_1 slot_0
            have c45 := FR_at flσ_1 (c := kR_pointMany) (by decide) slot_0
            have c46 := ii_kR_pointMany hσ slot_0
            have c47 := ii_kR_planMany hσ_54 slot_0
            have c48 := FR_at flσ_54 (c := kR_planMany) (by decide) slot_0
            have c49 := ii_kR_planMany hσ_51 slot_0
            have c50 := FR_at flσ_51 (c := kR_planMany) (by decide) slot_0
            have c51 := ii_kR_planMany hσ_37 slot_0
            have c52 := FR_at flσ_37 (c := kR_planMany) (by decide) slot_0
            have c53 := ii_kR_planMany hσ_27 slot_0
            have c54 := FR_at flσ_27 (c := kR_planMany) (by decide) slot_0
            have c55 := ii_kR_planMany hσ_1 slot_0
            have c56 := FR_at flσ_1 (c := kR_planMany) (by decide) slot_0
            have c57 := ii_kR_planMany hσ slot_0
            refine wp_bd (s_R_gatherShape (σ := σ_54) (slot_0 := slot_0) (shape_0 := 0) hσ_54 (by (try dsimp only) <;> first | assumption | omega | ((try simp (disch := omega) only [w32_of, w64_of, w8_of]) <;> first | assumption | omega | (split <;> omega) | (refine And.intro ?_ ?_ <;> split <;> omega)) | omega) (by (try dsimp only) <;> first | assumption | omega | ((try simp (disch := omega) only [w32_of, w64_of, w8_of]) <;> first | assumption | omega | (split <;> omega) | (refine And.intro ?_ ?_ <;> split <;> omega)) | omega) (SHs_f frσ_54 (by decide) w0) (by first | assumption | (intro q9 a9 b9; rw [sg_val eσ_54] at b9; omega)) (by (try dsimp only) <;> first | assumption | omega | ((try simp (disch := omega) only [w32_of, w64_of, w8_of]) <;> first | assumption | omega | (split <;> omega) | (refine And.intro ?_ ?_ <;> split <;> omega)) | omega) (by have h44 : 0 < σ_27 kR_planMany slot_0 := (by assumption); rw [FR_at frσ_27 (c := kR_planMany) (by decide)] at h44; rw [FR_at frσ_54 (c := kR_planMany) (by decide)]; exact h44)) ?_
            rintro σ_56 - ⟨hσ_56, flσ_56, g58, g59⟩
            have frσ_56 : FR [kR_baseX, kR_baseY, kR_ex, kR_ey, kR_hasInside, kR_limbs, kR_lineEnd, kR_lineEnds, kR_numberOf, kR_offX, kR_offY, kR_partsOf, kR_ringOf, kR_segments, kR_segmentsOf, kR_shapeOf, kR_sign, kR_slotOf, kR_sx, kR_sy, kR_thrown, kR_typeOf, kR_w, kR_wayX, kR_wayY] σ σ_56 := FR_tr frσ_54 flσ_56 (by decide) (by decide)
            try simp (disch := omega) only [w32_of, w64_of, w8_of] at g58
            have c60 := ii_kR_segments hσ_56 0
            try simp (disch := omega) only [w32_of, w64_of, w8_of] at g59
            refine wp_bdk ?_
            refine wp_rdI (by (try dsimp only) <;> first | assumption | omega | ((try simp (disch := omega) only [w32_of, w64_of, w8_of]) <;> first | assumption | omega | (split <;> omega) | (refine And.intro ?_ ?_ <;> split <;> omega)) | omega) (by (try dsimp only) <;> first | assumption | omega | ((try simp (disch := omega) only [w32_of, w64_of, w8_of]) <;> first | assumption | omega | (split <;> omega) | (refine And.intro ?_ ?_ <;> split <;> omega)) | omega) (fun x_57 e_x_57 => ?_)
            have b_x_57 : (-1) ≤ x_57 ∧ x_57 ≤ 2 := by rw [e_x_57]; exact ii_kR_typeOf hσ_56 _
            try simp (disch := omega) only [w32_of, w64_of, w8_of] at e_x_57
            have c61 := ii_kR_typeOf hσ_56 0
            have c63 := w32_rng x_57
            refine wp_if (fun c62 => ?_) (fun c62 => ?_)
            · try simp (disch := omega) only [w32_of, w64_of, w8_of, decide_eq_true_eq, decide_eq_false_iff_not, Bool.not_eq_true] at c62
              refine wp_rdI (by (try dsimp only) <;> first | assumption | omega | ((try simp (disch := omega) only [w32_of, w64_of, w8_of]) <;> first | assumption | omega | (split <;> omega) | (refine And.intro ?_ ?_ <;> split <;> omega)) | omega) (by (try dsimp only) <;> first | assumption | omega | ((try simp (disch := omega) only [w32_of, w64_of, w8_of]) <;> first | assumption | omega | (split <;> omega) | (refine And.intro ?_ ?_ <;> split <;> omega)) | omega) (fun x_60 e_x_60 => ?_)
              have b_x_60 : 0 ≤ x_60 ∧ x_60 ≤ 2048 := by rw [e_x_60]; exact ii_kR_partsOf hσ_56 _
              try simp (disch := omega) only [w32_of, w64_of, w8_of] at e_x_60
              have c64 := ii_kR_partsOf hσ_56 0
              have c66 := w32_rng x_60
              refine wp_if (fun c65 => ?_) (fun c65 => ?_)
              · try simp (disch := omega) only [w32_of, w64_of, w8_of, decide_eq_true_eq, decide_eq_false_iff_not, Bool.not_eq_true] at c65
                refine wp_somek ?_
                try dsimp only
                have c69 := ii_kR_thrown hσ_56 0
                have c70 := FR_at flσ_56 (c := kR_thrown) (by decide) 0
                have c71 := ii_kR_thrown hσ_54 0
                have c72 := FR_at flσ_54 (c := kR_thrown) (by decide) 0
                have c73 := ii_kR_thrown hσ_51 0
                refine wp_fails hσ_56 (by (try dsimp only) <;> first | assumption | omega | ((try simp (disch := omega) only [w32_of, w64_of, w8_of]) <;> first | assumption | omega | (split <;> omega) | (refine And.intro ?_ ?_ <;> split <;> omega)) | omega) (by decide) (fun σ_68 hσ_68 flσ_68 e67 e68 => ?_)
                try dsimp only
                have frσ_68 : FR [kR_baseX, kR_baseY, kR_ex, kR_ey, kR_hasInside, kR_limbs, kR_lineEnd, kR_lineEnds, kR_numberOf, kR_offX, kR_offY, kR_partsOf, kR_ringOf, kR_segments, kR_segmentsOf, kR_shapeOf, kR_sign, kR_slotOf, kR_sx, kR_sy, kR_thrown, kR_typeOf, kR_w, kR_wayX, kR_wayY] σ σ_68 := FR_tr frσ_56 flσ_68 (by decide) (by decide)
                have k74 := e67 rfl
                refine wp_tt ?_
                exact wp_some ⟨hσ_68, frσ_68⟩
              · try simp (disch := omega) only [w32_of, w64_of, w8_of, decide_eq_true_eq, decide_eq_false_iff_not, Bool.not_eq_true] at c65
                refine wp_somek ?_
                try dsimp only
                have c77 := ii_kR_thrown hσ_56 0
                have c78 := FR_at flσ_56 (c := kR_thrown) (by decide) 0
                have c79 := ii_kR_thrown hσ_54 0
                have c80 := FR_at flσ_54 (c := kR_thrown) (by decide) 0
                have c81 := ii_kR_thrown hσ_51 0
                refine wp_fails hσ_56 (by (try dsimp only) <;> first | assumption | omega | ((try simp (disch := omega) only [w32_of, w64_of, w8_of]) <;> first | assumption | omega | (split <;> omega) | (refine And.intro ?_ ?_ <;> split <;> omega)) | omega) (by decide) (fun σ_68 hσ_68 flσ_68 e75 e76 => ?_)
                try dsimp only
                have frσ_68 : FR [kR_baseX, kR_baseY, kR_ex, kR_ey, kR_hasInside, kR_limbs, kR_lineEnd, kR_lineEnds, kR_numberOf, kR_offX, kR_offY, kR_partsOf, kR_ringOf, kR_segments, kR_segmentsOf, kR_shapeOf, kR_sign, kR_slotOf, kR_sx, kR_sy, kR_thrown, kR_typeOf, kR_w, kR_wayX, kR_wayY] σ σ_68 := FR_tr frσ_56 flσ_68 (by decide) (by decide)
                have k82 := e76 (by decide)
                refine wp_ft ?_
                refine wp_bd (s_R_wholePlace (σ := σ_68) (x_0 := (w32 x_0)) (y_0 := (w32 y_0)) hσ_68 (by (try dsimp only) <;> first | assumption | omega | ((try simp (disch := omega) only [w32_of, w64_of, w8_of]) <;> first | assumption | omega | (split <;> omega) | (refine And.intro ?_ ?_ <;> split <;> omega)) | omega) (by (try dsimp only) <;> first | assumption | omega | ((try simp (disch := omega) only [w32_of, w64_of, w8_of]) <;> first | assumption | omega | (split <;> omega) | (refine And.intro ?_ ?_ <;> split <;> omega)) | omega)) ?_
                rintro σ_72 - ⟨hσ_72, flσ_72, g83⟩
                have frσ_72 : FR [kR_baseX, kR_baseY, kR_ex, kR_ey, kR_hasInside, kR_limbs, kR_lineEnd, kR_lineEnds, kR_numberOf, kR_offX, kR_offY, kR_partsOf, kR_ringOf, kR_segments, kR_segmentsOf, kR_shapeOf, kR_sign, kR_slotOf, kR_sx, kR_sy, kR_thrown, kR_typeOf, kR_w, kR_wayX, kR_wayY] σ σ_72 := FR_tr frσ_68 flσ_72 (by decide) (by decide)
                try simp (disch := omega) only [w32_of, w64_of, w8_of] at g83
                refine wp_bd (s_R_where (σ := σ_72) (shape_0 := 0) (onEdge_0 := false) hσ_72 (by (try dsimp only) <;> first | assumption | omega | ((try simp (disch := omega) only [w32_of, w64_of, w8_of]) <;> first | assumption | omega | (split <;> omega) | (refine And.intro ?_ ?_ <;> split <;> omega)) | omega) g83) ?_
                rintro ⟨x_75, σ_74⟩ - y86
                try dsimp only at y86 ⊢
                obtain ⟨hσ_74, flσ_74, g84, g85⟩ := y86
                have frσ_74 : FR [kR_baseX, kR_baseY, kR_ex, kR_ey, kR_hasInside, kR_limbs, kR_lineEnd, kR_lineEnds, kR_numberOf, kR_offX, kR_offY, kR_partsOf, kR_ringOf, kR_segments, kR_segmentsOf, kR_shapeOf, kR_sign, kR_slotOf, kR_sx, kR_sy, kR_thrown, kR_typeOf, kR_w, kR_wayX, kR_wayY] σ σ_74 := FR_tr frσ_72 flσ_74 (by decide) (by decide)
                try simp (disch := omega) only [w32_of, w64_of, w8_of] at g84
                try simp (disch := omega) only [w32_of, w64_of, w8_of] at g85
                exact wp_some ⟨hσ_74, frσ_74⟩
            · try simp (disch := omega) only [w32_of, w64_of, w8_of, decide_eq_true_eq, decide_eq_false_iff_not, Bool.not_eq_true] at c62
              refine wp_somek ?_
              try dsimp only
              have c89 := ii_kR_thrown hσ_56 0
              have c90 := FR_at flσ_56 (c := kR_thrown) (by decide) 0
              have c91 := ii_kR_thrown hσ_54 0
              have c92 := FR_at flσ_54 (c := kR_thrown) (by decide) 0
              have c93 := ii_kR_thrown hσ_51 0
              refine wp_fails hσ_56 (by (try dsimp only) <;> first | assumption | omega | ((try simp (disch := omega) only [w32_of, w64_of, w8_of]) <;> first | assumption | omega | (split <;> omega) | (refine And.intro ?_ ?_ <;> split <;> omega)) | omega) (by decide) (fun σ_68 hσ_68 flσ_68 e87 e88 => ?_)
              try dsimp only
              have frσ_68 : FR [kR_baseX, kR_baseY, kR_ex, kR_ey, kR_hasInside, kR_limbs, kR_lineEnd, kR_lineEnds, kR_numberOf, kR_offX, kR_offY, kR_partsOf, kR_ringOf, kR_segments, kR_segmentsOf, kR_shapeOf, kR_sign, kR_slotOf, kR_sx, kR_sy, kR_thrown, kR_typeOf, kR_w, kR_wayX, kR_wayY] σ σ_68 := FR_tr frσ_56 flσ_68 (by decide) (by decide)
              have k94 := e88 (by decide)
              refine wp_ft ?_
              refine wp_bd (s_R_wholePlace (σ := σ_68) (x_0 := (w32 x_0)) (y_0 := (w32 y_0)) hσ_68 (by (try dsimp only) <;> first | assumption | omega | ((try simp (disch := omega) only [w32_of, w64_of, w8_of]) <;> first | assumption | omega | (split <;> omega) | (refine And.intro ?_ ?_ <;> split <;> omega)) | omega) (by (try dsimp only) <;> first | assumption | omega | ((try simp (disch := omega) only [w32_of, w64_of, w8_of]) <;> first | assumption | omega | (split <;> omega) | (refine And.intro ?_ ?_ <;> split <;> omega)) | omega)) ?_
              rintro σ_72 - ⟨hσ_72, flσ_72, g95⟩
              have frσ_72 : FR [kR_baseX, kR_baseY, kR_ex, kR_ey, kR_hasInside, kR_limbs, kR_lineEnd, kR_lineEnds, kR_numberOf, kR_offX, kR_offY, kR_partsOf, kR_ringOf, kR_segments, kR_segmentsOf, kR_shapeOf, kR_sign, kR_slotOf, kR_sx, kR_sy, kR_thrown, kR_typeOf, kR_w, kR_wayX, kR_wayY] σ σ_72 := FR_tr frσ_68 flσ_72 (by decide) (by decide)
              try simp (disch := omega) only [w32_of, w64_of, w8_of] at g95
              refine wp_bd (s_R_where (σ := σ_72) (shape_0 := 0) (onEdge_0 := false) hσ_72 (by (try dsimp only) <;> first | assumption | omega | ((try simp (disch := omega) only [w32_of, w64_of, w8_of]) <;> first | assumption | omega | (split <;> omega) | (refine And.intro ?_ ?_ <;> split <;> omega)) | omega) g95) ?_
              rintro ⟨x_75, σ_74⟩ - y98
              try dsimp only at y98 ⊢
              obtain ⟨hσ_74, flσ_74, g96, g97⟩ := y98
              have frσ_74 : FR [kR_baseX, kR_baseY, kR_ex, kR_ey, kR_hasInside, kR_limbs, kR_lineEnd, kR_lineEnds, kR_numberOf, kR_offX, kR_offY, kR_partsOf, kR_ringOf, kR_segments, kR_segmentsOf, kR_shapeOf, kR_sign, kR_slotOf, kR_sx, kR_sy, kR_thrown, kR_typeOf, kR_w, kR_wayX, kR_wayY] σ σ_74 := FR_tr frσ_72 flσ_74 (by decide) (by decide)
              try simp (disch := omega) only [w32_of, w64_of, w8_of] at g96
              try simp (disch := omega) only [w32_of, w64_of, w8_of] at g97
              exact wp_some ⟨hσ_74, frσ_74⟩
          · try simp (disch := omega) only [w32_of, w64_of, w8_of, decide_eq_true_eq, decide_eq_false_iff_not, Bool.not_eq_true] at c29
            refine wp_somek ?_
            try dsimp only
            have c101 := ii_kR_thrown hσ_37 0
            refine wp_fails hσ_37 (by (try dsimp only) <;> first | assumption | omega | ((try simp (disch := omega) only [w32_of, w64_of, w8_of]) <;> first | assumption | omega | (split <;> omega) | (refine And.intro ?_ ?_ <;> split <;> omega)) | omega) (by decide) (fun σ_51 hσ_51 flσ_51 e99 e100 => ?_)
            try dsimp only
            have frσ_51 : FR [kR_baseX, kR_baseY, kR_ex, kR_ey, kR_hasInside, kR_limbs, kR_lineEnd, kR_lineEnds, kR_numberOf, kR_offX, kR_offY, kR_partsOf, kR_ringOf, kR_segments, kR_segmentsOf, kR_shapeOf, kR_sign, kR_slotOf, kR_sx, kR_sy, kR_thrown, kR_typeOf, kR_w, kR_wayX, kR_wayY] σ σ_51 := FR_tr frσ_37 flσ_51 (by decide) (by decide)
            have k102 := e99 rfl
            refine wp_tt ?_
            exact wp_some ⟨hσ_51, frσ_51⟩
        · try simp (disch := omega) only [w32_of, w64_of, w8_of, decide_eq_true_eq, decide_eq_false_iff_not, Bool.not_eq_true, fR_in] at c26
          refine wp_somek ?_
          try dsimp only
          have c105 := ii_kR_thrown hσ_37 0
          refine wp_fails hσ_37 (by (try dsimp only) <;> first | assumption | omega | ((try simp (disch := omega) only [w32_of, w64_of, w8_of]) <;> first | assumption | omega | (split <;> omega) | (refine And.intro ?_ ?_ <;> split <;> omega)) | omega) (by decide) (fun σ_51 hσ_51 flσ_51 e103 e104 => ?_)
          try dsimp only
          have frσ_51 : FR [kR_baseX, kR_baseY, kR_ex, kR_ey, kR_hasInside, kR_limbs, kR_lineEnd, kR_lineEnds, kR_numberOf, kR_offX, kR_offY, kR_partsOf, kR_ringOf, kR_segments, kR_segmentsOf, kR_shapeOf, kR_sign, kR_slotOf, kR_sx, kR_sy, kR_thrown, kR_typeOf, kR_w, kR_wayX, kR_wayY] σ σ_51 := FR_tr frσ_37 flσ_51 (by decide) (by decide)
          have k106 := e103 rfl
          refine wp_tt ?_
          exact wp_some ⟨hσ_51, frσ_51⟩
      · try simp (disch := omega) only [w32_of, w64_of, w8_of, decide_eq_true_eq, decide_eq_false_iff_not, Bool.not_eq_true, fR_in] at c24
        refine wp_somek ?_
        try dsimp only
        have c109 := ii_kR_thrown hσ_37 0
        refine wp_fails hσ_37 (by (try dsimp only) <;> first | assumption | omega | ((try simp (disch := omega) only [w32_of, w64_of, w8_of]) <;> first | assumption | omega | (split <;> omega) | (refine And.intro ?_ ?_ <;> split <;> omega)) | omega) (by decide) (fun σ_51 hσ_51 flσ_51 e107 e108 => ?_)
        try dsimp only
        have frσ_51 : FR [kR_baseX, kR_baseY, kR_ex, kR_ey, kR_hasInside, kR_limbs, kR_lineEnd, kR_lineEnds, kR_numberOf, kR_offX, kR_offY, kR_partsOf, kR_ringOf, kR_segments, kR_segmentsOf, kR_shapeOf, kR_sign, kR_slotOf, kR_sx, kR_sy, kR_thrown, kR_typeOf, kR_w, kR_wayX, kR_wayY] σ σ_51 := FR_tr frσ_37 flσ_51 (by decide) (by decide)
        have k110 := e107 rfl
        refine wp_tt ?_
        exact wp_some ⟨hσ_51, frσ_51⟩
