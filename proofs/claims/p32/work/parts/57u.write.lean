theorem v_next {σ : SG} (hσ : II σ) (w0 : 0 ≤ σ kR_planAt 0 ∧ σ kR_planAt 0 ≤ 67583) : wp_ (fR_next σ) (fun zz_ => II zz_.2 ∧ FR [kR_planAt] σ zz_.2 ∧ (zz_.2 kR_planAt 0 = σ kR_planAt 0 + 1) ∧ (zz_.1 = σ kR_plan (σ kR_planAt 0))) := by
  unfold fR_next
  have c1 := ii_kR_planAt hσ 0
  refine wp_wfI hσ b_kR_planAt (by (try dsimp only) <;> first | assumption | omega | ((try simp (disch := omega) only [w32_of, w64_of, w8_of]) <;> first | assumption | omega | (split <;> omega) | (refine And.intro ?_ ?_ <;> split <;> omega)) | omega) (fun σ_1 hσ_1 eσ_1 => ?_)
  try simp (disch := omega) only [w32_of, w64_of, w8_of] at eσ_1
  have flσ_1 := FR_sg eσ_1
  have frσ_1 : FR [kR_planAt] σ σ_1 := FR_le flσ_1 (by decide)
  have c2 := ii_kR_planAt hσ_1 0
  have c3 := sg_val eσ_1
  have c4 := w32_rng ((σ_1 kR_planAt 0) - 1)
  refine wp_rdI (by (try dsimp only) <;> first | assumption | omega | ((try simp (disch := omega) only [w32_of, w64_of, w8_of]) <;> first | assumption | omega | (split <;> omega) | (refine And.intro ?_ ?_ <;> split <;> omega)) | omega) (by (try dsimp only) <;> first | assumption | omega | ((try simp (disch := omega) only [w32_of, w64_of, w8_of]) <;> first | assumption | omega | (split <;> omega) | (refine And.intro ?_ ?_ <;> split <;> omega)) | omega) (fun x_2 e_x_2 => ?_)
  rw [FR_at frσ_1 (c := kR_plan) (by decide)] at e_x_2
  try simp (disch := omega) only [w32_of, w64_of, w8_of] at e_x_2
  have c5 := FR_at flσ_1 (c := kR_plan) (by decide) ((σ_1 kR_planAt 0) - 1)
  exact wp_some ⟨hσ_1, frσ_1, (by (try dsimp only) <;> first | assumption | omega | ((try simp (disch := omega) only [w32_of, w64_of, w8_of]) <;> first | assumption | omega | (split <;> omega) | (refine And.intro ?_ ?_ <;> split <;> omega)) | omega), (by (try dsimp only) <;> (rw [e_x_2, show σ_1 kR_planAt 0 - 1 = σ kR_planAt 0 by (have z := sg_val eσ_1; omega)]))⟩
theorem v_putRow {σ : SG} {n_0 : Int} (hσ : II σ) (w0 : UNt σ) (w1 : 0 ≤ n_0) (w2 : σ kR_pointAt 0 + n_0 ≤ 67584) (w3 : σ kR_resultMany 0 + 33 * n_0 ≤ 131072) : wp_ (fR_putRow σ n_0) (fun zz_ => II zz_ ∧ FR [kR_pointAt, kR_result, kR_resultMany] σ zz_ ∧ (zz_ kR_pointAt 0 = σ kR_pointAt 0 + n_0) ∧ (zz_ kR_resultMany 0 ≤ σ kR_resultMany 0 + 33 * n_0)) := by
  unfold fR_putRow
  have c1 := ii_kR_pointAt hσ 0
  have c2 := ii_kR_resultMany hσ 0
  have hp0 := ii_kR_pointAt hσ 0
  refine wp_bd (P := fun rr_ => II rr_.2 ∧ FR [kR_pointAt, kR_result, kR_resultMany] σ rr_.2 ∧ (rr_.2 kR_pointAt 0 = σ kR_pointAt 0 + n_0) ∧ (rr_.2 kR_resultMany 0 ≤ σ kR_resultMany 0 + 33 * n_0)) ?_ ?_
  · refine wp_whl (fun ss_ => II ss_.2 ∧ FR [kR_pointAt, kR_result, kR_resultMany] σ ss_.2 ∧ (0 ≤ ss_.1 ∧ ss_.1 ≤ n_0) ∧ (ss_.2 kR_pointAt 0 = σ kR_pointAt 0 + ss_.1) ∧ (ss_.2 kR_resultMany 0 ≤ σ kR_resultMany 0 + 33 * ss_.1)) (fun ss_ => (n_0 - ss_.1).toNat) ⟨hσ, (FR_refl _ _), (by (try dsimp only) <;> first | assumption | omega | ((try simp (disch := omega) only [w32_of, w64_of, w8_of]) <;> first | assumption | omega | (split <;> omega) | (refine And.intro ?_ ?_ <;> split <;> omega)) | omega), (by (try dsimp only) <;> first | assumption | omega | ((try simp (disch := omega) only [w32_of, w64_of, w8_of]) <;> first | assumption | omega | (split <;> omega) | (refine And.intro ?_ ?_ <;> split <;> omega)) | omega), (by (try dsimp only) <;> first | assumption | omega | ((try simp (disch := omega) only [w32_of, w64_of, w8_of]) <;> first | assumption | omega | (split <;> omega) | (refine And.intro ?_ ?_ <;> split <;> omega)) | omega)⟩ ?_
    rintro ⟨k_1, σ_2⟩ y6
    try dsimp only at y6 ⊢
    obtain ⟨hσ_2, frσ_2, g3, g4, g5⟩ := y6
    have c8 := w32_rng k_1
    have c9 := w32_rng n_0
    refine wp_if (fun c7 => ?_) (fun c7 => ?_)
    · try simp (disch := omega) only [w32_of, w64_of, w8_of, decide_eq_true_eq, decide_eq_false_iff_not, Bool.not_eq_true] at c7
      refine wp_bd (P := fun rr_ => II rr_ ∧ FR [kR_pointAt, kR_result, kR_resultMany] σ rr_ ∧ (rr_ kR_resultMany 0 ≤ σ_2 kR_resultMany 0 + 1) ∧ (rr_ kR_pointAt 0 = σ_2 kR_pointAt 0)) ?_ ?_
      · refine wp_if (fun c10 => ?_) (fun c10 => ?_)
        · try simp (disch := omega) only [w32_of, w64_of, w8_of, decide_eq_true_eq, decide_eq_false_iff_not, Bool.not_eq_true] at c10
          have c11 := ii_kR_resultMany hσ_2 0
          refine wp_bd (s_R_put (σ := σ_2) (c_0 := 44) hσ_2 (by (try dsimp only) <;> first | assumption | omega | ((try simp (disch := omega) only [w32_of, w64_of, w8_of]) <;> first | assumption | omega | (split <;> omega) | (refine And.intro ?_ ?_ <;> split <;> omega)) | omega) (by (try dsimp only) <;> first | assumption | omega | ((try simp (disch := omega) only [w32_of, w64_of, w8_of]) <;> first | assumption | omega | (split <;> omega) | (refine And.intro ?_ ?_ <;> split <;> omega)) | omega)) ?_
          rintro σ_17 - ⟨hσ_17, flσ_17, g12⟩
          have frσ_17 : FR [kR_pointAt, kR_result, kR_resultMany] σ σ_17 := FR_tr frσ_2 flσ_17 (by decide) (by decide)
          have c13 := ii_kR_resultMany hσ_17 0
          try simp (disch := omega) only [w32_of, w64_of, w8_of] at g12
          have c14 := ii_kR_pointAt hσ_17 0
          have c15 := FR_at flσ_17 (c := kR_pointAt) (by decide) 0
          have c16 := ii_kR_pointAt hσ_2 0
          exact wp_some ⟨hσ_17, frσ_17, (by (try dsimp only) <;> first | assumption | omega | ((try simp (disch := omega) only [w32_of, w64_of, w8_of]) <;> first | assumption | omega | (split <;> omega) | (refine And.intro ?_ ?_ <;> split <;> omega)) | omega), (by (try dsimp only) <;> first | assumption | omega | ((try simp (disch := omega) only [w32_of, w64_of, w8_of]) <;> first | assumption | omega | (split <;> omega) | (refine And.intro ?_ ?_ <;> split <;> omega)) | omega)⟩
        · try simp (disch := omega) only [w32_of, w64_of, w8_of, decide_eq_true_eq, decide_eq_false_iff_not, Bool.not_eq_true] at c10
          have c17 := ii_kR_resultMany hσ_2 0
          have c18 := ii_kR_pointAt hσ_2 0
          exact wp_some ⟨hσ_2, frσ_2, (by (try dsimp only) <;> first | assumption | omega | ((try simp (disch := omega) only [w32_of, w64_of, w8_of]) <;> first | assumption | omega | (split <;> omega) | (refine And.intro ?_ ?_ <;> split <;> omega)) | omega), (by (try dsimp only) <;> first | assumption | omega | ((try simp (disch := omega) only [w32_of, w64_of, w8_of]) <;> first | assumption | omega | (split <;> omega) | (refine And.intro ?_ ?_ <;> split <;> omega)) | omega)⟩
      rintro σ_20 _ ⟨hσ_20, frσ_20, g19, g20⟩
      refine wp_bd (P := fun rr_ => II rr_ ∧ FR [kR_pointAt, kR_result, kR_resultMany] σ rr_ ∧ (rr_ kR_resultMany 0 ≤ σ_2 kR_resultMany 0 + 2) ∧ (rr_ kR_pointAt 0 = σ_2 kR_pointAt 0)) ?_ ?_
      · refine wp_if (fun c21 => ?_) (fun c21 => ?_)
        · try simp (disch := omega) only [w32_of, w64_of, w8_of, decide_eq_true_eq, decide_eq_false_iff_not, Bool.not_eq_true] at c21
          have c22 := ii_kR_resultMany hσ_20 0
          refine wp_bd (s_R_put (σ := σ_20) (c_0 := 32) hσ_20 (by (try dsimp only) <;> first | assumption | omega | ((try simp (disch := omega) only [w32_of, w64_of, w8_of]) <;> first | assumption | omega | (split <;> omega) | (refine And.intro ?_ ?_ <;> split <;> omega)) | omega) (by (try dsimp only) <;> first | assumption | omega | ((try simp (disch := omega) only [w32_of, w64_of, w8_of]) <;> first | assumption | omega | (split <;> omega) | (refine And.intro ?_ ?_ <;> split <;> omega)) | omega)) ?_
          rintro σ_27 - ⟨hσ_27, flσ_27, g23⟩
          have frσ_27 : FR [kR_pointAt, kR_result, kR_resultMany] σ σ_27 := FR_tr frσ_20 flσ_27 (by decide) (by decide)
          have c24 := ii_kR_resultMany hσ_27 0
          try simp (disch := omega) only [w32_of, w64_of, w8_of] at g23
          have c25 := ii_kR_resultMany hσ_2 0
          have c26 := ii_kR_pointAt hσ_27 0
          have c27 := FR_at flσ_27 (c := kR_pointAt) (by decide) 0
          have c28 := ii_kR_pointAt hσ_20 0
          have c29 := ii_kR_pointAt hσ_2 0
          exact wp_some ⟨hσ_27, frσ_27, (by (try dsimp only) <;> first | assumption | omega | ((try simp (disch := omega) only [w32_of, w64_of, w8_of]) <;> first | assumption | omega | (split <;> omega) | (refine And.intro ?_ ?_ <;> split <;> omega)) | omega), (by (try dsimp only) <;> first | assumption | omega | ((try simp (disch := omega) only [w32_of, w64_of, w8_of]) <;> first | assumption | omega | (split <;> omega) | (refine And.intro ?_ ?_ <;> split <;> omega)) | omega)⟩
        · try simp (disch := omega) only [w32_of, w64_of, w8_of, decide_eq_true_eq, decide_eq_false_iff_not, Bool.not_eq_true] at c21
          have c30 := ii_kR_resultMany hσ_20 0
          have c31 := ii_kR_resultMany hσ_2 0
          have c32 := ii_kR_pointAt hσ_20 0
          have c33 := ii_kR_pointAt hσ_2 0
          exact wp_some ⟨hσ_20, frσ_20, (by (try dsimp only) <;> first | assumption | omega | ((try simp (disch := omega) only [w32_of, w64_of, w8_of]) <;> first | assumption | omega | (split <;> omega) | (refine And.intro ?_ ?_ <;> split <;> omega)) | omega), (by (try dsimp only) <;> first | assumption | omega | ((try simp (disch := omega) only [w32_of, w64_of, w8_of]) <;> first | assumption | omega | (split <;> omega) | (refine And.intro ?_ ?_ <;> split <;> omega)) | omega)⟩
      rintro σ_30 _ ⟨hσ_30, frσ_30, g34, g35⟩
      have c36 := ii_kR_pointAt hσ_30 0
      have c37 := w32_rng (σ_30 kR_pointAt 0)
      refine wp_rdI (by (try dsimp only) <;> first | assumption | omega | ((try simp (disch := omega) only [w32_of, w64_of, w8_of]) <;> first | assumption | omega | (split <;> omega) | (refine And.intro ?_ ?_ <;> split <;> omega)) | omega) (by (try dsimp only) <;> first | assumption | omega | ((try simp (disch := omega) only [w32_of, w64_of, w8_of]) <;> first | assumption | omega | (split <;> omega) | (refine And.intro ?_ ?_ <;> split <;> omega)) | omega) (fun x_31 e_x_31 => ?_)
      have b_x_31 : (-1000000000) ≤ x_31 ∧ x_31 ≤ 1000000000 := by rw [e_x_31]; exact ii_kR_xs hσ_30 _
      rw [FR_at frσ_30 (c := kR_xs) (by decide)] at e_x_31
      try simp (disch := omega) only [w32_of, w64_of, w8_of] at e_x_31
      have c38 := ii_kR_xs hσ_30 (σ_30 kR_pointAt 0)
      have c39 := FR_at frσ_30 (c := kR_xs) (by decide) (σ_30 kR_pointAt 0)
      have c40 := ii_kR_xs hσ (σ_30 kR_pointAt 0)
      have c41 := ii_kR_resultMany hσ_30 0
      refine wp_bd (v_putNumber (σ := σ_30) (v_0 := x_31) hσ_30 (by (try dsimp only) <;> first | assumption | omega | ((try simp (disch := omega) only [w32_of, w64_of, w8_of]) <;> first | assumption | omega | (split <;> omega) | (refine And.intro ?_ ?_ <;> split <;> omega)) | omega) (UNt_f frσ_30 (by decide) w0) (by (try dsimp only) <;> first | assumption | omega | ((try simp (disch := omega) only [w32_of, w64_of, w8_of]) <;> first | assumption | omega | (split <;> omega) | (refine And.intro ?_ ?_ <;> split <;> omega)) | omega)) ?_
      rintro σ_34 - ⟨hσ_34, flσ_34, g42⟩
      have frσ_34 : FR [kR_pointAt, kR_result, kR_resultMany] σ σ_34 := FR_tr frσ_30 flσ_34 (by decide) (by decide)
      have c43 := ii_kR_resultMany hσ_34 0
      try simp (disch := omega) only [w32_of, w64_of, w8_of] at g42
      refine wp_bd (s_R_put (σ := σ_34) (c_0 := 32) hσ_34 (by (try dsimp only) <;> first | assumption | omega | ((try simp (disch := omega) only [w32_of, w64_of, w8_of]) <;> first | assumption | omega | (split <;> omega) | (refine And.intro ?_ ?_ <;> split <;> omega)) | omega) (by (try dsimp only) <;> first | assumption | omega | ((try simp (disch := omega) only [w32_of, w64_of, w8_of]) <;> first | assumption | omega | (split <;> omega) | (refine And.intro ?_ ?_ <;> split <;> omega)) | omega)) ?_
      rintro σ_36 - ⟨hσ_36, flσ_36, g44⟩
      have frσ_36 : FR [kR_pointAt, kR_result, kR_resultMany] σ σ_36 := FR_tr frσ_34 flσ_36 (by decide) (by decide)
      have c45 := ii_kR_resultMany hσ_36 0
      try simp (disch := omega) only [w32_of, w64_of, w8_of] at g44
      have c46 := ii_kR_pointAt hσ_36 0
      have c47 := FR_at flσ_36 (c := kR_pointAt) (by decide) 0
      have c48 := ii_kR_pointAt hσ_34 0
      have c49 := FR_at flσ_34 (c := kR_pointAt) (by decide) 0
      have c50 := w32_rng (σ_36 kR_pointAt 0)
      refine wp_rdI (by (try dsimp only) <;> first | assumption | omega | ((try simp (disch := omega) only [w32_of, w64_of, w8_of]) <;> first | assumption | omega | (split <;> omega) | (refine And.intro ?_ ?_ <;> split <;> omega)) | omega) (by (try dsimp only) <;> first | assumption | omega | ((try simp (disch := omega) only [w32_of, w64_of, w8_of]) <;> first | assumption | omega | (split <;> omega) | (refine And.intro ?_ ?_ <;> split <;> omega)) | omega) (fun x_37 e_x_37 => ?_)
      have b_x_37 : (-1000000000) ≤ x_37 ∧ x_37 ≤ 1000000000 := by rw [e_x_37]; exact ii_kR_ys hσ_36 _
      rw [FR_at frσ_36 (c := kR_ys) (by decide)] at e_x_37
      try simp (disch := omega) only [w32_of, w64_of, w8_of] at e_x_37
      have c51 := ii_kR_ys hσ_36 (σ_36 kR_pointAt 0)
      have c52 := FR_at flσ_36 (c := kR_ys) (by decide) (σ_36 kR_pointAt 0)
      have c53 := ii_kR_ys hσ_34 (σ_36 kR_pointAt 0)
      have c54 := FR_at flσ_34 (c := kR_ys) (by decide) (σ_36 kR_pointAt 0)
      have c55 := ii_kR_ys hσ_30 (σ_36 kR_pointAt 0)
      have c56 := FR_at frσ_30 (c := kR_ys) (by decide) (σ_36 kR_pointAt 0)
      have c57 := ii_kR_ys hσ (σ_36 kR_pointAt 0)
      refine wp_bd (v_putNumber (σ := σ_36) (v_0 := x_37) hσ_36 (by (try dsimp only) <;> first | assumption | omega | ((try simp (disch := omega) only [w32_of, w64_of, w8_of]) <;> first | assumption | omega | (split <;> omega) | (refine And.intro ?_ ?_ <;> split <;> omega)) | omega) (UNt_f frσ_36 (by decide) w0) (by (try dsimp only) <;> first | assumption | omega | ((try simp (disch := omega) only [w32_of, w64_of, w8_of]) <;> first | assumption | omega | (split <;> omega) | (refine And.intro ?_ ?_ <;> split <;> omega)) | omega)) ?_
      rintro σ_40 - ⟨hσ_40, flσ_40, g58⟩
      have frσ_40 : FR [kR_pointAt, kR_result, kR_resultMany] σ σ_40 := FR_tr frσ_36 flσ_40 (by decide) (by decide)
      have c59 := ii_kR_resultMany hσ_40 0
      try simp (disch := omega) only [w32_of, w64_of, w8_of] at g58
      have c60 := ii_kR_pointAt hσ_40 0
      have c61 := FR_at flσ_40 (c := kR_pointAt) (by decide) 0
      refine wp_wfI hσ_40 b_kR_pointAt (by (try dsimp only) <;> first | assumption | omega | ((try simp (disch := omega) only [w32_of, w64_of, w8_of]) <;> first | assumption | omega | (split <;> omega) | (refine And.intro ?_ ?_ <;> split <;> omega)) | omega) (fun σ_41 hσ_41 eσ_41 => ?_)
      try simp (disch := omega) only [w32_of, w64_of, w8_of] at eσ_41
      have flσ_41 := FR_sg eσ_41
      have frσ_41 : FR [kR_pointAt, kR_result, kR_resultMany] σ σ_41 := FR_tr frσ_40 flσ_41 (by decide) (by decide)
      have c62 := ii_kR_pointAt hσ_41 0
      have c63 := sg_val eσ_41
      have c64 := ii_kR_resultMany hσ_41 0
      have c65 := FR_at flσ_41 (c := kR_resultMany) (by decide) 0
      exact wp_some (x_inl ⟨⟨hσ_41, frσ_41, (by (try dsimp only) <;> first | assumption | omega | ((try simp (disch := omega) only [w32_of, w64_of, w8_of]) <;> first | assumption | omega | (split <;> omega) | (refine And.intro ?_ ?_ <;> split <;> omega)) | omega), (by (try dsimp only) <;> first | assumption | omega | ((try simp (disch := omega) only [w32_of, w64_of, w8_of]) <;> first | assumption | omega | (split <;> omega) | (refine And.intro ?_ ?_ <;> split <;> omega)) | omega), (by (try dsimp only) <;> first | assumption | omega | ((try simp (disch := omega) only [w32_of, w64_of, w8_of]) <;> first | assumption | omega | (split <;> omega) | (refine And.intro ?_ ?_ <;> split <;> omega)) | omega)⟩, (by (try dsimp only) <;> first | assumption | omega | ((try simp (disch := omega) only [w32_of, w64_of, w8_of]) <;> first | assumption | omega | (split <;> omega) | (refine And.intro ?_ ?_ <;> split <;> omega)) | omega)⟩)
    · try simp (disch := omega) only [w32_of, w64_of, w8_of, decide_eq_true_eq, decide_eq_false_iff_not, Bool.not_eq_true] at c7
      have c66 := ii_kR_pointAt hσ_2 0
      have c67 := ii_kR_resultMany hσ_2 0
      exact wp_some (x_inr ⟨hσ_2, frσ_2, (by (try dsimp only) <;> first | assumption | omega | ((try simp (disch := omega) only [w32_of, w64_of, w8_of]) <;> first | assumption | omega | (split <;> omega) | (refine And.intro ?_ ?_ <;> split <;> omega)) | omega), (by (try dsimp only) <;> first | assumption | omega | ((try simp (disch := omega) only [w32_of, w64_of, w8_of]) <;> first | assumption | omega | (split <;> omega) | (refine And.intro ?_ ?_ <;> split <;> omega)) | omega)⟩)
  rintro ⟨k_46, σ_47⟩ _ y70
  try dsimp only at y70 ⊢
  obtain ⟨hσ_47, frσ_47, g68, g69⟩ := y70
  have c71 := ii_kR_pointAt hσ_47 0
  have c72 := ii_kR_resultMany hσ_47 0
  exact wp_some ⟨hσ_47, frσ_47, (by (try dsimp only) <;> first | assumption | omega | ((try simp (disch := omega) only [w32_of, w64_of, w8_of]) <;> first | assumption | omega | (split <;> omega) | (refine And.intro ?_ ?_ <;> split <;> omega)) | omega), (by (try dsimp only) <;> first | assumption | omega | ((try simp (disch := omega) only [w32_of, w64_of, w8_of]) <;> first | assumption | omega | (split <;> omega) | (refine And.intro ?_ ?_ <;> split <;> omega)) | omega)⟩
theorem v_putRings {σ : SG} {n_0 : Int} (hσ : II σ) (w0 : UNt σ) (w1 : 0 ≤ n_0) (w2 : σ kR_planAt 0 + n_0 ≤ 67584) (w3 : ∀ i, σ kR_planAt 0 ≤ i → i < σ kR_planAt 0 + n_0 → 0 ≤ σ kR_plan i) (w4 : σ kR_pointAt 0 + su_ (σ kR_plan) (σ kR_planAt 0) (n_0).toNat ≤ 67584) (w5 : σ kR_resultMany 0 + 4 * n_0 + 33 * su_ (σ kR_plan) (σ kR_planAt 0) (n_0).toNat ≤ 131072) : wp_ (fR_putRings σ n_0) (fun zz_ => II zz_ ∧ FR [kR_planAt, kR_pointAt, kR_result, kR_resultMany] σ zz_ ∧ (zz_ kR_planAt 0 = σ kR_planAt 0 + n_0) ∧ (zz_ kR_pointAt 0 = σ kR_pointAt 0 + su_ (σ kR_plan) (σ kR_planAt 0) (n_0).toNat) ∧ (zz_ kR_resultMany 0 ≤ σ kR_resultMany 0 + 4 * n_0 + 33 * su_ (σ kR_plan) (σ kR_planAt 0) (n_0).toNat)) := by
  unfold fR_putRings
  have c1 := ii_kR_planAt hσ 0
  have c2 := ii_kR_pointAt hσ 0
  have c3 := ii_kR_resultMany hσ 0
  have hp0 := ii_kR_pointAt hσ 0
  have hq0 := ii_kR_planAt hσ 0
  refine wp_bd (P := fun rr_ => II rr_.2 ∧ FR [kR_planAt, kR_pointAt, kR_result, kR_resultMany] σ rr_.2 ∧ (rr_.2 kR_planAt 0 = σ kR_planAt 0 + n_0) ∧ (rr_.2 kR_pointAt 0 = σ kR_pointAt 0 + su_ (σ kR_plan) (σ kR_planAt 0) (n_0).toNat) ∧ (rr_.2 kR_resultMany 0 ≤ σ kR_resultMany 0 + 4 * n_0 + 33 * su_ (σ kR_plan) (σ kR_planAt 0) (n_0).toNat)) ?_ ?_
  · refine wp_whl (fun ss_ => II ss_.2 ∧ FR [kR_planAt, kR_pointAt, kR_result, kR_resultMany] σ ss_.2 ∧ (0 ≤ ss_.1 ∧ ss_.1 ≤ n_0) ∧ (ss_.2 kR_planAt 0 = σ kR_planAt 0 + ss_.1) ∧ (ss_.2 kR_pointAt 0 = σ kR_pointAt 0 + su_ (σ kR_plan) (σ kR_planAt 0) (ss_.1).toNat) ∧ (ss_.2 kR_resultMany 0 ≤ σ kR_resultMany 0 + 4 * ss_.1 + 33 * su_ (σ kR_plan) (σ kR_planAt 0) (ss_.1).toNat)) (fun ss_ => (n_0 - ss_.1).toNat) ⟨hσ, (FR_refl _ _), (by (try dsimp only) <;> first | assumption | omega | ((try simp (disch := omega) only [w32_of, w64_of, w8_of]) <;> first | assumption | omega | (split <;> omega) | (refine And.intro ?_ ?_ <;> split <;> omega)) | omega), (by (try dsimp only) <;> first | assumption | omega | ((try simp (disch := omega) only [w32_of, w64_of, w8_of]) <;> first | assumption | omega | (split <;> omega) | (refine And.intro ?_ ?_ <;> split <;> omega)) | omega), (by (try dsimp only) <;> (first | (show _ = _ + (0 : Int); omega) | omega)), (by (try dsimp only) <;> (first | (show _ ≤ _ + 33 * (0 : Int); omega) | omega))⟩ ?_
    rintro ⟨k_1, σ_2⟩ y6
    try dsimp only at y6 ⊢
    obtain ⟨hσ_2, frσ_2, g4, g5, gp, gr⟩ := y6
    have c8 := w32_rng k_1
    have c9 := w32_rng n_0
    refine wp_if (fun c7 => ?_) (fun c7 => ?_)
    · try simp (disch := omega) only [w32_of, w64_of, w8_of, decide_eq_true_eq, decide_eq_false_iff_not, Bool.not_eq_true] at c7
      have hs1 := su_i (pl := σ kR_plan) (p := σ kR_planAt 0) (k := k_1) (by omega)
      have hs2 := su_le (pl := σ kR_plan) (p := σ kR_planAt 0) (m := (k_1 + 1).toNat) (n := n_0.toNat) (by omega) (fun i a b => w3 i a (by omega))
      have hs3 := w3 (σ kR_planAt 0 + k_1) (by omega) (by omega)
      have hs4 := su_nn (pl := σ kR_plan) (p := σ kR_planAt 0) (n := k_1.toNat) (fun i a b => w3 i a (by omega))
      refine wp_bd (P := fun rr_ => II rr_ ∧ FR [kR_planAt, kR_pointAt, kR_result, kR_resultMany] σ rr_ ∧ (rr_ kR_resultMany 0 ≤ σ_2 kR_resultMany 0 + 1) ∧ (rr_ kR_pointAt 0 = σ_2 kR_pointAt 0) ∧ (rr_ kR_planAt 0 = σ_2 kR_planAt 0)) ?_ ?_
      · refine wp_if (fun c10 => ?_) (fun c10 => ?_)
        · try simp (disch := omega) only [w32_of, w64_of, w8_of, decide_eq_true_eq, decide_eq_false_iff_not, Bool.not_eq_true] at c10
          have c11 := ii_kR_resultMany hσ_2 0
          refine wp_bd (s_R_put (σ := σ_2) (c_0 := 44) hσ_2 (by (try dsimp only) <;> first | assumption | omega | ((try simp (disch := omega) only [w32_of, w64_of, w8_of]) <;> first | assumption | omega | (split <;> omega) | (refine And.intro ?_ ?_ <;> split <;> omega)) | omega) (by (try dsimp only) <;> first | assumption | omega | ((try simp (disch := omega) only [w32_of, w64_of, w8_of]) <;> first | assumption | omega | (split <;> omega) | (refine And.intro ?_ ?_ <;> split <;> omega)) | omega)) ?_
          rintro σ_17 - ⟨hσ_17, flσ_17, g12⟩
          have frσ_17 : FR [kR_planAt, kR_pointAt, kR_result, kR_resultMany] σ σ_17 := FR_tr frσ_2 flσ_17 (by decide) (by decide)
          have c13 := ii_kR_resultMany hσ_17 0
          try simp (disch := omega) only [w32_of, w64_of, w8_of] at g12
          have c14 := ii_kR_pointAt hσ_17 0
          have c15 := FR_at flσ_17 (c := kR_pointAt) (by decide) 0
          have c16 := ii_kR_pointAt hσ_2 0
          have c17 := ii_kR_planAt hσ_17 0
          have c18 := FR_at flσ_17 (c := kR_planAt) (by decide) 0
          have c19 := ii_kR_planAt hσ_2 0
          exact wp_some ⟨hσ_17, frσ_17, (by (try dsimp only) <;> first | assumption | omega | ((try simp (disch := omega) only [w32_of, w64_of, w8_of]) <;> first | assumption | omega | (split <;> omega) | (refine And.intro ?_ ?_ <;> split <;> omega)) | omega), (by (try dsimp only) <;> first | assumption | omega | ((try simp (disch := omega) only [w32_of, w64_of, w8_of]) <;> first | assumption | omega | (split <;> omega) | (refine And.intro ?_ ?_ <;> split <;> omega)) | omega), (by (try dsimp only) <;> first | assumption | omega | ((try simp (disch := omega) only [w32_of, w64_of, w8_of]) <;> first | assumption | omega | (split <;> omega) | (refine And.intro ?_ ?_ <;> split <;> omega)) | omega)⟩
        · try simp (disch := omega) only [w32_of, w64_of, w8_of, decide_eq_true_eq, decide_eq_false_iff_not, Bool.not_eq_true] at c10
          have c20 := ii_kR_resultMany hσ_2 0
          have c21 := ii_kR_pointAt hσ_2 0
          have c22 := ii_kR_planAt hσ_2 0
          exact wp_some ⟨hσ_2, frσ_2, (by (try dsimp only) <;> first | assumption | omega | ((try simp (disch := omega) only [w32_of, w64_of, w8_of]) <;> first | assumption | omega | (split <;> omega) | (refine And.intro ?_ ?_ <;> split <;> omega)) | omega), (by (try dsimp only) <;> first | assumption | omega | ((try simp (disch := omega) only [w32_of, w64_of, w8_of]) <;> first | assumption | omega | (split <;> omega) | (refine And.intro ?_ ?_ <;> split <;> omega)) | omega), (by (try dsimp only) <;> first | assumption | omega | ((try simp (disch := omega) only [w32_of, w64_of, w8_of]) <;> first | assumption | omega | (split <;> omega) | (refine And.intro ?_ ?_ <;> split <;> omega)) | omega)⟩
      rintro σ_20 _ ⟨hσ_20, frσ_20, g23, g24, g25⟩
      refine wp_bd (P := fun rr_ => II rr_ ∧ FR [kR_planAt, kR_pointAt, kR_result, kR_resultMany] σ rr_ ∧ (rr_ kR_resultMany 0 ≤ σ_2 kR_resultMany 0 + 2) ∧ (rr_ kR_pointAt 0 = σ_2 kR_pointAt 0) ∧ (rr_ kR_planAt 0 = σ_2 kR_planAt 0)) ?_ ?_
      · refine wp_if (fun c26 => ?_) (fun c26 => ?_)
        · try simp (disch := omega) only [w32_of, w64_of, w8_of, decide_eq_true_eq, decide_eq_false_iff_not, Bool.not_eq_true] at c26
          have c27 := ii_kR_resultMany hσ_20 0
          refine wp_bd (s_R_put (σ := σ_20) (c_0 := 32) hσ_20 (by (try dsimp only) <;> first | assumption | omega | ((try simp (disch := omega) only [w32_of, w64_of, w8_of]) <;> first | assumption | omega | (split <;> omega) | (refine And.intro ?_ ?_ <;> split <;> omega)) | omega) (by (try dsimp only) <;> first | assumption | omega | ((try simp (disch := omega) only [w32_of, w64_of, w8_of]) <;> first | assumption | omega | (split <;> omega) | (refine And.intro ?_ ?_ <;> split <;> omega)) | omega)) ?_
          rintro σ_27 - ⟨hσ_27, flσ_27, g28⟩
          have frσ_27 : FR [kR_planAt, kR_pointAt, kR_result, kR_resultMany] σ σ_27 := FR_tr frσ_20 flσ_27 (by decide) (by decide)
          have c29 := ii_kR_resultMany hσ_27 0
          try simp (disch := omega) only [w32_of, w64_of, w8_of] at g28
          have c30 := ii_kR_resultMany hσ_2 0
          have c31 := ii_kR_pointAt hσ_27 0
          have c32 := FR_at flσ_27 (c := kR_pointAt) (by decide) 0
          have c33 := ii_kR_pointAt hσ_20 0
          have c34 := ii_kR_pointAt hσ_2 0
          have c35 := ii_kR_planAt hσ_27 0
          have c36 := FR_at flσ_27 (c := kR_planAt) (by decide) 0
          have c37 := ii_kR_planAt hσ_20 0
          have c38 := ii_kR_planAt hσ_2 0
          exact wp_some ⟨hσ_27, frσ_27, (by (try dsimp only) <;> first | assumption | omega | ((try simp (disch := omega) only [w32_of, w64_of, w8_of]) <;> first | assumption | omega | (split <;> omega) | (refine And.intro ?_ ?_ <;> split <;> omega)) | omega), (by (try dsimp only) <;> first | assumption | omega | ((try simp (disch := omega) only [w32_of, w64_of, w8_of]) <;> first | assumption | omega | (split <;> omega) | (refine And.intro ?_ ?_ <;> split <;> omega)) | omega), (by (try dsimp only) <;> first | assumption | omega | ((try simp (disch := omega) only [w32_of, w64_of, w8_of]) <;> first | assumption | omega | (split <;> omega) | (refine And.intro ?_ ?_ <;> split <;> omega)) | omega)⟩
        · try simp (disch := omega) only [w32_of, w64_of, w8_of, decide_eq_true_eq, decide_eq_false_iff_not, Bool.not_eq_true] at c26
          have c39 := ii_kR_resultMany hσ_20 0
          have c40 := ii_kR_resultMany hσ_2 0
          have c41 := ii_kR_pointAt hσ_20 0
          have c42 := ii_kR_pointAt hσ_2 0
          have c43 := ii_kR_planAt hσ_20 0
          have c44 := ii_kR_planAt hσ_2 0
          exact wp_some ⟨hσ_20, frσ_20, (by (try dsimp only) <;> first | assumption | omega | ((try simp (disch := omega) only [w32_of, w64_of, w8_of]) <;> first | assumption | omega | (split <;> omega) | (refine And.intro ?_ ?_ <;> split <;> omega)) | omega), (by (try dsimp only) <;> first | assumption | omega | ((try simp (disch := omega) only [w32_of, w64_of, w8_of]) <;> first | assumption | omega | (split <;> omega) | (refine And.intro ?_ ?_ <;> split <;> omega)) | omega), (by (try dsimp only) <;> first | assumption | omega | ((try simp (disch := omega) only [w32_of, w64_of, w8_of]) <;> first | assumption | omega | (split <;> omega) | (refine And.intro ?_ ?_ <;> split <;> omega)) | omega)⟩
      rintro σ_30 _ ⟨hσ_30, frσ_30, g45, g46, g47⟩
      have c48 := ii_kR_resultMany hσ_30 0
      refine wp_bd (s_R_put (σ := σ_30) (c_0 := 40) hσ_30 (by (try dsimp only) <;> first | assumption | omega | ((try simp (disch := omega) only [w32_of, w64_of, w8_of]) <;> first | assumption | omega | (split <;> omega) | (refine And.intro ?_ ?_ <;> split <;> omega)) | omega) (by (try dsimp only) <;> first | assumption | omega | ((try simp (disch := omega) only [w32_of, w64_of, w8_of]) <;> first | assumption | omega | (split <;> omega) | (refine And.intro ?_ ?_ <;> split <;> omega)) | omega)) ?_
      rintro σ_32 - ⟨hσ_32, flσ_32, g49⟩
      have frσ_32 : FR [kR_planAt, kR_pointAt, kR_result, kR_resultMany] σ σ_32 := FR_tr frσ_30 flσ_32 (by decide) (by decide)
      have c50 := ii_kR_resultMany hσ_32 0
      try simp (disch := omega) only [w32_of, w64_of, w8_of] at g49
      have c51 := ii_kR_planAt hσ_32 0
      have c52 := FR_at flσ_32 (c := kR_planAt) (by decide) 0
      have c53 := ii_kR_planAt hσ_30 0
      refine wp_bd (v_next (σ := σ_32) hσ_32 (by (try dsimp only) <;> first | assumption | omega | ((try simp (disch := omega) only [w32_of, w64_of, w8_of]) <;> first | assumption | omega | (split <;> omega) | (refine And.intro ?_ ?_ <;> split <;> omega)) | omega)) ?_
      rintro ⟨x_35, σ_34⟩ - y54
      try dsimp only at y54 ⊢
      obtain ⟨hσ_34, flσ_34, nx1, nx2⟩ := y54
      have frσ_34 : FR [kR_planAt, kR_pointAt, kR_result, kR_resultMany] σ σ_34 := FR_tr frσ_32 flσ_34 (by decide) (by decide)
      have c55 := ii_kR_planAt hσ_34 0
      try simp (disch := omega) only [w32_of, w64_of, w8_of] at nx1
      have c56 := FR_at flσ_32 (c := kR_plan) (by decide) (σ_32 kR_planAt 0)
      have c57 := FR_at frσ_30 (c := kR_plan) (by decide) (σ_32 kR_planAt 0)
      try simp (disch := omega) only [w32_of, w64_of, w8_of] at nx2
      have hx35 : x_35 = σ kR_plan (σ kR_planAt 0 + k_1) := by rw [nx2, show σ_32 kR_planAt 0 = σ kR_planAt 0 + k_1 by omega]; exact FR_at frσ_32 (by decide) _
      have c58 := ii_kR_pointAt hσ_34 0
      have c59 := FR_at flσ_34 (c := kR_pointAt) (by decide) 0
      have c60 := ii_kR_pointAt hσ_32 0
      have c61 := FR_at flσ_32 (c := kR_pointAt) (by decide) 0
      have c62 := ii_kR_pointAt hσ_30 0
      have c63 := ii_kR_resultMany hσ_34 0
      have c64 := FR_at flσ_34 (c := kR_resultMany) (by decide) 0
      refine wp_bd (v_putRow (σ := σ_34) (n_0 := x_35) hσ_34 (UNt_f frσ_34 (by decide) w0) (by (try dsimp only) <;> first | assumption | omega | ((try simp (disch := omega) only [w32_of, w64_of, w8_of]) <;> first | assumption | omega | (split <;> omega) | (refine And.intro ?_ ?_ <;> split <;> omega)) | omega) (by (try dsimp only) <;> first | assumption | omega | ((try simp (disch := omega) only [w32_of, w64_of, w8_of]) <;> first | assumption | omega | (split <;> omega) | (refine And.intro ?_ ?_ <;> split <;> omega)) | omega) (by (try dsimp only) <;> first | assumption | omega | ((try simp (disch := omega) only [w32_of, w64_of, w8_of]) <;> first | assumption | omega | (split <;> omega) | (refine And.intro ?_ ?_ <;> split <;> omega)) | omega)) ?_
      rintro σ_37 - ⟨hσ_37, flσ_37, g65, g66⟩
      have frσ_37 : FR [kR_planAt, kR_pointAt, kR_result, kR_resultMany] σ σ_37 := FR_tr frσ_34 flσ_37 (by decide) (by decide)
      have c67 := ii_kR_pointAt hσ_37 0
      try simp (disch := omega) only [w32_of, w64_of, w8_of] at g65
      have c68 := ii_kR_resultMany hσ_37 0
      try simp (disch := omega) only [w32_of, w64_of, w8_of] at g66
      refine wp_bd (s_R_put (σ := σ_37) (c_0 := 41) hσ_37 (by (try dsimp only) <;> first | assumption | omega | ((try simp (disch := omega) only [w32_of, w64_of, w8_of]) <;> first | assumption | omega | (split <;> omega) | (refine And.intro ?_ ?_ <;> split <;> omega)) | omega) (by (try dsimp only) <;> first | assumption | omega | ((try simp (disch := omega) only [w32_of, w64_of, w8_of]) <;> first | assumption | omega | (split <;> omega) | (refine And.intro ?_ ?_ <;> split <;> omega)) | omega)) ?_
      rintro σ_39 - ⟨hσ_39, flσ_39, g69⟩
      have frσ_39 : FR [kR_planAt, kR_pointAt, kR_result, kR_resultMany] σ σ_39 := FR_tr frσ_37 flσ_39 (by decide) (by decide)
      have c70 := ii_kR_resultMany hσ_39 0
      try simp (disch := omega) only [w32_of, w64_of, w8_of] at g69
      have c71 := ii_kR_planAt hσ_39 0
      have c72 := FR_at flσ_39 (c := kR_planAt) (by decide) 0
      have c73 := ii_kR_planAt hσ_37 0
      have c74 := FR_at flσ_37 (c := kR_planAt) (by decide) 0
      have c75 := ii_kR_pointAt hσ_39 0
      have c76 := FR_at flσ_39 (c := kR_pointAt) (by decide) 0
      exact wp_some (x_inl ⟨⟨hσ_39, frσ_39, (by (try dsimp only) <;> first | assumption | omega | ((try simp (disch := omega) only [w32_of, w64_of, w8_of]) <;> first | assumption | omega | (split <;> omega) | (refine And.intro ?_ ?_ <;> split <;> omega)) | omega), (by (try dsimp only) <;> first | assumption | omega | ((try simp (disch := omega) only [w32_of, w64_of, w8_of]) <;> first | assumption | omega | (split <;> omega) | (refine And.intro ?_ ?_ <;> split <;> omega)) | omega), (by (try dsimp only) <;> (first | (show _ = _ + (0 : Int); omega) | omega)), (by (try dsimp only) <;> (first | (show _ ≤ _ + 33 * (0 : Int); omega) | omega))⟩, (by (try dsimp only) <;> first | assumption | omega | ((try simp (disch := omega) only [w32_of, w64_of, w8_of]) <;> first | assumption | omega | (split <;> omega) | (refine And.intro ?_ ?_ <;> split <;> omega)) | omega)⟩)
    · try simp (disch := omega) only [w32_of, w64_of, w8_of, decide_eq_true_eq, decide_eq_false_iff_not, Bool.not_eq_true] at c7
      have c77 := ii_kR_planAt hσ_2 0
      have c78 := ii_kR_pointAt hσ_2 0
      have c79 := ii_kR_resultMany hσ_2 0
      exact wp_some (x_inr ⟨hσ_2, frσ_2, (by (try dsimp only) <;> first | assumption | omega | ((try simp (disch := omega) only [w32_of, w64_of, w8_of]) <;> first | assumption | omega | (split <;> omega) | (refine And.intro ?_ ?_ <;> split <;> omega)) | omega), (by (try dsimp only) <;> (rw [show n_0 = k_1 by omega]; exact gp)), (by (try dsimp only) <;> (rw [show n_0 = k_1 by omega]; exact gr))⟩)
  rintro ⟨k_44, σ_45⟩ _ y83
  try dsimp only at y83 ⊢
  obtain ⟨hσ_45, frσ_45, g80, g81, g82⟩ := y83
  have c84 := ii_kR_planAt hσ_45 0
  have c85 := ii_kR_pointAt hσ_45 0
  have c86 := ii_kR_resultMany hσ_45 0
  exact wp_some ⟨hσ_45, frσ_45, (by (try dsimp only) <;> first | assumption | omega | ((try simp (disch := omega) only [w32_of, w64_of, w8_of]) <;> first | assumption | omega | (split <;> omega) | (refine And.intro ?_ ?_ <;> split <;> omega)) | omega), (by (try dsimp only) <;> first | assumption | omega | ((try simp (disch := omega) only [w32_of, w64_of, w8_of]) <;> first | assumption | omega | (split <;> omega) | (refine And.intro ?_ ?_ <;> split <;> omega)) | omega), (by (try dsimp only) <;> first | assumption | omega | ((try simp (disch := omega) only [w32_of, w64_of, w8_of]) <;> first | assumption | omega | (split <;> omega) | (refine And.intro ?_ ?_ <;> split <;> omega)) | omega)⟩
theorem v_putBody {σ : SG} {kind_0 : Int} {n_0 : Int} (hσ : II σ) (w0 : UNt σ) (w1 : eO (σ kR_plan) (σ kR_planAt 0 - 2)) (w2 : kind_0 = σ kR_plan (σ kR_planAt 0 - 2)) (w3 : n_0 = σ kR_plan ((σ kR_planAt 0 - 2) + 1)) (w4 : kind_0 ≤ 3) (w5 : 2 ≤ σ kR_planAt 0) (w6 : σ kR_planAt 0 - 2 + eL (σ kR_plan) (σ kR_planAt 0 - 2) ≤ 67584) (w7 : σ kR_pointAt 0 + eP (σ kR_plan) (σ kR_planAt 0 - 2) ≤ 67584) (w8 : σ kR_resultMany 0 + bC (σ kR_plan) (σ kR_planAt 0 - 2) ≤ 131072) : wp_ (fR_putBody σ kind_0 n_0) (fun zz_ => II zz_ ∧ FR [kR_planAt, kR_pointAt, kR_result, kR_resultMany] σ zz_ ∧ (zz_ kR_planAt 0 = σ kR_planAt 0 - 2 + eL (σ kR_plan) (σ kR_planAt 0 - 2)) ∧ (zz_ kR_pointAt 0 = σ kR_pointAt 0 + eP (σ kR_plan) (σ kR_planAt 0 - 2)) ∧ (zz_ kR_resultMany 0 ≤ σ kR_resultMany 0 + bC (σ kR_plan) (σ kR_planAt 0 - 2))) := by
  unfold fR_putBody
  have c1 := ii_kR_planAt hσ 0
  have c2 := ii_kR_pointAt hσ 0
  have c3 := ii_kR_resultMany hσ 0
  have hp0 := ii_kR_pointAt hσ 0
  have hq0 := ii_kR_planAt hσ 0
  have ho1 := w1.1
  have ho3 := w1.2.2.1
  have hl2 := eL_2 w1
  have he0 := eP_0 w1
  have hbc : bC (σ kR_plan) (σ kR_planAt 0 - 2) = 18 + 4 * eL (σ kR_plan) (σ kR_planAt 0 - 2) + 33 * eP (σ kR_plan) (σ kR_planAt 0 - 2) := rfl
  have hA : kind_0 < 3 → eL (σ kR_plan) (σ kR_planAt 0 - 2) = 2 ∧ eP (σ kR_plan) (σ kR_planAt 0 - 2) = n_0 := fun z => ⟨el_n (by omega), by rw [ep_l (by omega), w3]⟩
  have hB : ¬ kind_0 < 3 → eL (σ kR_plan) (σ kR_planAt 0 - 2) = 2 + n_0 ∧ eP (σ kR_plan) (σ kR_planAt 0 - 2) = su_ (σ kR_plan) (σ kR_planAt 0) n_0.toNat := fun z => ⟨by rw [el_3 (by omega), w3], by unfold eP; rw [if_neg (by omega), if_pos (by omega), ← w3, show σ kR_planAt 0 - 2 + 2 = σ kR_planAt 0 by omega]⟩
  have hC : ¬ kind_0 < 3 → ∀ i, σ kR_planAt 0 ≤ i → i < σ kR_planAt 0 + n_0 → 0 ≤ σ kR_plan i := fun z i a b => by
    have y := w1.2.2.2.2 (by omega) (i - σ kR_planAt 0) (by omega) (by omega)
    rw [show σ kR_planAt 0 - 2 + 2 + (i - σ kR_planAt 0) = i by omega] at y
    exact y
  have hz : n_0 = 0 → su_ (σ kR_plan) (σ kR_planAt 0) n_0.toNat = 0 := fun z => by rw [z]; rfl
  have c5 := w32_rng n_0
  refine wp_if (fun c4 => ?_) (fun c4 => ?_)
  · try simp (disch := omega) only [w32_of, w64_of, w8_of, decide_eq_true_eq, decide_eq_false_iff_not, Bool.not_eq_true] at c4
    refine wp_bd (v_putWord (σ := σ) (kind_0 := 8) hσ (by (try dsimp only) <;> first | assumption | omega | ((try simp (disch := omega) only [w32_of, w64_of, w8_of]) <;> first | assumption | omega | (split <;> omega) | (refine And.intro ?_ ?_ <;> split <;> omega)) | omega) (by (try dsimp only) <;> first | assumption | omega | ((try simp (disch := omega) only [w32_of, w64_of, w8_of]) <;> first | assumption | omega | (split <;> omega) | (refine And.intro ?_ ?_ <;> split <;> omega)) | omega)) ?_
    rintro σ_3 - ⟨hσ_3, flσ_3, g6⟩
    have frσ_3 : FR [kR_planAt, kR_pointAt, kR_result, kR_resultMany] σ σ_3 := FR_le flσ_3 (by decide)
    have c7 := ii_kR_resultMany hσ_3 0
    try simp (disch := omega) only [w32_of, w64_of, w8_of] at g6
    have c8 := ii_kR_planAt hσ_3 0
    have c9 := FR_at flσ_3 (c := kR_planAt) (by decide) 0
    have c10 := ii_kR_pointAt hσ_3 0
    have c11 := FR_at flσ_3 (c := kR_pointAt) (by decide) 0
    exact wp_some ⟨hσ_3, frσ_3, (by (try dsimp only) <;> first | assumption | omega | ((try simp (disch := omega) only [w32_of, w64_of, w8_of]) <;> first | assumption | omega | (split <;> omega) | (refine And.intro ?_ ?_ <;> split <;> omega)) | omega), (by (try dsimp only) <;> first | assumption | omega | ((try simp (disch := omega) only [w32_of, w64_of, w8_of]) <;> first | assumption | omega | (split <;> omega) | (refine And.intro ?_ ?_ <;> split <;> omega)) | omega), (by (try dsimp only) <;> first | assumption | omega | ((try simp (disch := omega) only [w32_of, w64_of, w8_of]) <;> first | assumption | omega | (split <;> omega) | (refine And.intro ?_ ?_ <;> split <;> omega)) | omega)⟩
  · try simp (disch := omega) only [w32_of, w64_of, w8_of, decide_eq_true_eq, decide_eq_false_iff_not, Bool.not_eq_true] at c4
    refine wp_bd (s_R_put (σ := σ) (c_0 := 40) hσ (by (try dsimp only) <;> first | assumption | omega | ((try simp (disch := omega) only [w32_of, w64_of, w8_of]) <;> first | assumption | omega | (split <;> omega) | (refine And.intro ?_ ?_ <;> split <;> omega)) | omega) (by (try dsimp only) <;> first | assumption | omega | ((try simp (disch := omega) only [w32_of, w64_of, w8_of]) <;> first | assumption | omega | (split <;> omega) | (refine And.intro ?_ ?_ <;> split <;> omega)) | omega)) ?_
    rintro σ_5 - ⟨hσ_5, flσ_5, g12⟩
    have frσ_5 : FR [kR_planAt, kR_pointAt, kR_result, kR_resultMany] σ σ_5 := FR_le flσ_5 (by decide)
    have c13 := ii_kR_resultMany hσ_5 0
    try simp (disch := omega) only [w32_of, w64_of, w8_of] at g12
    refine wp_bd (P := fun rr_ => II rr_ ∧ FR [kR_planAt, kR_pointAt, kR_result, kR_resultMany] σ rr_ ∧ (rr_ kR_planAt 0 = σ kR_planAt 0 - 2 + eL (σ kR_plan) (σ kR_planAt 0 - 2)) ∧ (rr_ kR_pointAt 0 = σ kR_pointAt 0 + eP (σ kR_plan) (σ kR_planAt 0 - 2)) ∧ (rr_ kR_resultMany 0 ≤ σ kR_resultMany 0 + bC (σ kR_plan) (σ kR_planAt 0 - 2) - 1)) ?_ ?_
    · have c15 := w32_rng kind_0
      refine wp_if (fun c14 => ?_) (fun c14 => ?_)
      · try simp (disch := omega) only [w32_of, w64_of, w8_of, decide_eq_true_eq, decide_eq_false_iff_not, Bool.not_eq_true] at c14
        have c16 := ii_kR_pointAt hσ_5 0
        have c17 := FR_at flσ_5 (c := kR_pointAt) (by decide) 0
        refine wp_bd (v_putRow (σ := σ_5) (n_0 := n_0) hσ_5 (UNt_f frσ_5 (by decide) w0) (by (try dsimp only) <;> first | assumption | omega | ((try simp (disch := omega) only [w32_of, w64_of, w8_of]) <;> first | assumption | omega | (split <;> omega) | (refine And.intro ?_ ?_ <;> split <;> omega)) | omega) (by (try dsimp only) <;> first | assumption | omega | ((try simp (disch := omega) only [w32_of, w64_of, w8_of]) <;> first | assumption | omega | (split <;> omega) | (refine And.intro ?_ ?_ <;> split <;> omega)) | omega) (by (try dsimp only) <;> first | assumption | omega | ((try simp (disch := omega) only [w32_of, w64_of, w8_of]) <;> first | assumption | omega | (split <;> omega) | (refine And.intro ?_ ?_ <;> split <;> omega)) | omega)) ?_
        rintro σ_12 - ⟨hσ_12, flσ_12, g18, g19⟩
        have frσ_12 : FR [kR_planAt, kR_pointAt, kR_result, kR_resultMany] σ σ_12 := FR_tr frσ_5 flσ_12 (by decide) (by decide)
        have c20 := ii_kR_pointAt hσ_12 0
        try simp (disch := omega) only [w32_of, w64_of, w8_of] at g18
        have c21 := ii_kR_resultMany hσ_12 0
        try simp (disch := omega) only [w32_of, w64_of, w8_of] at g19
        have c22 := ii_kR_planAt hσ_12 0
        have c23 := FR_at flσ_12 (c := kR_planAt) (by decide) 0
        have c24 := ii_kR_planAt hσ_5 0
        have c25 := FR_at flσ_5 (c := kR_planAt) (by decide) 0
        exact wp_some ⟨hσ_12, frσ_12, (by (try dsimp only) <;> first | assumption | omega | ((try simp (disch := omega) only [w32_of, w64_of, w8_of]) <;> first | assumption | omega | (split <;> omega) | (refine And.intro ?_ ?_ <;> split <;> omega)) | omega), (by (try dsimp only) <;> first | assumption | omega | ((try simp (disch := omega) only [w32_of, w64_of, w8_of]) <;> first | assumption | omega | (split <;> omega) | (refine And.intro ?_ ?_ <;> split <;> omega)) | omega), (by (try dsimp only) <;> first | assumption | omega | ((try simp (disch := omega) only [w32_of, w64_of, w8_of]) <;> first | assumption | omega | (split <;> omega) | (refine And.intro ?_ ?_ <;> split <;> omega)) | omega)⟩
      · try simp (disch := omega) only [w32_of, w64_of, w8_of, decide_eq_true_eq, decide_eq_false_iff_not, Bool.not_eq_true] at c14
        have hC2 := hC (by omega)
        have pl5 : σ_5 kR_plan = σ kR_plan := funext (FR_at frσ_5 (by decide))
        have pa5 : σ_5 kR_planAt 0 = σ kR_planAt 0 := FR_at flσ_5 (c := kR_planAt) (by decide) 0
        have pb5 : σ_5 kR_pointAt 0 = σ kR_pointAt 0 := FR_at flσ_5 (c := kR_pointAt) (by decide) 0
        have c26 := ii_kR_planAt hσ_5 0
        have c27 := FR_at flσ_5 (c := kR_planAt) (by decide) 0
        have c28 := ii_kR_pointAt hσ_5 0
        have c29 := FR_at flσ_5 (c := kR_pointAt) (by decide) 0
        refine wp_bd (v_putRings (σ := σ_5) (n_0 := n_0) hσ_5 (UNt_f frσ_5 (by decide) w0) (by (try dsimp only) <;> first | assumption | omega | ((try simp (disch := omega) only [w32_of, w64_of, w8_of]) <;> first | assumption | omega | (split <;> omega) | (refine And.intro ?_ ?_ <;> split <;> omega)) | omega) (by (try dsimp only) <;> first | assumption | omega | ((try simp (disch := omega) only [w32_of, w64_of, w8_of]) <;> first | assumption | omega | (split <;> omega) | (refine And.intro ?_ ?_ <;> split <;> omega)) | omega) (by rw [pl5, pa5]; exact hC2) (by rw [pl5, pa5, pb5]; omega) (by rw [pl5, pa5]; omega)) ?_
        rintro σ_15 - ⟨hσ_15, flσ_15, pr1, pr2, pr3⟩
        have frσ_15 : FR [kR_planAt, kR_pointAt, kR_result, kR_resultMany] σ σ_15 := FR_tr frσ_5 flσ_15 (by decide) (by decide)
        have c30 := ii_kR_planAt hσ_15 0
        try simp (disch := omega) only [w32_of, w64_of, w8_of] at pr1
        have c31 := ii_kR_pointAt hσ_15 0
        try simp (disch := omega) only [w32_of, w64_of, w8_of] at pr2
        have c32 := ii_kR_resultMany hσ_15 0
        try simp (disch := omega) only [w32_of, w64_of, w8_of] at pr3
        rw [pl5, pa5] at pr2 pr3
        exact wp_some ⟨hσ_15, frσ_15, (by (try dsimp only) <;> first | assumption | omega | ((try simp (disch := omega) only [w32_of, w64_of, w8_of]) <;> first | assumption | omega | (split <;> omega) | (refine And.intro ?_ ?_ <;> split <;> omega)) | omega), (by (try dsimp only) <;> first | assumption | omega | ((try simp (disch := omega) only [w32_of, w64_of, w8_of]) <;> first | assumption | omega | (split <;> omega) | (refine And.intro ?_ ?_ <;> split <;> omega)) | omega), (by (try dsimp only) <;> first | assumption | omega | ((try simp (disch := omega) only [w32_of, w64_of, w8_of]) <;> first | assumption | omega | (split <;> omega) | (refine And.intro ?_ ?_ <;> split <;> omega)) | omega)⟩
    rintro σ_17 _ ⟨hσ_17, frσ_17, g33, g34, g35⟩
    have c36 := ii_kR_resultMany hσ_17 0
    refine wp_bd (s_R_put (σ := σ_17) (c_0 := 41) hσ_17 (by (try dsimp only) <;> first | assumption | omega | ((try simp (disch := omega) only [w32_of, w64_of, w8_of]) <;> first | assumption | omega | (split <;> omega) | (refine And.intro ?_ ?_ <;> split <;> omega)) | omega) (by (try dsimp only) <;> first | assumption | omega | ((try simp (disch := omega) only [w32_of, w64_of, w8_of]) <;> first | assumption | omega | (split <;> omega) | (refine And.intro ?_ ?_ <;> split <;> omega)) | omega)) ?_
    rintro σ_19 - ⟨hσ_19, flσ_19, g37⟩
    have frσ_19 : FR [kR_planAt, kR_pointAt, kR_result, kR_resultMany] σ σ_19 := FR_tr frσ_17 flσ_19 (by decide) (by decide)
    have c38 := ii_kR_resultMany hσ_19 0
    try simp (disch := omega) only [w32_of, w64_of, w8_of] at g37
    have c39 := ii_kR_planAt hσ_19 0
    have c40 := FR_at flσ_19 (c := kR_planAt) (by decide) 0
    have c41 := ii_kR_planAt hσ_17 0
    have c42 := ii_kR_pointAt hσ_19 0
    have c43 := FR_at flσ_19 (c := kR_pointAt) (by decide) 0
    have c44 := ii_kR_pointAt hσ_17 0
    exact wp_some ⟨hσ_19, frσ_19, (by (try dsimp only) <;> first | assumption | omega | ((try simp (disch := omega) only [w32_of, w64_of, w8_of]) <;> first | assumption | omega | (split <;> omega) | (refine And.intro ?_ ?_ <;> split <;> omega)) | omega), (by (try dsimp only) <;> first | assumption | omega | ((try simp (disch := omega) only [w32_of, w64_of, w8_of]) <;> first | assumption | omega | (split <;> omega) | (refine And.intro ?_ ?_ <;> split <;> omega)) | omega), (by (try dsimp only) <;> first | assumption | omega | ((try simp (disch := omega) only [w32_of, w64_of, w8_of]) <;> first | assumption | omega | (split <;> omega) | (refine And.intro ?_ ?_ <;> split <;> omega)) | omega)⟩
theorem v_putBytes {σ : SG} {v_0 : Int} {n_0 : Int} {order_0 : Int} (hσ : II σ) (qn_0 : 4 ≤ n_0 ∧ n_0 ≤ 8) (qorder_0 : 0 ≤ order_0 ∧ order_0 ≤ 1) (w0 : σ kR_resultMany 0 + n_0 ≤ 131072) : wp_ (fR_putBytes σ v_0 n_0 order_0) (fun zz_ => II zz_ ∧ FR [kR_result, kR_resultMany] σ zz_ ∧ (zz_ kR_resultMany 0 = σ kR_resultMany 0 + n_0)) := by
  unfold fR_putBytes
  have c1 := ii_kR_resultMany hσ 0
  refine wp_bd (P := fun rr_ => II rr_.2 ∧ FR [kR_result, kR_resultMany] σ rr_.2 ∧ (rr_.2 kR_resultMany 0 = σ kR_resultMany 0 + n_0)) ?_ ?_
  · refine wp_whl (fun ss_ => II ss_.2 ∧ FR [kR_result, kR_resultMany] σ ss_.2 ∧ (0 ≤ ss_.1 ∧ ss_.1 ≤ n_0) ∧ (ss_.2 kR_resultMany 0 = σ kR_resultMany 0 + ss_.1)) (fun ss_ => (n_0 - ss_.1).toNat) ⟨hσ, (FR_refl _ _), (by (try dsimp only) <;> first | assumption | omega | ((try simp (disch := omega) only [w32_of, w64_of, w8_of]) <;> first | assumption | omega | (split <;> omega) | (refine And.intro ?_ ?_ <;> split <;> omega)) | omega), (by (try dsimp only) <;> first | assumption | omega | ((try simp (disch := omega) only [w32_of, w64_of, w8_of]) <;> first | assumption | omega | (split <;> omega) | (refine And.intro ?_ ?_ <;> split <;> omega)) | omega)⟩ ?_
    rintro ⟨k_1, σ_2⟩ y4
    try dsimp only at y4 ⊢
    obtain ⟨hσ_2, frσ_2, g2, g3⟩ := y4
    have c6 := w32_rng k_1
    have c7 := w32_rng n_0
    refine wp_if (fun c5 => ?_) (fun c5 => ?_)
    · try simp (disch := omega) only [w32_of, w64_of, w8_of, decide_eq_true_eq, decide_eq_false_iff_not, Bool.not_eq_true] at c5
      have c8 := w32_rng order_0
      have c9 := q_lsr_rng v_0 (8 * (if ((w32 order_0) = 0) then ((n_0 - 1) - k_1) else k_1))
      have c10 := ii_kR_resultMany hσ_2 0
      refine wp_bd (s_R_put (σ := σ_2) (c_0 := (q_lsr v_0 (8 * (if ((w32 order_0) = 0) then ((n_0 - 1) - k_1) else k_1)))) hσ_2 (by (try dsimp only) <;> first | assumption | omega | ((try simp (disch := omega) only [w32_of, w64_of, w8_of]) <;> first | assumption | omega | (split <;> omega) | (refine And.intro ?_ ?_ <;> split <;> omega)) | omega) (by (try dsimp only) <;> first | assumption | omega | ((try simp (disch := omega) only [w32_of, w64_of, w8_of]) <;> first | assumption | omega | (split <;> omega) | (refine And.intro ?_ ?_ <;> split <;> omega)) | omega)) ?_
      rintro σ_13 - ⟨hσ_13, flσ_13, g11⟩
      have frσ_13 : FR [kR_result, kR_resultMany] σ σ_13 := FR_tr frσ_2 flσ_13 (by decide) (by decide)
      have c12 := ii_kR_resultMany hσ_13 0
      try simp (disch := omega) only [w32_of, w64_of, w8_of] at g11
      exact wp_some (x_inl ⟨⟨hσ_13, frσ_13, (by (try dsimp only) <;> first | assumption | omega | ((try simp (disch := omega) only [w32_of, w64_of, w8_of]) <;> first | assumption | omega | (split <;> omega) | (refine And.intro ?_ ?_ <;> split <;> omega)) | omega), (by (try dsimp only) <;> first | assumption | omega | ((try simp (disch := omega) only [w32_of, w64_of, w8_of]) <;> first | assumption | omega | (split <;> omega) | (refine And.intro ?_ ?_ <;> split <;> omega)) | omega)⟩, (by (try dsimp only) <;> first | assumption | omega | ((try simp (disch := omega) only [w32_of, w64_of, w8_of]) <;> first | assumption | omega | (split <;> omega) | (refine And.intro ?_ ?_ <;> split <;> omega)) | omega)⟩)
    · try simp (disch := omega) only [w32_of, w64_of, w8_of, decide_eq_true_eq, decide_eq_false_iff_not, Bool.not_eq_true] at c5
      have c13 := ii_kR_resultMany hσ_2 0
      exact wp_some (x_inr ⟨hσ_2, frσ_2, (by (try dsimp only) <;> first | assumption | omega | ((try simp (disch := omega) only [w32_of, w64_of, w8_of]) <;> first | assumption | omega | (split <;> omega) | (refine And.intro ?_ ?_ <;> split <;> omega)) | omega)⟩)
  rintro ⟨k_17, σ_18⟩ _ y15
  try dsimp only at y15 ⊢
  obtain ⟨hσ_18, frσ_18, g14⟩ := y15
  have c16 := ii_kR_resultMany hσ_18 0
  exact wp_some ⟨hσ_18, frσ_18, (by (try dsimp only) <;> first | assumption | omega | ((try simp (disch := omega) only [w32_of, w64_of, w8_of]) <;> first | assumption | omega | (split <;> omega) | (refine And.intro ?_ ?_ <;> split <;> omega)) | omega)⟩
theorem v_fraction {σ : SG} {v_0 : Int} (hσ : II σ) (qv_0 : (-1000000000) ≤ v_0 ∧ v_0 ≤ 1000000000) : wp_ (fR_fraction σ v_0) (fun zz_ => True) := by
  unfold fR_fraction
  have c2 := w32_rng v_0
  refine wp_if (fun c1 => ?_) (fun c1 => ?_)
  · try simp (disch := omega) only [w32_of, w64_of, w8_of, decide_eq_true_eq, decide_eq_false_iff_not, Bool.not_eq_true] at c1
    exact wp_some trivial
  · try simp (disch := omega) only [w32_of, w64_of, w8_of, decide_eq_true_eq, decide_eq_false_iff_not, Bool.not_eq_true] at c1
    have hu := ii_kR_unit hσ 0
    have hab : 1 ≤ (if v_0 < 0 then -v_0 else v_0) ∧ (if v_0 < 0 then -v_0 else v_0) ≤ 1000000000 := by split <;> omega
    refine wp_bd (P := fun rr_ => (1 ≤ rr_.1 ∧ rr_.1 ≤ 1000000000)) ?_ ?_
    · have c3 := ii_kR_unit hσ 0
      refine wp_whl (fun ss_ => (1 ≤ ss_.1 ∧ ss_.1 ≤ 1000000000)) (fun ss_ => (1000000001 - ss_.1).toNat) (by (try dsimp only) <;> first | assumption | omega | ((try simp (disch := omega) only [w32_of, w64_of, w8_of]) <;> first | assumption | omega | (split <;> omega) | (refine And.intro ?_ ?_ <;> split <;> omega)) | omega) ?_
      rintro ⟨b_3, e_4⟩ y5
      try dsimp only at y5 ⊢
      have g4 := y5
      have c7 := w64_rng (2 * b_3)
      have c8 := w64_rng (if ((w32 v_0) < 0) then (-(w32 v_0)) else (w32 v_0))
      refine wp_if (fun c6 => ?_) (fun c6 => ?_)
      · try simp (disch := omega) only [w32_of, w64_of, w8_of, decide_eq_true_eq, decide_eq_false_iff_not, Bool.not_eq_true] at c6
        exact wp_some (x_inl ⟨(by (try dsimp only) <;> first | assumption | omega | ((try simp (disch := omega) only [w32_of, w64_of, w8_of]) <;> first | assumption | omega | (split <;> omega) | (refine And.intro ?_ ?_ <;> split <;> omega)) | omega), (by (try dsimp only) <;> first | assumption | omega | ((try simp (disch := omega) only [w32_of, w64_of, w8_of]) <;> first | assumption | omega | (split <;> omega) | (refine And.intro ?_ ?_ <;> split <;> omega)) | omega)⟩)
      · try simp (disch := omega) only [w32_of, w64_of, w8_of, decide_eq_true_eq, decide_eq_false_iff_not, Bool.not_eq_true] at c6
        exact wp_some (x_inr (by (try dsimp only) <;> first | assumption | omega | ((try simp (disch := omega) only [w32_of, w64_of, w8_of]) <;> first | assumption | omega | (split <;> omega) | (refine And.intro ?_ ?_ <;> split <;> omega)) | omega))
    rintro ⟨b_15, e_16⟩ _ y10
    try dsimp only at y10 ⊢
    have g9 := y10
    refine wp_bd (P := fun rr_ => True) ?_ ?_
    · refine wp_whl (fun ss_ => (1 ≤ ss_.1 ∧ ss_.1 ≤ 2000000000)) (fun ss_ => (2000000001 - ss_.1).toNat) (by (try dsimp only) <;> first | assumption | omega | ((try simp (disch := omega) only [w32_of, w64_of, w8_of]) <;> first | assumption | omega | (split <;> omega) | (refine And.intro ?_ ?_ <;> split <;> omega)) | omega) ?_
      rintro ⟨a_17, e_18⟩ y12
      try dsimp only at y12 ⊢
      have g11 := y12
      have c14 := w64_rng a_17
      have c15 := w64_rng b_15
      refine wp_if (fun c13 => ?_) (fun c13 => ?_)
      · try simp (disch := omega) only [w32_of, w64_of, w8_of, decide_eq_true_eq, decide_eq_false_iff_not, Bool.not_eq_true] at c13
        exact wp_some (x_inl ⟨(by (try dsimp only) <;> first | assumption | omega | ((try simp (disch := omega) only [w32_of, w64_of, w8_of]) <;> first | assumption | omega | (split <;> omega) | (refine And.intro ?_ ?_ <;> split <;> omega)) | omega), (by (try dsimp only) <;> first | assumption | omega | ((try simp (disch := omega) only [w32_of, w64_of, w8_of]) <;> first | assumption | omega | (split <;> omega) | (refine And.intro ?_ ?_ <;> split <;> omega)) | omega)⟩)
      · try simp (disch := omega) only [w32_of, w64_of, w8_of, decide_eq_true_eq, decide_eq_false_iff_not, Bool.not_eq_true] at c13
        exact wp_some (x_inr trivial)
    rintro ⟨a_29, e_30⟩ _ -
    try dsimp only
    refine wp_bd (P := fun rr_ => True) ?_ ?_
    · refine wp_whl (fun ss_ => (0 ≤ ss_.2.2 ∧ ss_.2.2 ≤ 53)) (fun ss_ => (60 - ss_.2.2).toNat) (by (try dsimp only) <;> first | assumption | omega | ((try simp (disch := omega) only [w32_of, w64_of, w8_of]) <;> first | assumption | omega | (split <;> omega) | (refine And.intro ?_ ?_ <;> split <;> omega)) | omega) ?_
      rintro ⟨a_31, m_32, k_33⟩ y18
      try dsimp only at y18 ⊢
      have g17 := y18
      have c20 := w32_rng k_33
      refine wp_if (fun c19 => ?_) (fun c19 => ?_)
      · try simp (disch := omega) only [w32_of, w64_of, w8_of, decide_eq_true_eq, decide_eq_false_iff_not, Bool.not_eq_true] at c19
        refine wp_bd (P := fun rr_ => True) ?_ ?_
        · have c22 := w64_rng b_15
          have c23 := w64_rng a_31
          refine wp_if (fun c21 => ?_) (fun c21 => ?_)
          · try simp (disch := omega) only [w32_of, w64_of, w8_of, decide_eq_true_eq, decide_eq_false_iff_not, Bool.not_eq_true] at c21
            exact wp_some trivial
          · try simp (disch := omega) only [w32_of, w64_of, w8_of, decide_eq_true_eq, decide_eq_false_iff_not, Bool.not_eq_true] at c21
            exact wp_some trivial
        rintro ⟨a_49, m_50⟩ _ -
        try dsimp only
        exact wp_some (x_inl ⟨(by (try dsimp only) <;> first | assumption | omega | ((try simp (disch := omega) only [w32_of, w64_of, w8_of]) <;> first | assumption | omega | (split <;> omega) | (refine And.intro ?_ ?_ <;> split <;> omega)) | omega), (by (try dsimp only) <;> first | assumption | omega | ((try simp (disch := omega) only [w32_of, w64_of, w8_of]) <;> first | assumption | omega | (split <;> omega) | (refine And.intro ?_ ?_ <;> split <;> omega)) | omega)⟩)
      · try simp (disch := omega) only [w32_of, w64_of, w8_of, decide_eq_true_eq, decide_eq_false_iff_not, Bool.not_eq_true] at c19
        exact wp_some (x_inr trivial)
    rintro ⟨a_54, m_55, k_56⟩ _ -
    try dsimp only
    refine wp_bd (P := fun rr_ => True) ?_ ?_
    · have c27 := w64_rng b_15
      have c28 := w64_rng a_54
      have c29 := q_lan_bd m_55 (m := 1) (by decide) (by decide)
      try simp (disch := omega) only [w32_of, w64_of, w8_of] at c29
      have c30 := w64_rng (q_lan m_55 1)
      refine wp_if (fun c26 => ?_) (fun c26 => ?_)
      · try simp (disch := omega) only [w32_of, w64_of, w8_of, decide_eq_true_eq, decide_eq_false_iff_not, Bool.not_eq_true] at c26
        exact wp_some trivial
      · try simp (disch := omega) only [w32_of, w64_of, w8_of, decide_eq_true_eq, decide_eq_false_iff_not, Bool.not_eq_true] at c26
        exact wp_some trivial
    rintro m_72 _ -
    refine wp_bd (P := fun rr_ => True) ?_ ?_
    · have c32 := w64_rng m_72
      refine wp_if (fun c31 => ?_) (fun c31 => ?_)
      · try simp (disch := omega) only [w32_of, w64_of, w8_of, decide_eq_true_eq, decide_eq_false_iff_not, Bool.not_eq_true] at c31
        exact wp_some trivial
      · try simp (disch := omega) only [w32_of, w64_of, w8_of, decide_eq_true_eq, decide_eq_false_iff_not, Bool.not_eq_true] at c31
        exact wp_some trivial
    rintro ⟨e_80, m_81⟩ _ -
    try dsimp only
    have c34 := w32_rng (e_80 + 1023)
    have c35 := q_lsl_rng (w32 (e_80 + 1023)) 52
    have c36 := q_lan_bd m_81 (m := 4503599627370495) (by decide) (by decide)
    try simp (disch := omega) only [w32_of, w64_of, w8_of] at c36
    have c37 := q_lor_rng (q_lsl (w32 (e_80 + 1023)) 52) (q_lan m_81 4503599627370495)
    refine wp_lt (fun x_82 e_x_82 => ?_)
    try simp (disch := omega) only [w32_of, w64_of, w8_of] at e_x_82
    exact wp_some trivial
theorem v_putPoints {σ : SG} {n_0 : Int} {order_0 : Int} (hσ : II σ) (qorder_0 : 0 ≤ order_0 ∧ order_0 ≤ 1) (w0 : 0 ≤ n_0) (w1 : σ kR_pointAt 0 + n_0 ≤ 67584) (w2 : σ kR_resultMany 0 + 16 * n_0 ≤ 131072) : wp_ (fR_putPoints σ n_0 order_0) (fun zz_ => II zz_ ∧ FR [kR_pointAt, kR_result, kR_resultMany] σ zz_ ∧ (zz_ kR_pointAt 0 = σ kR_pointAt 0 + n_0) ∧ (zz_ kR_resultMany 0 = σ kR_resultMany 0 + 16 * n_0)) := by
  unfold fR_putPoints
  have c1 := ii_kR_pointAt hσ 0
  have c2 := ii_kR_resultMany hσ 0
  have hp0 := ii_kR_pointAt hσ 0
  refine wp_bd (P := fun rr_ => II rr_.2 ∧ FR [kR_pointAt, kR_result, kR_resultMany] σ rr_.2 ∧ (rr_.2 kR_pointAt 0 = σ kR_pointAt 0 + n_0) ∧ (rr_.2 kR_resultMany 0 = σ kR_resultMany 0 + 16 * n_0)) ?_ ?_
  · refine wp_whl (fun ss_ => II ss_.2 ∧ FR [kR_pointAt, kR_result, kR_resultMany] σ ss_.2 ∧ (0 ≤ ss_.1 ∧ ss_.1 ≤ n_0) ∧ (ss_.2 kR_pointAt 0 = σ kR_pointAt 0 + ss_.1) ∧ (ss_.2 kR_resultMany 0 = σ kR_resultMany 0 + 16 * ss_.1)) (fun ss_ => (n_0 - ss_.1).toNat) ⟨hσ, (FR_refl _ _), (by (try dsimp only) <;> first | assumption | omega | ((try simp (disch := omega) only [w32_of, w64_of, w8_of]) <;> first | assumption | omega | (split <;> omega) | (refine And.intro ?_ ?_ <;> split <;> omega)) | omega), (by (try dsimp only) <;> first | assumption | omega | ((try simp (disch := omega) only [w32_of, w64_of, w8_of]) <;> first | assumption | omega | (split <;> omega) | (refine And.intro ?_ ?_ <;> split <;> omega)) | omega), (by (try dsimp only) <;> first | assumption | omega | ((try simp (disch := omega) only [w32_of, w64_of, w8_of]) <;> first | assumption | omega | (split <;> omega) | (refine And.intro ?_ ?_ <;> split <;> omega)) | omega)⟩ ?_
    rintro ⟨k_1, σ_2⟩ y6
    try dsimp only at y6 ⊢
    obtain ⟨hσ_2, frσ_2, g3, g4, g5⟩ := y6
    have c8 := w32_rng k_1
    have c9 := w32_rng n_0
    refine wp_if (fun c7 => ?_) (fun c7 => ?_)
    · try simp (disch := omega) only [w32_of, w64_of, w8_of, decide_eq_true_eq, decide_eq_false_iff_not, Bool.not_eq_true] at c7
      have c10 := ii_kR_pointAt hσ_2 0
      have c11 := w32_rng (σ_2 kR_pointAt 0)
      refine wp_rdI (by (try dsimp only) <;> first | assumption | omega | ((try simp (disch := omega) only [w32_of, w64_of, w8_of]) <;> first | assumption | omega | (split <;> omega) | (refine And.intro ?_ ?_ <;> split <;> omega)) | omega) (by (try dsimp only) <;> first | assumption | omega | ((try simp (disch := omega) only [w32_of, w64_of, w8_of]) <;> first | assumption | omega | (split <;> omega) | (refine And.intro ?_ ?_ <;> split <;> omega)) | omega) (fun x_11 e_x_11 => ?_)
      have b_x_11 : (-1000000000) ≤ x_11 ∧ x_11 ≤ 1000000000 := by rw [e_x_11]; exact ii_kR_xs hσ_2 _
      rw [FR_at frσ_2 (c := kR_xs) (by decide)] at e_x_11
      try simp (disch := omega) only [w32_of, w64_of, w8_of] at e_x_11
      have c12 := ii_kR_xs hσ_2 (σ_2 kR_pointAt 0)
      have c13 := FR_at frσ_2 (c := kR_xs) (by decide) (σ_2 kR_pointAt 0)
      have c14 := ii_kR_xs hσ (σ_2 kR_pointAt 0)
      refine wp_bd (v_fraction (σ := σ_2) (v_0 := x_11) hσ_2 (by (try dsimp only) <;> first | assumption | omega | ((try simp (disch := omega) only [w32_of, w64_of, w8_of]) <;> first | assumption | omega | (split <;> omega) | (refine And.intro ?_ ?_ <;> split <;> omega)) | omega)) ?_
      rintro x_14 - -
      have c16 := ii_kR_resultMany hσ_2 0
      refine wp_bd (v_putBytes (σ := σ_2) (v_0 := x_14) (n_0 := 8) (order_0 := order_0) hσ_2 (by (try dsimp only) <;> first | assumption | omega | ((try simp (disch := omega) only [w32_of, w64_of, w8_of]) <;> first | assumption | omega | (split <;> omega) | (refine And.intro ?_ ?_ <;> split <;> omega)) | omega) (by (try dsimp only) <;> first | assumption | omega | ((try simp (disch := omega) only [w32_of, w64_of, w8_of]) <;> first | assumption | omega | (split <;> omega) | (refine And.intro ?_ ?_ <;> split <;> omega)) | omega) (by (try dsimp only) <;> first | assumption | omega | ((try simp (disch := omega) only [w32_of, w64_of, w8_of]) <;> first | assumption | omega | (split <;> omega) | (refine And.intro ?_ ?_ <;> split <;> omega)) | omega)) ?_
      rintro σ_16 - ⟨hσ_16, flσ_16, g17⟩
      have frσ_16 : FR [kR_pointAt, kR_result, kR_resultMany] σ σ_16 := FR_tr frσ_2 flσ_16 (by decide) (by decide)
      have c18 := ii_kR_resultMany hσ_16 0
      try simp (disch := omega) only [w32_of, w64_of, w8_of] at g17
      have c19 := ii_kR_pointAt hσ_16 0
      have c20 := FR_at flσ_16 (c := kR_pointAt) (by decide) 0
      have c21 := w32_rng (σ_16 kR_pointAt 0)
      refine wp_rdI (by (try dsimp only) <;> first | assumption | omega | ((try simp (disch := omega) only [w32_of, w64_of, w8_of]) <;> first | assumption | omega | (split <;> omega) | (refine And.intro ?_ ?_ <;> split <;> omega)) | omega) (by (try dsimp only) <;> first | assumption | omega | ((try simp (disch := omega) only [w32_of, w64_of, w8_of]) <;> first | assumption | omega | (split <;> omega) | (refine And.intro ?_ ?_ <;> split <;> omega)) | omega) (fun x_17 e_x_17 => ?_)
      have b_x_17 : (-1000000000) ≤ x_17 ∧ x_17 ≤ 1000000000 := by rw [e_x_17]; exact ii_kR_ys hσ_16 _
      rw [FR_at frσ_16 (c := kR_ys) (by decide)] at e_x_17
      try simp (disch := omega) only [w32_of, w64_of, w8_of] at e_x_17
      have c22 := ii_kR_ys hσ_16 (σ_16 kR_pointAt 0)
      have c23 := FR_at flσ_16 (c := kR_ys) (by decide) (σ_16 kR_pointAt 0)
      have c24 := ii_kR_ys hσ_2 (σ_16 kR_pointAt 0)
      have c25 := FR_at frσ_2 (c := kR_ys) (by decide) (σ_16 kR_pointAt 0)
      have c26 := ii_kR_ys hσ (σ_16 kR_pointAt 0)
      refine wp_bd (v_fraction (σ := σ_16) (v_0 := x_17) hσ_16 (by (try dsimp only) <;> first | assumption | omega | ((try simp (disch := omega) only [w32_of, w64_of, w8_of]) <;> first | assumption | omega | (split <;> omega) | (refine And.intro ?_ ?_ <;> split <;> omega)) | omega)) ?_
      rintro x_20 - -
      refine wp_bd (v_putBytes (σ := σ_16) (v_0 := x_20) (n_0 := 8) (order_0 := order_0) hσ_16 (by (try dsimp only) <;> first | assumption | omega | ((try simp (disch := omega) only [w32_of, w64_of, w8_of]) <;> first | assumption | omega | (split <;> omega) | (refine And.intro ?_ ?_ <;> split <;> omega)) | omega) (by (try dsimp only) <;> first | assumption | omega | ((try simp (disch := omega) only [w32_of, w64_of, w8_of]) <;> first | assumption | omega | (split <;> omega) | (refine And.intro ?_ ?_ <;> split <;> omega)) | omega) (by (try dsimp only) <;> first | assumption | omega | ((try simp (disch := omega) only [w32_of, w64_of, w8_of]) <;> first | assumption | omega | (split <;> omega) | (refine And.intro ?_ ?_ <;> split <;> omega)) | omega)) ?_
      rintro σ_22 - ⟨hσ_22, flσ_22, g28⟩
      have frσ_22 : FR [kR_pointAt, kR_result, kR_resultMany] σ σ_22 := FR_tr frσ_16 flσ_22 (by decide) (by decide)
      have c29 := ii_kR_resultMany hσ_22 0
      try simp (disch := omega) only [w32_of, w64_of, w8_of] at g28
      have c30 := ii_kR_pointAt hσ_22 0
      have c31 := FR_at flσ_22 (c := kR_pointAt) (by decide) 0
      refine wp_wfI hσ_22 b_kR_pointAt (by (try dsimp only) <;> first | assumption | omega | ((try simp (disch := omega) only [w32_of, w64_of, w8_of]) <;> first | assumption | omega | (split <;> omega) | (refine And.intro ?_ ?_ <;> split <;> omega)) | omega) (fun σ_23 hσ_23 eσ_23 => ?_)
      try simp (disch := omega) only [w32_of, w64_of, w8_of] at eσ_23
      have flσ_23 := FR_sg eσ_23
      have frσ_23 : FR [kR_pointAt, kR_result, kR_resultMany] σ σ_23 := FR_tr frσ_22 flσ_23 (by decide) (by decide)
      have c32 := ii_kR_pointAt hσ_23 0
      have c33 := sg_val eσ_23
      have c34 := ii_kR_resultMany hσ_23 0
      have c35 := FR_at flσ_23 (c := kR_resultMany) (by decide) 0
      exact wp_some (x_inl ⟨⟨hσ_23, frσ_23, (by (try dsimp only) <;> first | assumption | omega | ((try simp (disch := omega) only [w32_of, w64_of, w8_of]) <;> first | assumption | omega | (split <;> omega) | (refine And.intro ?_ ?_ <;> split <;> omega)) | omega), (by (try dsimp only) <;> first | assumption | omega | ((try simp (disch := omega) only [w32_of, w64_of, w8_of]) <;> first | assumption | omega | (split <;> omega) | (refine And.intro ?_ ?_ <;> split <;> omega)) | omega), (by (try dsimp only) <;> first | assumption | omega | ((try simp (disch := omega) only [w32_of, w64_of, w8_of]) <;> first | assumption | omega | (split <;> omega) | (refine And.intro ?_ ?_ <;> split <;> omega)) | omega)⟩, (by (try dsimp only) <;> first | assumption | omega | ((try simp (disch := omega) only [w32_of, w64_of, w8_of]) <;> first | assumption | omega | (split <;> omega) | (refine And.intro ?_ ?_ <;> split <;> omega)) | omega)⟩)
    · try simp (disch := omega) only [w32_of, w64_of, w8_of, decide_eq_true_eq, decide_eq_false_iff_not, Bool.not_eq_true] at c7
      have c36 := ii_kR_pointAt hσ_2 0
      have c37 := ii_kR_resultMany hσ_2 0
      exact wp_some (x_inr ⟨hσ_2, frσ_2, (by (try dsimp only) <;> first | assumption | omega | ((try simp (disch := omega) only [w32_of, w64_of, w8_of]) <;> first | assumption | omega | (split <;> omega) | (refine And.intro ?_ ?_ <;> split <;> omega)) | omega), (by (try dsimp only) <;> first | assumption | omega | ((try simp (disch := omega) only [w32_of, w64_of, w8_of]) <;> first | assumption | omega | (split <;> omega) | (refine And.intro ?_ ?_ <;> split <;> omega)) | omega)⟩)
  rintro ⟨k_26, σ_27⟩ _ y40
  try dsimp only at y40 ⊢
  obtain ⟨hσ_27, frσ_27, g38, g39⟩ := y40
  have c41 := ii_kR_pointAt hσ_27 0
  have c42 := ii_kR_resultMany hσ_27 0
  exact wp_some ⟨hσ_27, frσ_27, (by (try dsimp only) <;> first | assumption | omega | ((try simp (disch := omega) only [w32_of, w64_of, w8_of]) <;> first | assumption | omega | (split <;> omega) | (refine And.intro ?_ ?_ <;> split <;> omega)) | omega), (by (try dsimp only) <;> first | assumption | omega | ((try simp (disch := omega) only [w32_of, w64_of, w8_of]) <;> first | assumption | omega | (split <;> omega) | (refine And.intro ?_ ?_ <;> split <;> omega)) | omega)⟩
